section
variable {p : Program} {l : Launch} {e : Env} {s : State} {m : MethodId} {args : Array Value} {below : List Frame} {meth : Method} {c : Code} {dC : Nat → ClassId} {dI : Nat → Nat → Nat} {cs : Nat → ClassId} {q : Nat → Nat} {A : Nat → Prop}
/-! X12_stretch -/
theorem dX12_stretch_0 : decode cX12_stretch 0 = .ok (.aload_n 0, 1) := by decide +kernel
theorem dX12_stretch_1 : decode cX12_stretch 1 = .ok (.getfield 54, 3) := by decide +kernel
theorem dX12_stretch_4 : decode cX12_stretch 4 = .ok (.iconst 0, 1) := by decide +kernel
theorem dX12_stretch_5 : decode cX12_stretch 5 = .ok (.iaload, 1) := by decide +kernel
theorem dX12_stretch_6 : decode cX12_stretch 6 = .ok (.istore 4, 2) := by decide +kernel
theorem dX12_stretch_8 : decode cX12_stretch 8 = .ok (.bipush 48, 2) := by decide +kernel
theorem dX12_stretch_10 : decode cX12_stretch 10 = .ok (.iload_n 1, 1) := by decide +kernel
theorem dX12_stretch_11 : decode cX12_stretch 11 = .ok (.iconst 1, 1) := by decide +kernel
theorem dX12_stretch_12 : decode cX12_stretch 12 = .ok (.iadd, 1) := by decide +kernel
theorem dX12_stretch_13 : decode cX12_stretch 13 = .ok (.imul, 1) := by decide +kernel
theorem dX12_stretch_14 : decode cX12_stretch 14 = .ok (.istore 5, 2) := by decide +kernel
theorem dX12_stretch_16 : decode cX12_stretch 16 = .ok (.iconst 0, 1) := by decide +kernel
theorem dX12_stretch_17 : decode cX12_stretch 17 = .ok (.istore 6, 2) := by decide +kernel
theorem dX12_stretch_19 : decode cX12_stretch 19 = .ok (.iload 6, 2) := by decide +kernel
theorem dX12_stretch_21 : decode cX12_stretch 21 = .ok (.iload 4, 2) := by decide +kernel
theorem dX12_stretch_23 : decode cX12_stretch 23 = .ok (.if_icmp .ge 66, 3) := by decide +kernel
theorem dX12_stretch_26 : decode cX12_stretch 26 = .ok (.aload_n 0, 1) := by decide +kernel
theorem dX12_stretch_27 : decode cX12_stretch 27 = .ok (.getfield 96, 3) := by decide +kernel
theorem dX12_stretch_30 : decode cX12_stretch 30 = .ok (.iload 5, 2) := by decide +kernel
theorem dX12_stretch_32 : decode cX12_stretch 32 = .ok (.iload 6, 2) := by decide +kernel
theorem dX12_stretch_34 : decode cX12_stretch 34 = .ok (.iadd, 1) := by decide +kernel
theorem dX12_stretch_35 : decode cX12_stretch 35 = .ok (.aload_n 0, 1) := by decide +kernel
theorem dX12_stretch_36 : decode cX12_stretch 36 = .ok (.getfield 96, 3) := by decide +kernel
theorem dX12_stretch_39 : decode cX12_stretch 39 = .ok (.iload 5, 2) := by decide +kernel
theorem dX12_stretch_41 : decode cX12_stretch 41 = .ok (.bipush 48, 2) := by decide +kernel
theorem dX12_stretch_43 : decode cX12_stretch 43 = .ok (.isub, 1) := by decide +kernel
theorem dX12_stretch_44 : decode cX12_stretch 44 = .ok (.iload 6, 2) := by decide +kernel
theorem dX12_stretch_46 : decode cX12_stretch 46 = .ok (.iadd, 1) := by decide +kernel
theorem dX12_stretch_47 : decode cX12_stretch 47 = .ok (.iaload, 1) := by decide +kernel
theorem dX12_stretch_48 : decode cX12_stretch 48 = .ok (.aload_n 0, 1) := by decide +kernel
theorem dX12_stretch_49 : decode cX12_stretch 49 = .ok (.getfield 87, 3) := by decide +kernel
theorem dX12_stretch_52 : decode cX12_stretch 52 = .ok (.bipush 96, 2) := by decide +kernel
theorem dX12_stretch_54 : decode cX12_stretch 54 = .ok (.iload_n 2, 1) := by decide +kernel
theorem dX12_stretch_55 : decode cX12_stretch 55 = .ok (.imul, 1) := by decide +kernel
theorem dX12_stretch_56 : decode cX12_stretch 56 = .ok (.iload 6, 2) := by decide +kernel
theorem dX12_stretch_58 : decode cX12_stretch 58 = .ok (.iadd, 1) := by decide +kernel
theorem dX12_stretch_59 : decode cX12_stretch 59 = .ok (.iaload, 1) := by decide +kernel
theorem dX12_stretch_60 : decode cX12_stretch 60 = .ok (.iadd, 1) := by decide +kernel
theorem dX12_stretch_61 : decode cX12_stretch 61 = .ok (.iload_n 3, 1) := by decide +kernel
theorem dX12_stretch_62 : decode cX12_stretch 62 = .ok (.ifCond .ge 7, 3) := by decide +kernel
theorem dX12_stretch_65 : decode cX12_stretch 65 = .ok (.iconst 0, 1) := by decide +kernel
theorem dX12_stretch_66 : decode cX12_stretch 66 = .ok (.goto 15, 3) := by decide +kernel
theorem dX12_stretch_69 : decode cX12_stretch 69 = .ok (.aload_n 0, 1) := by decide +kernel
theorem dX12_stretch_70 : decode cX12_stretch 70 = .ok (.getfield 87, 3) := by decide +kernel
theorem dX12_stretch_73 : decode cX12_stretch 73 = .ok (.bipush 96, 2) := by decide +kernel
theorem dX12_stretch_75 : decode cX12_stretch 75 = .ok (.iload_n 3, 1) := by decide +kernel
theorem dX12_stretch_76 : decode cX12_stretch 76 = .ok (.imul, 1) := by decide +kernel
theorem dX12_stretch_77 : decode cX12_stretch 77 = .ok (.iload 6, 2) := by decide +kernel
theorem dX12_stretch_79 : decode cX12_stretch 79 = .ok (.iadd, 1) := by decide +kernel
theorem dX12_stretch_80 : decode cX12_stretch 80 = .ok (.iaload, 1) := by decide +kernel
theorem dX12_stretch_81 : decode cX12_stretch 81 = .ok (.isub, 1) := by decide +kernel
theorem dX12_stretch_82 : decode cX12_stretch 82 = .ok (.iastore, 1) := by decide +kernel
theorem dX12_stretch_83 : decode cX12_stretch 83 = .ok (.iinc 6 1, 3) := by decide +kernel
theorem dX12_stretch_86 : decode cX12_stretch 86 = .ok (.goto (-67), 3) := by decide +kernel
theorem dX12_stretch_89 : decode cX12_stretch 89 = .ok (.aload_n 0, 1) := by decide +kernel
theorem dX12_stretch_90 : decode cX12_stretch 90 = .ok (.getfield 99, 3) := by decide +kernel
theorem dX12_stretch_93 : decode cX12_stretch 93 = .ok (.iload_n 1, 1) := by decide +kernel
theorem dX12_stretch_94 : decode cX12_stretch 94 = .ok (.iconst 0, 1) := by decide +kernel
theorem dX12_stretch_95 : decode cX12_stretch 95 = .ok (.iastore, 1) := by decide +kernel
theorem dX12_stretch_96 : decode cX12_stretch 96 = .ok (.iconst 0, 1) := by decide +kernel
theorem dX12_stretch_97 : decode cX12_stretch 97 = .ok (.istore 6, 2) := by decide +kernel
theorem dX12_stretch_99 : decode cX12_stretch 99 = .ok (.iload 6, 2) := by decide +kernel
theorem dX12_stretch_101 : decode cX12_stretch 101 = .ok (.iconst 1, 1) := by decide +kernel
theorem dX12_stretch_102 : decode cX12_stretch 102 = .ok (.iadd, 1) := by decide +kernel
theorem dX12_stretch_103 : decode cX12_stretch 103 = .ok (.iload 4, 2) := by decide +kernel
theorem dX12_stretch_105 : decode cX12_stretch 105 = .ok (.if_icmp .ge 159, 3) := by decide +kernel
theorem dX12_stretch_108 : decode cX12_stretch 108 = .ok (.aload_n 0, 1) := by decide +kernel
theorem dX12_stretch_109 : decode cX12_stretch 109 = .ok (.getfield 99, 3) := by decide +kernel
theorem dX12_stretch_112 : decode cX12_stretch 112 = .ok (.iload_n 1, 1) := by decide +kernel
theorem dX12_stretch_113 : decode cX12_stretch 113 = .ok (.iaload, 1) := by decide +kernel
theorem dX12_stretch_114 : decode cX12_stretch 114 = .ok (.ldc_w 333, 3) := by decide +kernel
theorem dX12_stretch_117 : decode cX12_stretch 117 = .ok (.if_icmp .ge 147, 3) := by decide +kernel
theorem dX12_stretch_120 : decode cX12_stretch 120 = .ok (.aload_n 0, 1) := by decide +kernel
theorem dX12_stretch_121 : decode cX12_stretch 121 = .ok (.getfield 96, 3) := by decide +kernel
theorem dX12_stretch_124 : decode cX12_stretch 124 = .ok (.iload 5, 2) := by decide +kernel
theorem dX12_stretch_126 : decode cX12_stretch 126 = .ok (.iload 6, 2) := by decide +kernel
theorem dX12_stretch_128 : decode cX12_stretch 128 = .ok (.iadd, 1) := by decide +kernel
theorem dX12_stretch_129 : decode cX12_stretch 129 = .ok (.iaload, 1) := by decide +kernel
theorem dX12_stretch_130 : decode cX12_stretch 130 = .ok (.aload_n 0, 1) := by decide +kernel
theorem dX12_stretch_131 : decode cX12_stretch 131 = .ok (.getfield 96, 3) := by decide +kernel
theorem dX12_stretch_134 : decode cX12_stretch 134 = .ok (.iload 5, 2) := by decide +kernel
theorem dX12_stretch_136 : decode cX12_stretch 136 = .ok (.iload 6, 2) := by decide +kernel
theorem dX12_stretch_138 : decode cX12_stretch 138 = .ok (.iadd, 1) := by decide +kernel
theorem dX12_stretch_139 : decode cX12_stretch 139 = .ok (.iconst 1, 1) := by decide +kernel
theorem dX12_stretch_140 : decode cX12_stretch 140 = .ok (.iadd, 1) := by decide +kernel
theorem dX12_stretch_141 : decode cX12_stretch 141 = .ok (.iaload, 1) := by decide +kernel
theorem dX12_stretch_142 : decode cX12_stretch 142 = .ok (.isub, 1) := by decide +kernel
theorem dX12_stretch_143 : decode cX12_stretch 143 = .ok (.istore 7, 2) := by decide +kernel
theorem dX12_stretch_145 : decode cX12_stretch 145 = .ok (.aload_n 0, 1) := by decide +kernel
theorem dX12_stretch_146 : decode cX12_stretch 146 = .ok (.getfield 37, 3) := by decide +kernel
theorem dX12_stretch_149 : decode cX12_stretch 149 = .ok (.iload 6, 2) := by decide +kernel
theorem dX12_stretch_151 : decode cX12_stretch 151 = .ok (.baload, 1) := by decide +kernel
theorem dX12_stretch_152 : decode cX12_stretch 152 = .ok (.ifCond .ne 30, 3) := by decide +kernel
theorem dX12_stretch_155 : decode cX12_stretch 155 = .ok (.aload_n 0, 1) := by decide +kernel
theorem dX12_stretch_156 : decode cX12_stretch 156 = .ok (.getfield 37, 3) := by decide +kernel
theorem dX12_stretch_159 : decode cX12_stretch 159 = .ok (.iload 6, 2) := by decide +kernel
theorem dX12_stretch_161 : decode cX12_stretch 161 = .ok (.iconst 1, 1) := by decide +kernel
theorem dX12_stretch_162 : decode cX12_stretch 162 = .ok (.iadd, 1) := by decide +kernel
theorem dX12_stretch_163 : decode cX12_stretch 163 = .ok (.baload, 1) := by decide +kernel
theorem dX12_stretch_164 : decode cX12_stretch 164 = .ok (.ifCond .ne 18, 3) := by decide +kernel
theorem dX12_stretch_167 : decode cX12_stretch 167 = .ok (.iload 7, 2) := by decide +kernel
theorem dX12_stretch_169 : decode cX12_stretch 169 = .ok (.invokestatic 334, 3) := by decide +kernel
theorem dX12_stretch_172 : decode cX12_stretch 172 = .ok (.aload_n 0, 1) := by decide +kernel
theorem dX12_stretch_173 : decode cX12_stretch 173 = .ok (.getfield 41, 3) := by decide +kernel
theorem dX12_stretch_176 : decode cX12_stretch 176 = .ok (.iload 6, 2) := by decide +kernel
theorem dX12_stretch_178 : decode cX12_stretch 178 = .ok (.iaload, 1) := by decide +kernel
theorem dX12_stretch_179 : decode cX12_stretch 179 = .ok (.if_icmp .gt 9, 3) := by decide +kernel
theorem dX12_stretch_182 : decode cX12_stretch 182 = .ok (.iinc 6 1, 3) := by decide +kernel
theorem dX12_stretch_185 : decode cX12_stretch 185 = .ok (.goto (-86), 3) := by decide +kernel
theorem dX12_stretch_188 : decode cX12_stretch 188 = .ok (.aload_n 0, 1) := by decide +kernel
theorem dX12_stretch_189 : decode cX12_stretch 189 = .ok (.getfield 96, 3) := by decide +kernel
theorem dX12_stretch_192 : decode cX12_stretch 192 = .ok (.iload 5, 2) := by decide +kernel
theorem dX12_stretch_194 : decode cX12_stretch 194 = .ok (.iload 6, 2) := by decide +kernel
theorem dX12_stretch_196 : decode cX12_stretch 196 = .ok (.iadd, 1) := by decide +kernel
theorem dX12_stretch_197 : decode cX12_stretch 197 = .ok (.dup2, 1) := by decide +kernel
theorem dX12_stretch_198 : decode cX12_stretch 198 = .ok (.iaload, 1) := by decide +kernel
theorem dX12_stretch_199 : decode cX12_stretch 199 = .ok (.iload 7, 2) := by decide +kernel
theorem dX12_stretch_201 : decode cX12_stretch 201 = .ok (.ifCond .le 7, 3) := by decide +kernel
theorem dX12_stretch_204 : decode cX12_stretch 204 = .ok (.iconst (-1), 1) := by decide +kernel
theorem dX12_stretch_205 : decode cX12_stretch 205 = .ok (.goto 4, 3) := by decide +kernel
theorem dX12_stretch_208 : decode cX12_stretch 208 = .ok (.iconst 1, 1) := by decide +kernel
theorem dX12_stretch_209 : decode cX12_stretch 209 = .ok (.iadd, 1) := by decide +kernel
theorem dX12_stretch_210 : decode cX12_stretch 210 = .ok (.iastore, 1) := by decide +kernel
theorem dX12_stretch_211 : decode cX12_stretch 211 = .ok (.aload_n 0, 1) := by decide +kernel
theorem dX12_stretch_212 : decode cX12_stretch 212 = .ok (.getfield 96, 3) := by decide +kernel
theorem dX12_stretch_215 : decode cX12_stretch 215 = .ok (.iload 5, 2) := by decide +kernel
theorem dX12_stretch_217 : decode cX12_stretch 217 = .ok (.iload 6, 2) := by decide +kernel
theorem dX12_stretch_219 : decode cX12_stretch 219 = .ok (.iadd, 1) := by decide +kernel
theorem dX12_stretch_220 : decode cX12_stretch 220 = .ok (.iconst 1, 1) := by decide +kernel
theorem dX12_stretch_221 : decode cX12_stretch 221 = .ok (.iadd, 1) := by decide +kernel
theorem dX12_stretch_222 : decode cX12_stretch 222 = .ok (.dup2, 1) := by decide +kernel
theorem dX12_stretch_223 : decode cX12_stretch 223 = .ok (.iaload, 1) := by decide +kernel
theorem dX12_stretch_224 : decode cX12_stretch 224 = .ok (.iload 7, 2) := by decide +kernel
theorem dX12_stretch_226 : decode cX12_stretch 226 = .ok (.ifCond .le 7, 3) := by decide +kernel
theorem dX12_stretch_229 : decode cX12_stretch 229 = .ok (.iconst 1, 1) := by decide +kernel
theorem dX12_stretch_230 : decode cX12_stretch 230 = .ok (.goto 4, 3) := by decide +kernel
theorem dX12_stretch_233 : decode cX12_stretch 233 = .ok (.iconst (-1), 1) := by decide +kernel
theorem dX12_stretch_234 : decode cX12_stretch 234 = .ok (.iadd, 1) := by decide +kernel
theorem dX12_stretch_235 : decode cX12_stretch 235 = .ok (.iastore, 1) := by decide +kernel
theorem dX12_stretch_236 : decode cX12_stretch 236 = .ok (.aload_n 0, 1) := by decide +kernel
theorem dX12_stretch_237 : decode cX12_stretch 237 = .ok (.getfield 99, 3) := by decide +kernel
theorem dX12_stretch_240 : decode cX12_stretch 240 = .ok (.iload_n 1, 1) := by decide +kernel
theorem dX12_stretch_241 : decode cX12_stretch 241 = .ok (.dup2, 1) := by decide +kernel
theorem dX12_stretch_242 : decode cX12_stretch 242 = .ok (.iaload, 1) := by decide +kernel
theorem dX12_stretch_243 : decode cX12_stretch 243 = .ok (.iconst 1, 1) := by decide +kernel
theorem dX12_stretch_244 : decode cX12_stretch 244 = .ok (.iadd, 1) := by decide +kernel
theorem dX12_stretch_245 : decode cX12_stretch 245 = .ok (.iastore, 1) := by decide +kernel
theorem dX12_stretch_246 : decode cX12_stretch 246 = .ok (.iload 6, 2) := by decide +kernel
theorem dX12_stretch_248 : decode cX12_stretch 248 = .ok (.ifCond .le 10, 3) := by decide +kernel
theorem dX12_stretch_251 : decode cX12_stretch 251 = .ok (.iload 6, 2) := by decide +kernel
theorem dX12_stretch_253 : decode cX12_stretch 253 = .ok (.iconst 1, 1) := by decide +kernel
theorem dX12_stretch_254 : decode cX12_stretch 254 = .ok (.isub, 1) := by decide +kernel
theorem dX12_stretch_255 : decode cX12_stretch 255 = .ok (.goto 4, 3) := by decide +kernel
theorem dX12_stretch_258 : decode cX12_stretch 258 = .ok (.iconst 0, 1) := by decide +kernel
theorem dX12_stretch_259 : decode cX12_stretch 259 = .ok (.istore 6, 2) := by decide +kernel
theorem dX12_stretch_261 : decode cX12_stretch 261 = .ok (.goto (-162), 3) := by decide +kernel
theorem dX12_stretch_264 : decode cX12_stretch 264 = .ok (.return_, 1) := by decide +kernel
def M_stretch_81 (K : th_St → Prop) (k19 : Int32 → Int32 → Int32 → Int32 → Int32 → Int32 → th_St → Prop) (x1 : Int32) (x2 : Int32) (x3 : Int32) (x4 : Int32) (x5 : Int32) (x6 : Int32) (z0 : Int32) (z1 : Int32) (z2 : Int32) (u : th_St) : Prop :=
  (vp_in z2 1968 ∧ ∀ u_1 : th_St, u_1 = th_sa u 38 (upd (u.2.2.1 38) (z2).toNatClampNeg (z1 - z0)) → ∀ x6_2 : Int32, x6_2 = x6 + (1 : Int32) → k19 x1 x2 x3 x4 x5 x6_2 u_1)
set_option maxHeartbeats 4000000 in
set_option maxRecDepth 100000 in
theorem M_stretch_81_w {K : th_St → Prop} {k19 : Int32 → Int32 → Int32 → Int32 → Int32 → Int32 → th_St → Prop} (C : th_Cx p s m args meth c cX12_stretch RX12 8 (none) (dC, dI) (th_ty cs) th_E0 A) (hk19 : ∀ (x1 : Int32) (x2 : Int32) (x3 : Int32) (x4 : Int32) (x5 : Int32) (x6 : Int32) (u : th_St) (H : Heap) (locs : List Loc) (ls : Array Slot), k19 x1 x2 x3 x4 x5 x6 u → th_wI (dC, dI) (wM cs q) A s.heap u H locs → lv_has ls 8 [(0, .ref (q 0)), (1, .int x1), (2, .int x2), (3, .int x3), (4, .int x4), (5, .int x5), (6, .int x6)] → W p l e (th_rm 1 0 0) s m args below meth c H locs 0 0 (MQ below (va_Qv K (th_Post (dC, dI) (wM cs q) A) A) args s 0 0 A) (F0 m 19 ls [])) (x1 : Int32) (x2 : Int32) (x3 : Int32) (x4 : Int32) (x5 : Int32) (x6 : Int32) (z0 : Int32) (z1 : Int32) (z2 : Int32) (u : th_St) (H : Heap) (locs : List Loc) (ls : Array Slot) (hf : M_stretch_81 K k19 x1 x2 x3 x4 x5 x6 z0 z1 z2 u) (hw : th_wI (dC, dI) (wM cs q) A s.heap u H locs) (hl : lv_has ls 8 [(0, .ref (q 0)), (1, .int x1), (2, .int x2), (3, .int x3), (4, .int x4), (5, .int x5), (6, .int x6)]) : W p l e (th_rm 1 0 0) s m args below meth c H locs 0 0 (MQ below (va_Qv K (th_Post (dC, dI) (wM cs q) A) A) args s 0 0 A) (F0 m 81 ls [.int z0, .int z1, .int z2, .ref (q 38)]) := by
  have hx := C.1
  have hb := C.2.1
  unfold M_stretch_81 at hf
  refine lv_isub hx hb dX12_stretch_81 ?_
  refine ms_38 C hw hf.1 dX12_stretch_82 (fun u_1 e9 H locs hw => ?_)
  replace hf := hf.2 u_1 e9
  clear e9
  obtain ⟨x6_2, e9⟩ : ∃ y : Int32, y = x6 + (1 : Int32) := ⟨_, rfl⟩
  replace hf := hf x6_2 e9
  refine lv_iinc (v := x6_2) (lv' := [(6, .int x6_2), (0, .ref (q 0)), (1, .int x1), (2, .int x2), (3, .int x3), (4, .int x4), (5, .int x5)]) hx hb dX12_stretch_83 hl (k := 6) rfl (by rw [e9]; rfl) (by decide) rfl (fun ls hl => ?_)
  clear e9
  refine lv_goto (tgt := 19) hx hb dX12_stretch_86 (by decide) ?_
  exact hk19 x1 x2 x3 x4 x5 x6_2 u_1 _ _ _ hf hw (lv_sub hl [1, 2, 3, 4, 5, 6, 0] rfl)
def M_stretch_182 (K : th_St → Prop) (k99 : Int32 → Int32 → Int32 → Int32 → th_St → Prop) (x1 : Int32) (x4 : Int32) (x5 : Int32) (x6 : Int32) (u : th_St) : Prop :=
  ∀ x6_1 : Int32, x6_1 = x6 + (1 : Int32) → k99 x1 x4 x5 x6_1 u
set_option maxHeartbeats 4000000 in
set_option maxRecDepth 100000 in
theorem M_stretch_182_w {K : th_St → Prop} {k99 : Int32 → Int32 → Int32 → Int32 → th_St → Prop} (C : th_Cx p s m args meth c cX12_stretch RX12 8 (none) (dC, dI) (th_ty cs) th_E0 A) (hk99 : ∀ (x1 : Int32) (x4 : Int32) (x5 : Int32) (x6 : Int32) (u : th_St) (H : Heap) (locs : List Loc) (ls : Array Slot), k99 x1 x4 x5 x6 u → th_wI (dC, dI) (wM cs q) A s.heap u H locs → lv_has ls 8 [(0, .ref (q 0)), (1, .int x1), (4, .int x4), (5, .int x5), (6, .int x6)] → W p l e (th_rm 1 0 0) s m args below meth c H locs 0 0 (MQ below (va_Qv K (th_Post (dC, dI) (wM cs q) A) A) args s 0 0 A) (F0 m 99 ls [])) (x1 : Int32) (x4 : Int32) (x5 : Int32) (x6 : Int32) (u : th_St) (H : Heap) (locs : List Loc) (ls : Array Slot) (hf : M_stretch_182 K k99 x1 x4 x5 x6 u) (hw : th_wI (dC, dI) (wM cs q) A s.heap u H locs) (hl : lv_has ls 8 [(0, .ref (q 0)), (1, .int x1), (4, .int x4), (5, .int x5), (6, .int x6)]) : W p l e (th_rm 1 0 0) s m args below meth c H locs 0 0 (MQ below (va_Qv K (th_Post (dC, dI) (wM cs q) A) A) args s 0 0 A) (F0 m 182 ls []) := by
  have hx := C.1
  have hb := C.2.1
  unfold M_stretch_182 at hf
  obtain ⟨x6_1, e9⟩ : ∃ y : Int32, y = x6 + (1 : Int32) := ⟨_, rfl⟩
  replace hf := hf x6_1 e9
  refine lv_iinc (v := x6_1) (lv' := [(6, .int x6_1), (0, .ref (q 0)), (1, .int x1), (4, .int x4), (5, .int x5)]) hx hb dX12_stretch_182 hl (k := 4) rfl (by rw [e9]; rfl) (by decide) rfl (fun ls hl => ?_)
  clear e9
  refine lv_goto (tgt := 99) hx hb dX12_stretch_185 (by decide) ?_
  exact hk99 x1 x4 x5 x6_1 u _ _ _ hf hw (lv_sub hl [1, 2, 3, 4, 0] rfl)
def M_stretch_259 (K : th_St → Prop) (k99 : Int32 → Int32 → Int32 → Int32 → th_St → Prop) (x1 : Int32) (x4 : Int32) (x5 : Int32) (z0 : Int32) (u : th_St) : Prop :=
  k99 x1 x4 x5 z0 u
set_option maxHeartbeats 4000000 in
set_option maxRecDepth 100000 in
theorem M_stretch_259_w {K : th_St → Prop} {k99 : Int32 → Int32 → Int32 → Int32 → th_St → Prop} (C : th_Cx p s m args meth c cX12_stretch RX12 8 (none) (dC, dI) (th_ty cs) th_E0 A) (hk99 : ∀ (x1 : Int32) (x4 : Int32) (x5 : Int32) (x6 : Int32) (u : th_St) (H : Heap) (locs : List Loc) (ls : Array Slot), k99 x1 x4 x5 x6 u → th_wI (dC, dI) (wM cs q) A s.heap u H locs → lv_has ls 8 [(0, .ref (q 0)), (1, .int x1), (4, .int x4), (5, .int x5), (6, .int x6)] → W p l e (th_rm 1 0 0) s m args below meth c H locs 0 0 (MQ below (va_Qv K (th_Post (dC, dI) (wM cs q) A) A) args s 0 0 A) (F0 m 99 ls [])) (x1 : Int32) (x4 : Int32) (x5 : Int32) (z0 : Int32) (u : th_St) (H : Heap) (locs : List Loc) (ls : Array Slot) (hf : M_stretch_259 K k99 x1 x4 x5 z0 u) (hw : th_wI (dC, dI) (wM cs q) A s.heap u H locs) (hl : lv_has ls 8 [(0, .ref (q 0)), (1, .int x1), (4, .int x4), (5, .int x5)]) : W p l e (th_rm 1 0 0) s m args below meth c H locs 0 0 (MQ below (va_Qv K (th_Post (dC, dI) (wM cs q) A) A) args s 0 0 A) (F0 m 259 ls [.int z0]) := by
  have hx := C.1
  have hb := C.2.1
  unfold M_stretch_259 at hf
  refine lv_istore (lv' := [(6, .int z0), (0, .ref (q 0)), (1, .int x1), (4, .int x4), (5, .int x5)]) hx hb dX12_stretch_259 hl (by decide) rfl (fun ls hl => ?_)
  refine lv_goto (tgt := 99) hx hb dX12_stretch_261 (by decide) ?_
  exact hk99 x1 x4 x5 z0 u _ _ _ hf hw (lv_sub hl [1, 2, 3, 4, 0] rfl)
def M_stretch_234 (K : th_St → Prop) (k99 : Int32 → Int32 → Int32 → Int32 → th_St → Prop) (x1 : Int32) (x4 : Int32) (x5 : Int32) (x6 : Int32) (z0 : Int32) (z1 : Int32) (z2 : Int32) (u : th_St) : Prop :=
  (vp_in z2 1968 ∧ ∀ u_1 : th_St, u_1 = th_sa u 38 (upd (u.2.2.1 38) (z2).toNatClampNeg (z1 + z0)) → (vp_in x1 40 ∧ ∀ y_2 : Int32, y_2 = u_1.2.2.1 39 (x1).toNatClampNeg → (vp_in x1 40 ∧ ∀ u_3 : th_St, u_3 = th_sa u_1 39 (upd (u_1.2.2.1 39) (x1).toNatClampNeg (y_2 + (1 : Int32))) → ((x6 ≤ 0 → M_stretch_259 K k99 x1 x4 x5 (0 : Int32) u_3) ∧ (¬ x6 ≤ 0 → M_stretch_259 K k99 x1 x4 x5 (x6 - (1 : Int32)) u_3)))))
set_option maxHeartbeats 4000000 in
set_option maxRecDepth 100000 in
theorem M_stretch_234_w {K : th_St → Prop} {k99 : Int32 → Int32 → Int32 → Int32 → th_St → Prop} (C : th_Cx p s m args meth c cX12_stretch RX12 8 (none) (dC, dI) (th_ty cs) th_E0 A) (hk99 : ∀ (x1 : Int32) (x4 : Int32) (x5 : Int32) (x6 : Int32) (u : th_St) (H : Heap) (locs : List Loc) (ls : Array Slot), k99 x1 x4 x5 x6 u → th_wI (dC, dI) (wM cs q) A s.heap u H locs → lv_has ls 8 [(0, .ref (q 0)), (1, .int x1), (4, .int x4), (5, .int x5), (6, .int x6)] → W p l e (th_rm 1 0 0) s m args below meth c H locs 0 0 (MQ below (va_Qv K (th_Post (dC, dI) (wM cs q) A) A) args s 0 0 A) (F0 m 99 ls [])) (x1 : Int32) (x4 : Int32) (x5 : Int32) (x6 : Int32) (z0 : Int32) (z1 : Int32) (z2 : Int32) (u : th_St) (H : Heap) (locs : List Loc) (ls : Array Slot) (hf : M_stretch_234 K k99 x1 x4 x5 x6 z0 z1 z2 u) (hw : th_wI (dC, dI) (wM cs q) A s.heap u H locs) (hl : lv_has ls 8 [(0, .ref (q 0)), (1, .int x1), (4, .int x4), (5, .int x5), (6, .int x6)]) : W p l e (th_rm 1 0 0) s m args below meth c H locs 0 0 (MQ below (va_Qv K (th_Post (dC, dI) (wM cs q) A) A) args s 0 0 A) (F0 m 234 ls [.int z0, .int z1, .int z2, .ref (q 38)]) := by
  have hx := C.1
  have hb := C.2.1
  unfold M_stretch_234 at hf
  refine lv_iadd hx hb dX12_stretch_234 ?_
  refine ms_38 C hw hf.1 dX12_stretch_235 (fun u_1 e9 H locs hw => ?_)
  replace hf := hf.2 u_1 e9
  clear e9
  refine lv_aload_n hx hb dX12_stretch_236 rfl (lv_at hl 0 rfl) ?_
  refine mg_39 C hw dX12_stretch_237 ?_
  refine lv_iload_n hx hb dX12_stretch_240 rfl (lv_at hl 1 rfl) ?_
  refine lv_dup2_11 hx hb dX12_stretch_241 rfl rfl ?_
  refine ml_39 C hw hf.1 dX12_stretch_242 (fun y_2 e9 => ?_)
  replace hf := hf.2 y_2 e9
  clear e9
  refine lv_iconst (v := (1 : Int32)) hx hb dX12_stretch_243 (by decide) ?_
  refine lv_iadd hx hb dX12_stretch_244 ?_
  refine ms_39 C hw hf.1 dX12_stretch_245 (fun u_3 e9 H locs hw => ?_)
  replace hf := hf.2 u_3 e9
  clear e9
  refine lv_iload hx hb dX12_stretch_246 (lv_at hl 4 rfl) ?_
  refine lv_if_le (tgt := 258) hx hb dX12_stretch_248 (by decide) (fun hc => ?_) (fun hc => ?_)
  · replace hf := hf.1 hc
    clear hc
    refine lv_iconst (v := (0 : Int32)) hx hb dX12_stretch_258 (by decide) ?_
    exact M_stretch_259_w C hk99 x1 x4 x5 (0 : Int32) u_3 _ _ _ hf hw (lv_sub hl [0, 1, 2, 3] rfl)
  · replace hf := hf.2 hc
    clear hc
    refine lv_iload hx hb dX12_stretch_251 (lv_at hl 4 rfl) ?_
    refine lv_iconst (v := (1 : Int32)) hx hb dX12_stretch_253 (by decide) ?_
    refine lv_isub hx hb dX12_stretch_254 ?_
    refine lv_goto (tgt := 259) hx hb dX12_stretch_255 (by decide) ?_
    exact M_stretch_259_w C hk99 x1 x4 x5 (x6 - (1 : Int32)) u_3 _ _ _ hf hw (lv_sub hl [0, 1, 2, 3] rfl)
def M_stretch_209 (K : th_St → Prop) (k99 : Int32 → Int32 → Int32 → Int32 → th_St → Prop) (x1 : Int32) (x4 : Int32) (x5 : Int32) (x6 : Int32) (x7 : Int32) (z0 : Int32) (z1 : Int32) (z2 : Int32) (u : th_St) : Prop :=
  (vp_in z2 1968 ∧ ∀ u_1 : th_St, u_1 = th_sa u 38 (upd (u.2.2.1 38) (z2).toNatClampNeg (z1 + z0)) → ∀ y_2 : Int32, y_2 = ((x5 + x6) + (1 : Int32)) → (vp_in y_2 1968 ∧ ∀ y_3 : Int32, y_3 = u_1.2.2.1 38 (y_2).toNatClampNeg → ((x7 ≤ 0 → M_stretch_234 K k99 x1 x4 x5 x6 (-1 : Int32) y_3 y_2 u_1) ∧ (¬ x7 ≤ 0 → M_stretch_234 K k99 x1 x4 x5 x6 (1 : Int32) y_3 y_2 u_1))))
set_option maxHeartbeats 4000000 in
set_option maxRecDepth 100000 in
theorem M_stretch_209_w {K : th_St → Prop} {k99 : Int32 → Int32 → Int32 → Int32 → th_St → Prop} (C : th_Cx p s m args meth c cX12_stretch RX12 8 (none) (dC, dI) (th_ty cs) th_E0 A) (hk99 : ∀ (x1 : Int32) (x4 : Int32) (x5 : Int32) (x6 : Int32) (u : th_St) (H : Heap) (locs : List Loc) (ls : Array Slot), k99 x1 x4 x5 x6 u → th_wI (dC, dI) (wM cs q) A s.heap u H locs → lv_has ls 8 [(0, .ref (q 0)), (1, .int x1), (4, .int x4), (5, .int x5), (6, .int x6)] → W p l e (th_rm 1 0 0) s m args below meth c H locs 0 0 (MQ below (va_Qv K (th_Post (dC, dI) (wM cs q) A) A) args s 0 0 A) (F0 m 99 ls [])) (x1 : Int32) (x4 : Int32) (x5 : Int32) (x6 : Int32) (x7 : Int32) (z0 : Int32) (z1 : Int32) (z2 : Int32) (u : th_St) (H : Heap) (locs : List Loc) (ls : Array Slot) (hf : M_stretch_209 K k99 x1 x4 x5 x6 x7 z0 z1 z2 u) (hw : th_wI (dC, dI) (wM cs q) A s.heap u H locs) (hl : lv_has ls 8 [(0, .ref (q 0)), (1, .int x1), (4, .int x4), (5, .int x5), (6, .int x6), (7, .int x7)]) : W p l e (th_rm 1 0 0) s m args below meth c H locs 0 0 (MQ below (va_Qv K (th_Post (dC, dI) (wM cs q) A) A) args s 0 0 A) (F0 m 209 ls [.int z0, .int z1, .int z2, .ref (q 38)]) := by
  have hx := C.1
  have hb := C.2.1
  unfold M_stretch_209 at hf
  refine lv_iadd hx hb dX12_stretch_209 ?_
  refine ms_38 C hw hf.1 dX12_stretch_210 (fun u_1 e9 H locs hw => ?_)
  replace hf := hf.2 u_1 e9
  clear e9
  refine lv_aload_n hx hb dX12_stretch_211 rfl (lv_at hl 0 rfl) ?_
  refine mg_38 C hw dX12_stretch_212 ?_
  refine lv_iload hx hb dX12_stretch_215 (lv_at hl 3 rfl) ?_
  refine lv_iload hx hb dX12_stretch_217 (lv_at hl 4 rfl) ?_
  refine lv_iadd hx hb dX12_stretch_219 ?_
  refine lv_iconst (v := (1 : Int32)) hx hb dX12_stretch_220 (by decide) ?_
  refine lv_iadd hx hb dX12_stretch_221 ?_
  refine lv_topi (fun y_2 e9 => ?_)
  replace hf := hf y_2 e9
  clear e9
  refine lv_dup2_11 hx hb dX12_stretch_222 rfl rfl ?_
  refine ml_38 C hw hf.1 dX12_stretch_223 (fun y_3 e9 => ?_)
  replace hf := hf.2 y_3 e9
  clear e9
  refine lv_iload hx hb dX12_stretch_224 (lv_at hl 5 rfl) ?_
  refine lv_if_le (tgt := 233) hx hb dX12_stretch_226 (by decide) (fun hc => ?_) (fun hc => ?_)
  · replace hf := hf.1 hc
    clear hc
    refine lv_iconst (v := (-1 : Int32)) hx hb dX12_stretch_233 (by decide) ?_
    exact M_stretch_234_w C hk99 x1 x4 x5 x6 (-1 : Int32) y_3 y_2 u_1 _ _ _ hf hw (lv_sub hl [0, 1, 2, 3, 4] rfl)
  · replace hf := hf.2 hc
    clear hc
    refine lv_iconst (v := (1 : Int32)) hx hb dX12_stretch_229 (by decide) ?_
    refine lv_goto (tgt := 234) hx hb dX12_stretch_230 (by decide) ?_
    exact M_stretch_234_w C hk99 x1 x4 x5 x6 (1 : Int32) y_3 y_2 u_1 _ _ _ hf hw (lv_sub hl [0, 1, 2, 3, 4] rfl)
def M_stretch_264 (K : th_St → Prop) (u : th_St) : Prop :=
  K u
set_option maxHeartbeats 4000000 in
set_option maxRecDepth 100000 in
theorem M_stretch_264_w {K : th_St → Prop} (C : th_Cx p s m args meth c cX12_stretch RX12 8 (none) (dC, dI) (th_ty cs) th_E0 A) (u : th_St) (H : Heap) (locs : List Loc) (ls : Array Slot) (hf : M_stretch_264 K u) (hw : th_wI (dC, dI) (wM cs q) A s.heap u H locs) (hl : lv_has ls 8 []) : W p l e (th_rm 1 0 0) s m args below meth c H locs 0 0 (MQ below (va_Qv K (th_Post (dC, dI) (wM cs q) A) A) args s 0 0 A) (F0 m 264 ls []) := by
  have hx := C.1
  have hb := C.2.1
  unfold M_stretch_264 at hf
  exact th_vret C hw hf dX12_stretch_264
def M_stretch_99 (K : th_St → Prop) (k99 : Int32 → Int32 → Int32 → Int32 → th_St → Prop) (x1 : Int32) (x4 : Int32) (x5 : Int32) (x6 : Int32) (u : th_St) : Prop :=
  ((x4 ≤ (x6 + (1 : Int32)) → M_stretch_264 K u) ∧ (¬ x4 ≤ (x6 + (1 : Int32)) → (vp_in x1 40 ∧ ∀ y_1 : Int32, y_1 = u.2.2.1 39 (x1).toNatClampNeg → (((100000 : Int32) ≤ y_1 → M_stretch_264 K u) ∧ (¬ (100000 : Int32) ≤ y_1 → (vp_in (x5 + x6) 1968 ∧ ∀ y_2 : Int32, y_2 = u.2.2.1 38 ((x5 + x6)).toNatClampNeg → (vp_in ((x5 + x6) + (1 : Int32)) 1968 ∧ ∀ y_3 : Int32, y_3 = u.2.2.1 38 (((x5 + x6) + (1 : Int32))).toNatClampNeg → ∀ y_4 : Int32, y_4 = (y_2 - y_3) → (vp_in x6 96 ∧ ∀ y_5 : Int32, y_5 = u.2.2.1 6 (x6).toNatClampNeg → ((¬ y_5 = 0 → M_stretch_182 K k99 x1 x4 x5 x6 u) ∧ (y_5 = 0 → (vp_in (x6 + (1 : Int32)) 96 ∧ ∀ y_6 : Int32, y_6 = u.2.2.1 6 ((x6 + (1 : Int32))).toNatClampNeg → ((¬ y_6 = 0 → M_stretch_182 K k99 x1 x4 x5 x6 u) ∧ (y_6 = 0 → M_plain y_4 u (fun r_8 u_7 => (vp_in x6 96 ∧ ∀ y_9 : Int32, y_9 = u_7.2.2.1 7 (x6).toNatClampNeg → ((y_9 < r_8 → ∀ y_10 : Int32, y_10 = (x5 + x6) → (vp_in y_10 1968 ∧ ∀ y_11 : Int32, y_11 = u_7.2.2.1 38 (y_10).toNatClampNeg → ((y_4 ≤ 0 → M_stretch_209 K k99 x1 x4 x5 x6 y_4 (1 : Int32) y_11 y_10 u_7) ∧ (¬ y_4 ≤ 0 → M_stretch_209 K k99 x1 x4 x5 x6 y_4 (-1 : Int32) y_11 y_10 u_7)))) ∧ (¬ y_9 < r_8 → M_stretch_182 K k99 x1 x4 x5 x6 u_7)))))))))))))))))
set_option maxHeartbeats 4000000 in
set_option maxRecDepth 100000 in
theorem M_stretch_99_w {K : th_St → Prop} {k99 : Int32 → Int32 → Int32 → Int32 → th_St → Prop} (C : th_Cx p s m args meth c cX12_stretch RX12 8 (none) (dC, dI) (th_ty cs) th_E0 A) (hk99 : ∀ (x1 : Int32) (x4 : Int32) (x5 : Int32) (x6 : Int32) (u : th_St) (H : Heap) (locs : List Loc) (ls : Array Slot), k99 x1 x4 x5 x6 u → th_wI (dC, dI) (wM cs q) A s.heap u H locs → lv_has ls 8 [(0, .ref (q 0)), (1, .int x1), (4, .int x4), (5, .int x5), (6, .int x6)] → W p l e (th_rm 1 0 0) s m args below meth c H locs 0 0 (MQ below (va_Qv K (th_Post (dC, dI) (wM cs q) A) A) args s 0 0 A) (F0 m 99 ls [])) (x1 : Int32) (x4 : Int32) (x5 : Int32) (x6 : Int32) (u : th_St) (H : Heap) (locs : List Loc) (ls : Array Slot) (hf : M_stretch_99 K k99 x1 x4 x5 x6 u) (hw : th_wI (dC, dI) (wM cs q) A s.heap u H locs) (hl : lv_has ls 8 [(0, .ref (q 0)), (1, .int x1), (4, .int x4), (5, .int x5), (6, .int x6)]) : W p l e (th_rm 1 0 0) s m args below meth c H locs 0 0 (MQ below (va_Qv K (th_Post (dC, dI) (wM cs q) A) A) args s 0 0 A) (F0 m 99 ls []) := by
  have hx := C.1
  have hb := C.2.1
  unfold M_stretch_99 at hf
  refine lv_iload hx hb dX12_stretch_99 (lv_at hl 4 rfl) ?_
  refine lv_iconst (v := (1 : Int32)) hx hb dX12_stretch_101 (by decide) ?_
  refine lv_iadd hx hb dX12_stretch_102 ?_
  refine lv_iload hx hb dX12_stretch_103 (lv_at hl 2 rfl) ?_
  refine lv_icmp_ge (tgt := 264) hx hb dX12_stretch_105 (by decide) (fun hc => ?_) (fun hc => ?_)
  · replace hf := hf.1 hc
    clear hc
    exact M_stretch_264_w C  u _ _ _ hf hw (lv_sub hl [] rfl)
  · replace hf := hf.2 hc
    clear hc
    refine lv_aload_n hx hb dX12_stretch_108 rfl (lv_at hl 0 rfl) ?_
    refine mg_39 C hw dX12_stretch_109 ?_
    refine lv_iload_n hx hb dX12_stretch_112 rfl (lv_at hl 1 rfl) ?_
    refine ml_39 C hw hf.1 dX12_stretch_113 (fun y_1 e9 => ?_)
    replace hf := hf.2 y_1 e9
    clear e9
    refine lv_ldcw hx hb C.2.2.2.1 (C.2.2.2.2.1 _ hwK_X12_333) dX12_stretch_114 ?_
    refine lv_icmp_ge (tgt := 264) hx hb dX12_stretch_117 (by decide) (fun hc => ?_) (fun hc => ?_)
    · replace hf := hf.1 hc
      clear hc
      exact M_stretch_264_w C  u _ _ _ hf hw (lv_sub hl [] rfl)
    · replace hf := hf.2 hc
      clear hc
      refine lv_aload_n hx hb dX12_stretch_120 rfl (lv_at hl 0 rfl) ?_
      refine mg_38 C hw dX12_stretch_121 ?_
      refine lv_iload hx hb dX12_stretch_124 (lv_at hl 3 rfl) ?_
      refine lv_iload hx hb dX12_stretch_126 (lv_at hl 4 rfl) ?_
      refine lv_iadd hx hb dX12_stretch_128 ?_
      refine ml_38 C hw hf.1 dX12_stretch_129 (fun y_2 e9 => ?_)
      replace hf := hf.2 y_2 e9
      clear e9
      refine lv_aload_n hx hb dX12_stretch_130 rfl (lv_at hl 0 rfl) ?_
      refine mg_38 C hw dX12_stretch_131 ?_
      refine lv_iload hx hb dX12_stretch_134 (lv_at hl 3 rfl) ?_
      refine lv_iload hx hb dX12_stretch_136 (lv_at hl 4 rfl) ?_
      refine lv_iadd hx hb dX12_stretch_138 ?_
      refine lv_iconst (v := (1 : Int32)) hx hb dX12_stretch_139 (by decide) ?_
      refine lv_iadd hx hb dX12_stretch_140 ?_
      refine ml_38 C hw hf.1 dX12_stretch_141 (fun y_3 e9 => ?_)
      replace hf := hf.2 y_3 e9
      clear e9
      refine lv_isub hx hb dX12_stretch_142 ?_
      refine lv_topi (fun y_4 e9 => ?_)
      replace hf := hf y_4 e9
      clear e9
      refine lv_istore (lv' := [(7, .int y_4), (0, .ref (q 0)), (1, .int x1), (4, .int x4), (5, .int x5), (6, .int x6)]) hx hb dX12_stretch_143 hl (by decide) rfl (fun ls hl => ?_)
      refine lv_aload_n hx hb dX12_stretch_145 rfl (lv_at hl 1 rfl) ?_
      refine mg_6 C hw dX12_stretch_146 ?_
      refine lv_iload hx hb dX12_stretch_149 (lv_at hl 5 rfl) ?_
      refine ml_6 C hw hf.1 dX12_stretch_151 (fun y_5 e9 => ?_)
      replace hf := hf.2 y_5 e9
      clear e9
      refine lv_if_ne (tgt := 182) hx hb dX12_stretch_152 (by decide) (fun hc => ?_) (fun hc => ?_)
      · replace hf := hf.1 hc
        clear hc
        exact M_stretch_182_w C hk99 x1 x4 x5 x6 u _ _ _ hf hw (lv_sub hl [1, 2, 3, 4, 5] rfl)
      · replace hf := hf.2 hc
        clear hc
        refine lv_aload_n hx hb dX12_stretch_155 rfl (lv_at hl 1 rfl) ?_
        refine mg_6 C hw dX12_stretch_156 ?_
        refine lv_iload hx hb dX12_stretch_159 (lv_at hl 5 rfl) ?_
        refine lv_iconst (v := (1 : Int32)) hx hb dX12_stretch_161 (by decide) ?_
        refine lv_iadd hx hb dX12_stretch_162 ?_
        refine ml_6 C hw hf.1 dX12_stretch_163 (fun y_6 e9 => ?_)
        replace hf := hf.2 y_6 e9
        clear e9
        refine lv_if_ne (tgt := 182) hx hb dX12_stretch_164 (by decide) (fun hc => ?_) (fun hc => ?_)
        · replace hf := hf.1 hc
          clear hc
          exact M_stretch_182_w C hk99 x1 x4 x5 x6 u _ _ _ hf hw (lv_sub hl [1, 2, 3, 4, 5] rfl)
        · replace hf := hf.2 hc
          clear hc
          refine lv_iload hx hb dX12_stretch_167 (lv_at hl 0 rfl) ?_
          refine th_callSi (As := [.int y_4]) (rest := []) C lkX12_334 (M_plain_c hf) hw rfl rfl ⟨Nat.le_of_ble_eq_true rfl, Nat.le_of_ble_eq_true rfl⟩ hl.1 (Nat.le_of_ble_eq_true rfl) ⟨Nat.le_refl _, Nat.le_refl _⟩ dX12_stretch_169 (fun r_8 u_7 H locs hf hw => ?_)
          refine lv_aload_n hx hb dX12_stretch_172 rfl (lv_at hl 1 rfl) ?_
          refine mg_7 C hw dX12_stretch_173 ?_
          refine lv_iload hx hb dX12_stretch_176 (lv_at hl 5 rfl) ?_
          refine ml_7 C hw hf.1 dX12_stretch_178 (fun y_9 e9 => ?_)
          replace hf := hf.2 y_9 e9
          clear e9
          refine lv_icmp_gt (tgt := 188) hx hb dX12_stretch_179 (by decide) (fun hc => ?_) (fun hc => ?_)
          · replace hf := hf.1 hc
            clear hc
            refine lv_aload_n hx hb dX12_stretch_188 rfl (lv_at hl 1 rfl) ?_
            refine mg_38 C hw dX12_stretch_189 ?_
            refine lv_iload hx hb dX12_stretch_192 (lv_at hl 4 rfl) ?_
            refine lv_iload hx hb dX12_stretch_194 (lv_at hl 5 rfl) ?_
            refine lv_iadd hx hb dX12_stretch_196 ?_
            refine lv_topi (fun y_10 e9 => ?_)
            replace hf := hf y_10 e9
            clear e9
            refine lv_dup2_11 hx hb dX12_stretch_197 rfl rfl ?_
            refine ml_38 C hw hf.1 dX12_stretch_198 (fun y_11 e9 => ?_)
            replace hf := hf.2 y_11 e9
            clear e9
            refine lv_iload hx hb dX12_stretch_199 (lv_at hl 0 rfl) ?_
            refine lv_if_le (tgt := 208) hx hb dX12_stretch_201 (by decide) (fun hc => ?_) (fun hc => ?_)
            · replace hf := hf.1 hc
              clear hc
              refine lv_iconst (v := (1 : Int32)) hx hb dX12_stretch_208 (by decide) ?_
              exact M_stretch_209_w C hk99 x1 x4 x5 x6 y_4 (1 : Int32) y_11 y_10 u_7 _ _ _ hf hw (lv_sub hl [1, 2, 3, 4, 5, 0] rfl)
            · replace hf := hf.2 hc
              clear hc
              refine lv_iconst (v := (-1 : Int32)) hx hb dX12_stretch_204 (by decide) ?_
              refine lv_goto (tgt := 209) hx hb dX12_stretch_205 (by decide) ?_
              exact M_stretch_209_w C hk99 x1 x4 x5 x6 y_4 (-1 : Int32) y_11 y_10 u_7 _ _ _ hf hw (lv_sub hl [1, 2, 3, 4, 5, 0] rfl)
          · replace hf := hf.2 hc
            clear hc
            exact M_stretch_182_w C hk99 x1 x4 x5 x6 u_7 _ _ _ hf hw (lv_sub hl [1, 2, 3, 4, 5] rfl)
def M_stretch_99_lp (K : th_St → Prop) : Nat → Int32 → Int32 → Int32 → Int32 → th_St → Prop
  | 0, _, _, _, _, _ => False
  | n + 1, x1, x4, x5, x6, u => M_stretch_99 K (M_stretch_99_lp K n) x1 x4 x5 x6 u
set_option maxHeartbeats 4000000 in
set_option maxRecDepth 100000 in
theorem M_stretch_99_lw {K : th_St → Prop} (C : th_Cx p s m args meth c cX12_stretch RX12 8 (none) (dC, dI) (th_ty cs) th_E0 A) (n : Nat) : ∀ (x1 : Int32) (x4 : Int32) (x5 : Int32) (x6 : Int32) (u : th_St) (H : Heap) (locs : List Loc) (ls : Array Slot), M_stretch_99_lp K n x1 x4 x5 x6 u → th_wI (dC, dI) (wM cs q) A s.heap u H locs → lv_has ls 8 [(0, .ref (q 0)), (1, .int x1), (4, .int x4), (5, .int x5), (6, .int x6)] → W p l e (th_rm 1 0 0) s m args below meth c H locs 0 0 (MQ below (va_Qv K (th_Post (dC, dI) (wM cs q) A) A) args s 0 0 A) (F0 m 99 ls []) := by
  induction n with
  | zero => intro x1 x4 x5 x6 u H locs ls hf; exact hf.elim
  | succ n ih =>
    intro x1 x4 x5 x6 u H locs ls hf hw hl
    exact M_stretch_99_w C ih x1 x4 x5 x6 u H locs ls hf hw hl
def M_stretch_19 (K : th_St → Prop) (k19 : Int32 → Int32 → Int32 → Int32 → Int32 → Int32 → th_St → Prop) (x1 : Int32) (x2 : Int32) (x3 : Int32) (x4 : Int32) (x5 : Int32) (x6 : Int32) (u : th_St) : Prop :=
  ((x4 ≤ x6 → (vp_in x1 40 ∧ ∀ u_1 : th_St, u_1 = th_sa u 39 (upd (u.2.2.1 39) (x1).toNatClampNeg (0 : Int32)) → ∃ n, M_stretch_99_lp K n x1 x4 x5 (0 : Int32) u_1)) ∧ (¬ x4 ≤ x6 → (vp_in ((x5 - (48 : Int32)) + x6) 1968 ∧ ∀ y_2 : Int32, y_2 = u.2.2.1 38 (((x5 - (48 : Int32)) + x6)).toNatClampNeg → (vp_in (((96 : Int32) * x2) + x6) 9600 ∧ ∀ y_3 : Int32, y_3 = u.2.2.1 35 ((((96 : Int32) * x2) + x6)).toNatClampNeg → ((0 ≤ x3 → (vp_in (((96 : Int32) * x3) + x6) 9600 ∧ ∀ y_4 : Int32, y_4 = u.2.2.1 35 ((((96 : Int32) * x3) + x6)).toNatClampNeg → M_stretch_81 K k19 x1 x2 x3 x4 x5 x6 y_4 (y_2 + y_3) (x5 + x6) u)) ∧ (¬ 0 ≤ x3 → M_stretch_81 K k19 x1 x2 x3 x4 x5 x6 (0 : Int32) (y_2 + y_3) (x5 + x6) u))))))
set_option maxHeartbeats 4000000 in
set_option maxRecDepth 100000 in
theorem M_stretch_19_w {K : th_St → Prop} {k19 : Int32 → Int32 → Int32 → Int32 → Int32 → Int32 → th_St → Prop} (C : th_Cx p s m args meth c cX12_stretch RX12 8 (none) (dC, dI) (th_ty cs) th_E0 A) (hk19 : ∀ (x1 : Int32) (x2 : Int32) (x3 : Int32) (x4 : Int32) (x5 : Int32) (x6 : Int32) (u : th_St) (H : Heap) (locs : List Loc) (ls : Array Slot), k19 x1 x2 x3 x4 x5 x6 u → th_wI (dC, dI) (wM cs q) A s.heap u H locs → lv_has ls 8 [(0, .ref (q 0)), (1, .int x1), (2, .int x2), (3, .int x3), (4, .int x4), (5, .int x5), (6, .int x6)] → W p l e (th_rm 1 0 0) s m args below meth c H locs 0 0 (MQ below (va_Qv K (th_Post (dC, dI) (wM cs q) A) A) args s 0 0 A) (F0 m 19 ls [])) (x1 : Int32) (x2 : Int32) (x3 : Int32) (x4 : Int32) (x5 : Int32) (x6 : Int32) (u : th_St) (H : Heap) (locs : List Loc) (ls : Array Slot) (hf : M_stretch_19 K k19 x1 x2 x3 x4 x5 x6 u) (hw : th_wI (dC, dI) (wM cs q) A s.heap u H locs) (hl : lv_has ls 8 [(0, .ref (q 0)), (1, .int x1), (2, .int x2), (3, .int x3), (4, .int x4), (5, .int x5), (6, .int x6)]) : W p l e (th_rm 1 0 0) s m args below meth c H locs 0 0 (MQ below (va_Qv K (th_Post (dC, dI) (wM cs q) A) A) args s 0 0 A) (F0 m 19 ls []) := by
  have hx := C.1
  have hb := C.2.1
  unfold M_stretch_19 at hf
  refine lv_iload hx hb dX12_stretch_19 (lv_at hl 6 rfl) ?_
  refine lv_iload hx hb dX12_stretch_21 (lv_at hl 4 rfl) ?_
  refine lv_icmp_ge (tgt := 89) hx hb dX12_stretch_23 (by decide) (fun hc => ?_) (fun hc => ?_)
  · replace hf := hf.1 hc
    clear hc
    refine lv_aload_n hx hb dX12_stretch_89 rfl (lv_at hl 0 rfl) ?_
    refine mg_39 C hw dX12_stretch_90 ?_
    refine lv_iload_n hx hb dX12_stretch_93 rfl (lv_at hl 1 rfl) ?_
    refine lv_iconst (v := (0 : Int32)) hx hb dX12_stretch_94 (by decide) ?_
    refine ms_39 C hw hf.1 dX12_stretch_95 (fun u_1 e9 H locs hw => ?_)
    replace hf := hf.2 u_1 e9
    clear e9
    refine lv_iconst (v := (0 : Int32)) hx hb dX12_stretch_96 (by decide) ?_
    refine lv_istore (lv' := [(6, .int (0 : Int32)), (0, .ref (q 0)), (1, .int x1), (2, .int x2), (3, .int x3), (4, .int x4), (5, .int x5)]) hx hb dX12_stretch_97 hl (by decide) rfl (fun ls hl => ?_)
    obtain ⟨n, hf⟩ := hf
    exact M_stretch_99_lw C n x1 x4 x5 (0 : Int32) u_1 _ _ _ hf hw (lv_sub hl [1, 2, 5, 6, 0] rfl)
  · replace hf := hf.2 hc
    clear hc
    refine lv_aload_n hx hb dX12_stretch_26 rfl (lv_at hl 0 rfl) ?_
    refine mg_38 C hw dX12_stretch_27 ?_
    refine lv_iload hx hb dX12_stretch_30 (lv_at hl 5 rfl) ?_
    refine lv_iload hx hb dX12_stretch_32 (lv_at hl 6 rfl) ?_
    refine lv_iadd hx hb dX12_stretch_34 ?_
    refine lv_aload_n hx hb dX12_stretch_35 rfl (lv_at hl 0 rfl) ?_
    refine mg_38 C hw dX12_stretch_36 ?_
    refine lv_iload hx hb dX12_stretch_39 (lv_at hl 5 rfl) ?_
    refine lv_bipush (v := (48 : Int32)) hx hb dX12_stretch_41 (by decide) ?_
    refine lv_isub hx hb dX12_stretch_43 ?_
    refine lv_iload hx hb dX12_stretch_44 (lv_at hl 6 rfl) ?_
    refine lv_iadd hx hb dX12_stretch_46 ?_
    refine ml_38 C hw hf.1 dX12_stretch_47 (fun y_2 e9 => ?_)
    replace hf := hf.2 y_2 e9
    clear e9
    refine lv_aload_n hx hb dX12_stretch_48 rfl (lv_at hl 0 rfl) ?_
    refine mg_35 C hw dX12_stretch_49 ?_
    refine lv_bipush (v := (96 : Int32)) hx hb dX12_stretch_52 (by decide) ?_
    refine lv_iload_n hx hb dX12_stretch_54 rfl (lv_at hl 2 rfl) ?_
    refine lv_imul hx hb dX12_stretch_55 ?_
    refine lv_iload hx hb dX12_stretch_56 (lv_at hl 6 rfl) ?_
    refine lv_iadd hx hb dX12_stretch_58 ?_
    refine ml_35 C hw hf.1 dX12_stretch_59 (fun y_3 e9 => ?_)
    replace hf := hf.2 y_3 e9
    clear e9
    refine lv_iadd hx hb dX12_stretch_60 ?_
    refine lv_iload_n hx hb dX12_stretch_61 rfl (lv_at hl 3 rfl) ?_
    refine lv_if_ge (tgt := 69) hx hb dX12_stretch_62 (by decide) (fun hc => ?_) (fun hc => ?_)
    · replace hf := hf.1 hc
      clear hc
      refine lv_aload_n hx hb dX12_stretch_69 rfl (lv_at hl 0 rfl) ?_
      refine mg_35 C hw dX12_stretch_70 ?_
      refine lv_bipush (v := (96 : Int32)) hx hb dX12_stretch_73 (by decide) ?_
      refine lv_iload_n hx hb dX12_stretch_75 rfl (lv_at hl 3 rfl) ?_
      refine lv_imul hx hb dX12_stretch_76 ?_
      refine lv_iload hx hb dX12_stretch_77 (lv_at hl 6 rfl) ?_
      refine lv_iadd hx hb dX12_stretch_79 ?_
      refine ml_35 C hw hf.1 dX12_stretch_80 (fun y_4 e9 => ?_)
      replace hf := hf.2 y_4 e9
      clear e9
      exact M_stretch_81_w C hk19 x1 x2 x3 x4 x5 x6 y_4 (y_2 + y_3) (x5 + x6) u _ _ _ hf hw (lv_sub hl [0, 1, 2, 3, 4, 5, 6] rfl)
    · replace hf := hf.2 hc
      clear hc
      refine lv_iconst (v := (0 : Int32)) hx hb dX12_stretch_65 (by decide) ?_
      refine lv_goto (tgt := 81) hx hb dX12_stretch_66 (by decide) ?_
      exact M_stretch_81_w C hk19 x1 x2 x3 x4 x5 x6 (0 : Int32) (y_2 + y_3) (x5 + x6) u _ _ _ hf hw (lv_sub hl [0, 1, 2, 3, 4, 5, 6] rfl)
def M_stretch_19_lp (K : th_St → Prop) : Nat → Int32 → Int32 → Int32 → Int32 → Int32 → Int32 → th_St → Prop
  | 0, _, _, _, _, _, _, _ => False
  | n + 1, x1, x2, x3, x4, x5, x6, u => M_stretch_19 K (M_stretch_19_lp K n) x1 x2 x3 x4 x5 x6 u
set_option maxHeartbeats 4000000 in
set_option maxRecDepth 100000 in
theorem M_stretch_19_lw {K : th_St → Prop} (C : th_Cx p s m args meth c cX12_stretch RX12 8 (none) (dC, dI) (th_ty cs) th_E0 A) (n : Nat) : ∀ (x1 : Int32) (x2 : Int32) (x3 : Int32) (x4 : Int32) (x5 : Int32) (x6 : Int32) (u : th_St) (H : Heap) (locs : List Loc) (ls : Array Slot), M_stretch_19_lp K n x1 x2 x3 x4 x5 x6 u → th_wI (dC, dI) (wM cs q) A s.heap u H locs → lv_has ls 8 [(0, .ref (q 0)), (1, .int x1), (2, .int x2), (3, .int x3), (4, .int x4), (5, .int x5), (6, .int x6)] → W p l e (th_rm 1 0 0) s m args below meth c H locs 0 0 (MQ below (va_Qv K (th_Post (dC, dI) (wM cs q) A) A) args s 0 0 A) (F0 m 19 ls []) := by
  induction n with
  | zero => intro x1 x2 x3 x4 x5 x6 u H locs ls hf; exact hf.elim
  | succ n ih =>
    intro x1 x2 x3 x4 x5 x6 u H locs ls hf hw hl
    exact M_stretch_19_w C ih x1 x2 x3 x4 x5 x6 u H locs ls hf hw hl
def M_stretch (a1 : Int32) (a2 : Int32) (a3 : Int32) (u : th_St) (K : th_St → Prop) : Prop :=
  (vp_in (0 : Int32) 2 ∧ ∀ y_1 : Int32, y_1 = u.2.2.1 11 ((0 : Int32)).toNatClampNeg → ∀ y_2 : Int32, y_2 = ((48 : Int32) * (a1 + (1 : Int32))) → ∃ n, M_stretch_19_lp K n a1 a2 a3 y_1 y_2 (0 : Int32) u)
set_option maxHeartbeats 4000000 in
set_option maxRecDepth 100000 in
theorem M_stretch_c {l : Launch} {dC : Nat → ClassId} {dI : Nat → Nat → Nat} {cs : Nat → ClassId} {q : Nat → Nat} {a1 : Int32} {a2 : Int32} {a3 : Int32} {u : th_St} {K : th_St → Prop} (hf : M_stretch a1 a2 a3 u K) : th_Cv l yX12_stretch cX12_stretch 8 (none) 1 0 0 (dC, dI) (th_ty cs) th_E0 (wM cs q) [.ref (q 0), .int a1, .int a2, .int a3] u K := by
  refine th_ofv (by decide) (Nat.le_of_ble_eq_true rfl) th_E0_ok ?_
  intro p e s m below meth c A ls C hw hl
  have C : th_Cx p s m _ meth c cX12_stretch RX12 8 (none) (dC, dI) (th_ty cs) th_E0 A := C
  have hl : lv_has ls 8 [(0, .ref (q 0)), (1, .int a1), (2, .int a2), (3, .int a3)] := hl
  generalize (List.toArray _ : Array Value) = args at C ⊢
  have hx := C.1
  have hb := C.2.1
  unfold M_stretch at hf
  refine lv_aload_n hx hb dX12_stretch_0 rfl (lv_at hl 0 rfl) ?_
  refine mg_11 C hw dX12_stretch_1 ?_
  refine lv_iconst (v := (0 : Int32)) hx hb dX12_stretch_4 (by decide) ?_
  refine ml_11 C hw hf.1 dX12_stretch_5 (fun y_1 e9 => ?_)
  replace hf := hf.2 y_1 e9
  clear e9
  refine lv_istore (lv' := [(4, .int y_1), (0, .ref (q 0)), (1, .int a1), (2, .int a2), (3, .int a3)]) hx hb dX12_stretch_6 hl (by decide) rfl (fun ls hl => ?_)
  refine lv_bipush (v := (48 : Int32)) hx hb dX12_stretch_8 (by decide) ?_
  refine lv_iload_n hx hb dX12_stretch_10 rfl (lv_at hl 2 rfl) ?_
  refine lv_iconst (v := (1 : Int32)) hx hb dX12_stretch_11 (by decide) ?_
  refine lv_iadd hx hb dX12_stretch_12 ?_
  refine lv_imul hx hb dX12_stretch_13 ?_
  refine lv_topi (fun y_2 e9 => ?_)
  replace hf := hf y_2 e9
  clear e9
  refine lv_istore (lv' := [(5, .int y_2), (4, .int y_1), (0, .ref (q 0)), (1, .int a1), (2, .int a2), (3, .int a3)]) hx hb dX12_stretch_14 hl (by decide) rfl (fun ls hl => ?_)
  refine lv_iconst (v := (0 : Int32)) hx hb dX12_stretch_16 (by decide) ?_
  refine lv_istore (lv' := [(6, .int (0 : Int32)), (5, .int y_2), (4, .int y_1), (0, .ref (q 0)), (1, .int a1), (2, .int a2), (3, .int a3)]) hx hb dX12_stretch_17 hl (by decide) rfl (fun ls hl => ?_)
  obtain ⟨n, hf⟩ := hf
  exact M_stretch_19_lw C n a1 a2 a3 y_1 y_2 (0 : Int32) u _ _ _ hf hw (lv_sub hl [3, 4, 5, 6, 2, 1, 0] rfl)
/-! X12_asks -/
theorem dX12_asks_0 : decode cX12_asks 0 = .ok (.iconst 0, 1) := by decide +kernel
theorem dX12_asks_1 : decode cX12_asks 1 = .ok (.istore_n 3, 1) := by decide +kernel
theorem dX12_asks_2 : decode cX12_asks 2 = .ok (.iconst 0, 1) := by decide +kernel
theorem dX12_asks_3 : decode cX12_asks 3 = .ok (.istore 4, 2) := by decide +kernel
theorem dX12_asks_5 : decode cX12_asks 5 = .ok (.iconst 0, 1) := by decide +kernel
theorem dX12_asks_6 : decode cX12_asks 6 = .ok (.istore 5, 2) := by decide +kernel
theorem dX12_asks_8 : decode cX12_asks 8 = .ok (.iload 5, 2) := by decide +kernel
theorem dX12_asks_10 : decode cX12_asks 10 = .ok (.aload_n 0, 1) := by decide +kernel
theorem dX12_asks_11 : decode cX12_asks 11 = .ok (.getfield 54, 3) := by decide +kernel
theorem dX12_asks_14 : decode cX12_asks 14 = .ok (.iconst 0, 1) := by decide +kernel
theorem dX12_asks_15 : decode cX12_asks 15 = .ok (.iaload, 1) := by decide +kernel
theorem dX12_asks_16 : decode cX12_asks 16 = .ok (.if_icmp .ge 41, 3) := by decide +kernel
theorem dX12_asks_19 : decode cX12_asks 19 = .ok (.aload_n 0, 1) := by decide +kernel
theorem dX12_asks_20 : decode cX12_asks 20 = .ok (.iload 5, 2) := by decide +kernel
theorem dX12_asks_22 : decode cX12_asks 22 = .ok (.iload_n 2, 1) := by decide +kernel
theorem dX12_asks_23 : decode cX12_asks 23 = .ok (.invokevirtual 347, 3) := by decide +kernel
theorem dX12_asks_26 : decode cX12_asks 26 = .ok (.invokestatic 334, 3) := by decide +kernel
theorem dX12_asks_29 : decode cX12_asks 29 = .ok (.istore 6, 2) := by decide +kernel
theorem dX12_asks_31 : decode cX12_asks 31 = .ok (.iload 4, 2) := by decide +kernel
theorem dX12_asks_33 : decode cX12_asks 33 = .ok (.iload 6, 2) := by decide +kernel
theorem dX12_asks_35 : decode cX12_asks 35 = .ok (.iadd, 1) := by decide +kernel
theorem dX12_asks_36 : decode cX12_asks 36 = .ok (.istore 4, 2) := by decide +kernel
theorem dX12_asks_38 : decode cX12_asks 38 = .ok (.iload 6, 2) := by decide +kernel
theorem dX12_asks_40 : decode cX12_asks 40 = .ok (.iload_n 3, 1) := by decide +kernel
theorem dX12_asks_41 : decode cX12_asks 41 = .ok (.if_icmp .le 8, 3) := by decide +kernel
theorem dX12_asks_44 : decode cX12_asks 44 = .ok (.iload 6, 2) := by decide +kernel
theorem dX12_asks_46 : decode cX12_asks 46 = .ok (.goto 4, 3) := by decide +kernel
theorem dX12_asks_49 : decode cX12_asks 49 = .ok (.iload_n 3, 1) := by decide +kernel
theorem dX12_asks_50 : decode cX12_asks 50 = .ok (.istore_n 3, 1) := by decide +kernel
theorem dX12_asks_51 : decode cX12_asks 51 = .ok (.iinc 5 1, 3) := by decide +kernel
theorem dX12_asks_54 : decode cX12_asks 54 = .ok (.goto (-46), 3) := by decide +kernel
theorem dX12_asks_57 : decode cX12_asks 57 = .ok (.aload_n 0, 1) := by decide +kernel
theorem dX12_asks_58 : decode cX12_asks 58 = .ok (.getfield 69, 3) := by decide +kernel
theorem dX12_asks_61 : decode cX12_asks 61 = .ok (.iload_n 1, 1) := by decide +kernel
theorem dX12_asks_62 : decode cX12_asks 62 = .ok (.iaload, 1) := by decide +kernel
theorem dX12_asks_63 : decode cX12_asks 63 = .ok (.ifCond .ne 7, 3) := by decide +kernel
theorem dX12_asks_66 : decode cX12_asks 66 = .ok (.iload_n 3, 1) := by decide +kernel
theorem dX12_asks_67 : decode cX12_asks 67 = .ok (.goto 65, 3) := by decide +kernel
theorem dX12_asks_70 : decode cX12_asks 70 = .ok (.aload_n 0, 1) := by decide +kernel
theorem dX12_asks_71 : decode cX12_asks 71 = .ok (.getfield 69, 3) := by decide +kernel
theorem dX12_asks_74 : decode cX12_asks 74 = .ok (.iload_n 1, 1) := by decide +kernel
theorem dX12_asks_75 : decode cX12_asks 75 = .ok (.iaload, 1) := by decide +kernel
theorem dX12_asks_76 : decode cX12_asks 76 = .ok (.iconst 1, 1) := by decide +kernel
theorem dX12_asks_77 : decode cX12_asks 77 = .ok (.if_icmp .ne 8, 3) := by decide +kernel
theorem dX12_asks_80 : decode cX12_asks 80 = .ok (.iload 4, 2) := by decide +kernel
theorem dX12_asks_82 : decode cX12_asks 82 = .ok (.goto 50, 3) := by decide +kernel
theorem dX12_asks_85 : decode cX12_asks 85 = .ok (.aload_n 0, 1) := by decide +kernel
theorem dX12_asks_86 : decode cX12_asks 86 = .ok (.getfield 69, 3) := by decide +kernel
theorem dX12_asks_89 : decode cX12_asks 89 = .ok (.iload_n 1, 1) := by decide +kernel
theorem dX12_asks_90 : decode cX12_asks 90 = .ok (.iaload, 1) := by decide +kernel
theorem dX12_asks_91 : decode cX12_asks 91 = .ok (.iconst 2, 1) := by decide +kernel
theorem dX12_asks_92 : decode cX12_asks 92 = .ok (.if_icmp .ne 12, 3) := by decide +kernel
theorem dX12_asks_95 : decode cX12_asks 95 = .ok (.aload_n 0, 1) := by decide +kernel
theorem dX12_asks_96 : decode cX12_asks 96 = .ok (.getfield 99, 3) := by decide +kernel
theorem dX12_asks_99 : decode cX12_asks 99 = .ok (.iload_n 2, 1) := by decide +kernel
theorem dX12_asks_100 : decode cX12_asks 100 = .ok (.iaload, 1) := by decide +kernel
theorem dX12_asks_101 : decode cX12_asks 101 = .ok (.goto 31, 3) := by decide +kernel
theorem dX12_asks_104 : decode cX12_asks 104 = .ok (.aload_n 0, 1) := by decide +kernel
theorem dX12_asks_105 : decode cX12_asks 105 = .ok (.getfield 69, 3) := by decide +kernel
theorem dX12_asks_108 : decode cX12_asks 108 = .ok (.iload_n 1, 1) := by decide +kernel
theorem dX12_asks_109 : decode cX12_asks 109 = .ok (.iaload, 1) := by decide +kernel
theorem dX12_asks_110 : decode cX12_asks 110 = .ok (.iconst 3, 1) := by decide +kernel
theorem dX12_asks_111 : decode cX12_asks 111 = .ok (.if_icmp .ne 7, 3) := by decide +kernel
theorem dX12_asks_114 : decode cX12_asks 114 = .ok (.iload_n 2, 1) := by decide +kernel
theorem dX12_asks_115 : decode cX12_asks 115 = .ok (.goto 17, 3) := by decide +kernel
theorem dX12_asks_118 : decode cX12_asks 118 = .ok (.aload_n 0, 1) := by decide +kernel
theorem dX12_asks_119 : decode cX12_asks 119 = .ok (.aload_n 0, 1) := by decide +kernel
theorem dX12_asks_120 : decode cX12_asks 120 = .ok (.getfield 78, 3) := by decide +kernel
theorem dX12_asks_123 : decode cX12_asks 123 = .ok (.iload_n 1, 1) := by decide +kernel
theorem dX12_asks_124 : decode cX12_asks 124 = .ok (.iaload, 1) := by decide +kernel
theorem dX12_asks_125 : decode cX12_asks 125 = .ok (.iload_n 2, 1) := by decide +kernel
theorem dX12_asks_126 : decode cX12_asks 126 = .ok (.invokevirtual 347, 3) := by decide +kernel
theorem dX12_asks_129 : decode cX12_asks 129 = .ok (.invokestatic 334, 3) := by decide +kernel
theorem dX12_asks_132 : decode cX12_asks 132 = .ok (.ireturn, 1) := by decide +kernel
def M_asks_50 (K : Int32 → th_St → Prop) (k8 : Int32 → Int32 → Int32 → Int32 → Int32 → th_St → Prop) (x1 : Int32) (x2 : Int32) (x4 : Int32) (x5 : Int32) (z0 : Int32) (u : th_St) : Prop :=
  ∀ x5_1 : Int32, x5_1 = x5 + (1 : Int32) → k8 x1 x2 z0 x4 x5_1 u
set_option maxHeartbeats 4000000 in
set_option maxRecDepth 100000 in
theorem M_asks_50_w {K : Int32 → th_St → Prop} {k8 : Int32 → Int32 → Int32 → Int32 → Int32 → th_St → Prop} (C : th_Cx p s m args meth c cX12_asks RX12 7 (some .int) (dC, dI) (th_ty cs) th_E0 A) (hk8 : ∀ (x1 : Int32) (x2 : Int32) (x3 : Int32) (x4 : Int32) (x5 : Int32) (u : th_St) (H : Heap) (locs : List Loc) (ls : Array Slot), k8 x1 x2 x3 x4 x5 u → th_wI (dC, dI) (wM cs q) A s.heap u H locs → lv_has ls 7 [(0, .ref (q 0)), (1, .int x1), (2, .int x2), (3, .int x3), (4, .int x4), (5, .int x5)] → W p l e (th_rm 1 0 0) s m args below meth c H locs 0 0 (MQ below (va_Qi K (th_Post (dC, dI) (wM cs q) A) A) args s 0 0 A) (F0 m 8 ls [])) (x1 : Int32) (x2 : Int32) (x4 : Int32) (x5 : Int32) (z0 : Int32) (u : th_St) (H : Heap) (locs : List Loc) (ls : Array Slot) (hf : M_asks_50 K k8 x1 x2 x4 x5 z0 u) (hw : th_wI (dC, dI) (wM cs q) A s.heap u H locs) (hl : lv_has ls 7 [(0, .ref (q 0)), (1, .int x1), (2, .int x2), (4, .int x4), (5, .int x5)]) : W p l e (th_rm 1 0 0) s m args below meth c H locs 0 0 (MQ below (va_Qi K (th_Post (dC, dI) (wM cs q) A) A) args s 0 0 A) (F0 m 50 ls [.int z0]) := by
  have hx := C.1
  have hb := C.2.1
  unfold M_asks_50 at hf
  refine lv_istore_n (lv' := [(3, .int z0), (0, .ref (q 0)), (1, .int x1), (2, .int x2), (4, .int x4), (5, .int x5)]) hx hb dX12_asks_50 rfl hl (by decide) rfl (fun ls hl => ?_)
  obtain ⟨x5_1, e9⟩ : ∃ y : Int32, y = x5 + (1 : Int32) := ⟨_, rfl⟩
  replace hf := hf x5_1 e9
  refine lv_iinc (v := x5_1) (lv' := [(5, .int x5_1), (3, .int z0), (0, .ref (q 0)), (1, .int x1), (2, .int x2), (4, .int x4)]) hx hb dX12_asks_51 hl (k := 5) rfl (by rw [e9]; rfl) (by decide) rfl (fun ls hl => ?_)
  clear e9
  refine lv_goto (tgt := 8) hx hb dX12_asks_54 (by decide) ?_
  exact hk8 x1 x2 z0 x4 x5_1 u _ _ _ hf hw (lv_sub hl [2, 3, 4, 1, 5, 0] rfl)
def M_asks_132 (K : Int32 → th_St → Prop) (z0 : Int32) (u : th_St) : Prop :=
  K z0 u
set_option maxHeartbeats 4000000 in
set_option maxRecDepth 100000 in
theorem M_asks_132_w {K : Int32 → th_St → Prop} (C : th_Cx p s m args meth c cX12_asks RX12 7 (some .int) (dC, dI) (th_ty cs) th_E0 A) (z0 : Int32) (u : th_St) (H : Heap) (locs : List Loc) (ls : Array Slot) (hf : M_asks_132 K z0 u) (hw : th_wI (dC, dI) (wM cs q) A s.heap u H locs) (hl : lv_has ls 7 []) : W p l e (th_rm 1 0 0) s m args below meth c H locs 0 0 (MQ below (va_Qi K (th_Post (dC, dI) (wM cs q) A) A) args s 0 0 A) (F0 m 132 ls [.int z0]) := by
  have hx := C.1
  have hb := C.2.1
  unfold M_asks_132 at hf
  exact th_iret C hw hf dX12_asks_132
def M_asks_8 (K : Int32 → th_St → Prop) (k8 : Int32 → Int32 → Int32 → Int32 → Int32 → th_St → Prop) (x1 : Int32) (x2 : Int32) (x3 : Int32) (x4 : Int32) (x5 : Int32) (u : th_St) : Prop :=
  (vp_in (0 : Int32) 2 ∧ ∀ y_1 : Int32, y_1 = u.2.2.1 11 ((0 : Int32)).toNatClampNeg → ((y_1 ≤ x5 → (vp_in x1 400 ∧ ∀ y_2 : Int32, y_2 = u.2.2.1 16 (x1).toNatClampNeg → ((¬ y_2 = 0 → (vp_in x1 400 ∧ ∀ y_3 : Int32, y_3 = u.2.2.1 16 (x1).toNatClampNeg → ((¬ y_3 = (1 : Int32) → (vp_in x1 400 ∧ ∀ y_4 : Int32, y_4 = u.2.2.1 16 (x1).toNatClampNeg → ((¬ y_4 = (2 : Int32) → (vp_in x1 400 ∧ ∀ y_5 : Int32, y_5 = u.2.2.1 16 (x1).toNatClampNeg → ((¬ y_5 = (3 : Int32) → (vp_in x1 400 ∧ ∀ y_6 : Int32, y_6 = u.2.2.1 19 (x1).toNatClampNeg → M_change y_6 x2 u (fun r_8 u_7 => M_plain r_8 u_7 (fun r_10 u_9 => M_asks_132 K r_10 u_9)))) ∧ (y_5 = (3 : Int32) → M_asks_132 K x2 u)))) ∧ (y_4 = (2 : Int32) → (vp_in x2 40 ∧ ∀ y_11 : Int32, y_11 = u.2.2.1 39 (x2).toNatClampNeg → M_asks_132 K y_11 u))))) ∧ (y_3 = (1 : Int32) → M_asks_132 K x4 u)))) ∧ (y_2 = 0 → M_asks_132 K x3 u)))) ∧ (¬ y_1 ≤ x5 → M_change x5 x2 u (fun r_13 u_12 => M_plain r_13 u_12 (fun r_15 u_14 => ∀ y_16 : Int32, y_16 = (x4 + r_15) → ((r_15 ≤ x3 → M_asks_50 K k8 x1 x2 y_16 x5 x3 u_14) ∧ (¬ r_15 ≤ x3 → M_asks_50 K k8 x1 x2 y_16 x5 r_15 u_14)))))))
set_option maxHeartbeats 4000000 in
set_option maxRecDepth 100000 in
theorem M_asks_8_w {K : Int32 → th_St → Prop} {k8 : Int32 → Int32 → Int32 → Int32 → Int32 → th_St → Prop} (C : th_Cx p s m args meth c cX12_asks RX12 7 (some .int) (dC, dI) (th_ty cs) th_E0 A) (hk8 : ∀ (x1 : Int32) (x2 : Int32) (x3 : Int32) (x4 : Int32) (x5 : Int32) (u : th_St) (H : Heap) (locs : List Loc) (ls : Array Slot), k8 x1 x2 x3 x4 x5 u → th_wI (dC, dI) (wM cs q) A s.heap u H locs → lv_has ls 7 [(0, .ref (q 0)), (1, .int x1), (2, .int x2), (3, .int x3), (4, .int x4), (5, .int x5)] → W p l e (th_rm 1 0 0) s m args below meth c H locs 0 0 (MQ below (va_Qi K (th_Post (dC, dI) (wM cs q) A) A) args s 0 0 A) (F0 m 8 ls [])) (x1 : Int32) (x2 : Int32) (x3 : Int32) (x4 : Int32) (x5 : Int32) (u : th_St) (H : Heap) (locs : List Loc) (ls : Array Slot) (hf : M_asks_8 K k8 x1 x2 x3 x4 x5 u) (hw : th_wI (dC, dI) (wM cs q) A s.heap u H locs) (hl : lv_has ls 7 [(0, .ref (q 0)), (1, .int x1), (2, .int x2), (3, .int x3), (4, .int x4), (5, .int x5)]) : W p l e (th_rm 1 0 0) s m args below meth c H locs 0 0 (MQ below (va_Qi K (th_Post (dC, dI) (wM cs q) A) A) args s 0 0 A) (F0 m 8 ls []) := by
  have hx := C.1
  have hb := C.2.1
  unfold M_asks_8 at hf
  refine lv_iload hx hb dX12_asks_8 (lv_at hl 5 rfl) ?_
  refine lv_aload_n hx hb dX12_asks_10 rfl (lv_at hl 0 rfl) ?_
  refine mg_11 C hw dX12_asks_11 ?_
  refine lv_iconst (v := (0 : Int32)) hx hb dX12_asks_14 (by decide) ?_
  refine ml_11 C hw hf.1 dX12_asks_15 (fun y_1 e9 => ?_)
  replace hf := hf.2 y_1 e9
  clear e9
  refine lv_icmp_ge (tgt := 57) hx hb dX12_asks_16 (by decide) (fun hc => ?_) (fun hc => ?_)
  · replace hf := hf.1 hc
    clear hc
    refine lv_aload_n hx hb dX12_asks_57 rfl (lv_at hl 0 rfl) ?_
    refine mg_16 C hw dX12_asks_58 ?_
    refine lv_iload_n hx hb dX12_asks_61 rfl (lv_at hl 1 rfl) ?_
    refine ml_16 C hw hf.1 dX12_asks_62 (fun y_2 e9 => ?_)
    replace hf := hf.2 y_2 e9
    clear e9
    refine lv_if_ne (tgt := 70) hx hb dX12_asks_63 (by decide) (fun hc => ?_) (fun hc => ?_)
    · replace hf := hf.1 hc
      clear hc
      refine lv_aload_n hx hb dX12_asks_70 rfl (lv_at hl 0 rfl) ?_
      refine mg_16 C hw dX12_asks_71 ?_
      refine lv_iload_n hx hb dX12_asks_74 rfl (lv_at hl 1 rfl) ?_
      refine ml_16 C hw hf.1 dX12_asks_75 (fun y_3 e9 => ?_)
      replace hf := hf.2 y_3 e9
      clear e9
      refine lv_iconst (v := (1 : Int32)) hx hb dX12_asks_76 (by decide) ?_
      refine lv_icmp_ne (tgt := 85) hx hb dX12_asks_77 (by decide) (fun hc => ?_) (fun hc => ?_)
      · replace hf := hf.1 hc
        clear hc
        refine lv_aload_n hx hb dX12_asks_85 rfl (lv_at hl 0 rfl) ?_
        refine mg_16 C hw dX12_asks_86 ?_
        refine lv_iload_n hx hb dX12_asks_89 rfl (lv_at hl 1 rfl) ?_
        refine ml_16 C hw hf.1 dX12_asks_90 (fun y_4 e9 => ?_)
        replace hf := hf.2 y_4 e9
        clear e9
        refine lv_iconst (v := (2 : Int32)) hx hb dX12_asks_91 (by decide) ?_
        refine lv_icmp_ne (tgt := 104) hx hb dX12_asks_92 (by decide) (fun hc => ?_) (fun hc => ?_)
        · replace hf := hf.1 hc
          clear hc
          refine lv_aload_n hx hb dX12_asks_104 rfl (lv_at hl 0 rfl) ?_
          refine mg_16 C hw dX12_asks_105 ?_
          refine lv_iload_n hx hb dX12_asks_108 rfl (lv_at hl 1 rfl) ?_
          refine ml_16 C hw hf.1 dX12_asks_109 (fun y_5 e9 => ?_)
          replace hf := hf.2 y_5 e9
          clear e9
          refine lv_iconst (v := (3 : Int32)) hx hb dX12_asks_110 (by decide) ?_
          refine lv_icmp_ne (tgt := 118) hx hb dX12_asks_111 (by decide) (fun hc => ?_) (fun hc => ?_)
          · replace hf := hf.1 hc
            clear hc
            refine lv_aload_n hx hb dX12_asks_118 rfl (lv_at hl 0 rfl) ?_
            refine lv_aload_n hx hb dX12_asks_119 rfl (lv_at hl 0 rfl) ?_
            refine mg_19 C hw dX12_asks_120 ?_
            refine lv_iload_n hx hb dX12_asks_123 rfl (lv_at hl 1 rfl) ?_
            refine ml_19 C hw hf.1 dX12_asks_124 (fun y_6 e9 => ?_)
            replace hf := hf.2 y_6 e9
            clear e9
            refine lv_iload_n hx hb dX12_asks_125 rfl (lv_at hl 2 rfl) ?_
            refine th_callVi (As := [.int y_6, .int x2]) (rest := []) C lkX12_347 (M_change_c hf) hw (mRc C hw) rfl rfl ⟨Nat.le_of_ble_eq_true rfl, Nat.le_of_ble_eq_true rfl⟩ hl.1 (Nat.le_of_ble_eq_true rfl) ⟨Nat.le_refl _, Nat.le_refl _⟩ dX12_asks_126 (fun r_8 u_7 H locs hf hw => ?_)
            refine th_callSi (As := [.int r_8]) (rest := []) C lkX12_334 (M_plain_c hf) hw rfl rfl ⟨Nat.le_of_ble_eq_true rfl, Nat.le_of_ble_eq_true rfl⟩ hl.1 (Nat.le_of_ble_eq_true rfl) ⟨Nat.le_refl _, Nat.le_refl _⟩ dX12_asks_129 (fun r_10 u_9 H locs hf hw => ?_)
            exact M_asks_132_w C r_10 u_9 _ _ _ hf hw (lv_sub hl [] rfl)
          · replace hf := hf.2 hc
            clear hc
            refine lv_iload_n hx hb dX12_asks_114 rfl (lv_at hl 2 rfl) ?_
            refine lv_goto (tgt := 132) hx hb dX12_asks_115 (by decide) ?_
            exact M_asks_132_w C x2 u _ _ _ hf hw (lv_sub hl [] rfl)
        · replace hf := hf.2 hc
          clear hc
          refine lv_aload_n hx hb dX12_asks_95 rfl (lv_at hl 0 rfl) ?_
          refine mg_39 C hw dX12_asks_96 ?_
          refine lv_iload_n hx hb dX12_asks_99 rfl (lv_at hl 2 rfl) ?_
          refine ml_39 C hw hf.1 dX12_asks_100 (fun y_11 e9 => ?_)
          replace hf := hf.2 y_11 e9
          clear e9
          refine lv_goto (tgt := 132) hx hb dX12_asks_101 (by decide) ?_
          exact M_asks_132_w C y_11 u _ _ _ hf hw (lv_sub hl [] rfl)
      · replace hf := hf.2 hc
        clear hc
        refine lv_iload hx hb dX12_asks_80 (lv_at hl 4 rfl) ?_
        refine lv_goto (tgt := 132) hx hb dX12_asks_82 (by decide) ?_
        exact M_asks_132_w C x4 u _ _ _ hf hw (lv_sub hl [] rfl)
    · replace hf := hf.2 hc
      clear hc
      refine lv_iload_n hx hb dX12_asks_66 rfl (lv_at hl 3 rfl) ?_
      refine lv_goto (tgt := 132) hx hb dX12_asks_67 (by decide) ?_
      exact M_asks_132_w C x3 u _ _ _ hf hw (lv_sub hl [] rfl)
  · replace hf := hf.2 hc
    clear hc
    refine lv_aload_n hx hb dX12_asks_19 rfl (lv_at hl 0 rfl) ?_
    refine lv_iload hx hb dX12_asks_20 (lv_at hl 5 rfl) ?_
    refine lv_iload_n hx hb dX12_asks_22 rfl (lv_at hl 2 rfl) ?_
    refine th_callVi (As := [.int x5, .int x2]) (rest := []) C lkX12_347 (M_change_c hf) hw (mRc C hw) rfl rfl ⟨Nat.le_of_ble_eq_true rfl, Nat.le_of_ble_eq_true rfl⟩ hl.1 (Nat.le_of_ble_eq_true rfl) ⟨Nat.le_refl _, Nat.le_refl _⟩ dX12_asks_23 (fun r_13 u_12 H locs hf hw => ?_)
    refine th_callSi (As := [.int r_13]) (rest := []) C lkX12_334 (M_plain_c hf) hw rfl rfl ⟨Nat.le_of_ble_eq_true rfl, Nat.le_of_ble_eq_true rfl⟩ hl.1 (Nat.le_of_ble_eq_true rfl) ⟨Nat.le_refl _, Nat.le_refl _⟩ dX12_asks_26 (fun r_15 u_14 H locs hf hw => ?_)
    refine lv_istore (lv' := [(6, .int r_15), (0, .ref (q 0)), (1, .int x1), (2, .int x2), (3, .int x3), (4, .int x4), (5, .int x5)]) hx hb dX12_asks_29 hl (by decide) rfl (fun ls hl => ?_)
    refine lv_iload hx hb dX12_asks_31 (lv_at hl 5 rfl) ?_
    refine lv_iload hx hb dX12_asks_33 (lv_at hl 0 rfl) ?_
    refine lv_iadd hx hb dX12_asks_35 ?_
    refine lv_topi (fun y_16 e9 => ?_)
    replace hf := hf y_16 e9
    clear e9
    refine lv_istore (lv' := [(4, .int y_16), (6, .int r_15), (0, .ref (q 0)), (1, .int x1), (2, .int x2), (3, .int x3), (5, .int x5)]) hx hb dX12_asks_36 hl (by decide) rfl (fun ls hl => ?_)
    refine lv_iload hx hb dX12_asks_38 (lv_at hl 1 rfl) ?_
    refine lv_iload_n hx hb dX12_asks_40 rfl (lv_at hl 5 rfl) ?_
    refine lv_icmp_le (tgt := 49) hx hb dX12_asks_41 (by decide) (fun hc => ?_) (fun hc => ?_)
    · replace hf := hf.1 hc
      clear hc
      refine lv_iload_n hx hb dX12_asks_49 rfl (lv_at hl 5 rfl) ?_
      exact M_asks_50_w C hk8 x1 x2 y_16 x5 x3 u_14 _ _ _ hf hw (lv_sub hl [2, 3, 4, 0, 6] rfl)
    · replace hf := hf.2 hc
      clear hc
      refine lv_iload hx hb dX12_asks_44 (lv_at hl 1 rfl) ?_
      refine lv_goto (tgt := 50) hx hb dX12_asks_46 (by decide) ?_
      exact M_asks_50_w C hk8 x1 x2 y_16 x5 r_15 u_14 _ _ _ hf hw (lv_sub hl [2, 3, 4, 0, 6] rfl)
def M_asks_8_lp (K : Int32 → th_St → Prop) : Nat → Int32 → Int32 → Int32 → Int32 → Int32 → th_St → Prop
  | 0, _, _, _, _, _, _ => False
  | n + 1, x1, x2, x3, x4, x5, u => M_asks_8 K (M_asks_8_lp K n) x1 x2 x3 x4 x5 u
set_option maxHeartbeats 4000000 in
set_option maxRecDepth 100000 in
theorem M_asks_8_lw {K : Int32 → th_St → Prop} (C : th_Cx p s m args meth c cX12_asks RX12 7 (some .int) (dC, dI) (th_ty cs) th_E0 A) (n : Nat) : ∀ (x1 : Int32) (x2 : Int32) (x3 : Int32) (x4 : Int32) (x5 : Int32) (u : th_St) (H : Heap) (locs : List Loc) (ls : Array Slot), M_asks_8_lp K n x1 x2 x3 x4 x5 u → th_wI (dC, dI) (wM cs q) A s.heap u H locs → lv_has ls 7 [(0, .ref (q 0)), (1, .int x1), (2, .int x2), (3, .int x3), (4, .int x4), (5, .int x5)] → W p l e (th_rm 1 0 0) s m args below meth c H locs 0 0 (MQ below (va_Qi K (th_Post (dC, dI) (wM cs q) A) A) args s 0 0 A) (F0 m 8 ls []) := by
  induction n with
  | zero => intro x1 x2 x3 x4 x5 u H locs ls hf; exact hf.elim
  | succ n ih =>
    intro x1 x2 x3 x4 x5 u H locs ls hf hw hl
    exact M_asks_8_w C ih x1 x2 x3 x4 x5 u H locs ls hf hw hl
def M_asks (a1 : Int32) (a2 : Int32) (u : th_St) (K : Int32 → th_St → Prop) : Prop :=
  ∃ n, M_asks_8_lp K n a1 a2 (0 : Int32) (0 : Int32) (0 : Int32) u
set_option maxHeartbeats 4000000 in
set_option maxRecDepth 100000 in
theorem M_asks_c {l : Launch} {dC : Nat → ClassId} {dI : Nat → Nat → Nat} {cs : Nat → ClassId} {q : Nat → Nat} {a1 : Int32} {a2 : Int32} {u : th_St} {K : Int32 → th_St → Prop} (hf : M_asks a1 a2 u K) : th_Ci l yX12_asks cX12_asks 7 (some .int) 1 0 0 (dC, dI) (th_ty cs) th_E0 (wM cs q) [.ref (q 0), .int a1, .int a2] u K := by
  refine th_ofi (by decide) (Nat.le_of_ble_eq_true rfl) th_E0_ok ?_
  intro p e s m below meth c A ls C hw hl
  have C : th_Cx p s m _ meth c cX12_asks RX12 7 (some .int) (dC, dI) (th_ty cs) th_E0 A := C
  have hl : lv_has ls 7 [(0, .ref (q 0)), (1, .int a1), (2, .int a2)] := hl
  generalize (List.toArray _ : Array Value) = args at C ⊢
  have hx := C.1
  have hb := C.2.1
  unfold M_asks at hf
  refine lv_iconst (v := (0 : Int32)) hx hb dX12_asks_0 (by decide) ?_
  refine lv_istore_n (lv' := [(3, .int (0 : Int32)), (0, .ref (q 0)), (1, .int a1), (2, .int a2)]) hx hb dX12_asks_1 rfl hl (by decide) rfl (fun ls hl => ?_)
  refine lv_iconst (v := (0 : Int32)) hx hb dX12_asks_2 (by decide) ?_
  refine lv_istore (lv' := [(4, .int (0 : Int32)), (3, .int (0 : Int32)), (0, .ref (q 0)), (1, .int a1), (2, .int a2)]) hx hb dX12_asks_3 hl (by decide) rfl (fun ls hl => ?_)
  refine lv_iconst (v := (0 : Int32)) hx hb dX12_asks_5 (by decide) ?_
  refine lv_istore (lv' := [(5, .int (0 : Int32)), (4, .int (0 : Int32)), (3, .int (0 : Int32)), (0, .ref (q 0)), (1, .int a1), (2, .int a2)]) hx hb dX12_asks_6 hl (by decide) rfl (fun ls hl => ?_)
  obtain ⟨n, hf⟩ := hf
  exact M_asks_8_lw C n a1 a2 (0 : Int32) (0 : Int32) (0 : Int32) u _ _ _ hf hw (lv_sub hl [3, 4, 5, 2, 1, 0] rfl)
/-! X12_fits -/
theorem dX12_fits_0 : decode cX12_fits 0 = .ok (.iconst 2, 1) := by decide +kernel
theorem dX12_fits_1 : decode cX12_fits 1 = .ok (.iload_n 3, 1) := by decide +kernel
theorem dX12_fits_2 : decode cX12_fits 2 = .ok (.imul, 1) := by decide +kernel
theorem dX12_fits_3 : decode cX12_fits 3 = .ok (.iload_n 2, 1) := by decide +kernel
theorem dX12_fits_4 : decode cX12_fits 4 = .ok (.iadd, 1) := by decide +kernel
theorem dX12_fits_5 : decode cX12_fits 5 = .ok (.iload 4, 2) := by decide +kernel
theorem dX12_fits_7 : decode cX12_fits 7 = .ok (.iadd, 1) := by decide +kernel
theorem dX12_fits_8 : decode cX12_fits 8 = .ok (.aload_n 0, 1) := by decide +kernel
theorem dX12_fits_9 : decode cX12_fits 9 = .ok (.getfield 110, 3) := by decide +kernel
theorem dX12_fits_12 : decode cX12_fits 12 = .ok (.iload_n 1, 1) := by decide +kernel
theorem dX12_fits_13 : decode cX12_fits 13 = .ok (.iaload, 1) := by decide +kernel
theorem dX12_fits_14 : decode cX12_fits 14 = .ok (.isub, 1) := by decide +kernel
theorem dX12_fits_15 : decode cX12_fits 15 = .ok (.invokestatic 334, 3) := by decide +kernel
theorem dX12_fits_18 : decode cX12_fits 18 = .ok (.aload_n 0, 1) := by decide +kernel
theorem dX12_fits_19 : decode cX12_fits 19 = .ok (.getfield 63, 3) := by decide +kernel
theorem dX12_fits_22 : decode cX12_fits 22 = .ok (.iconst 0, 1) := by decide +kernel
theorem dX12_fits_23 : decode cX12_fits 23 = .ok (.iaload, 1) := by decide +kernel
theorem dX12_fits_24 : decode cX12_fits 24 = .ok (.if_icmp .gt 7, 3) := by decide +kernel
theorem dX12_fits_27 : decode cX12_fits 27 = .ok (.iconst 1, 1) := by decide +kernel
theorem dX12_fits_28 : decode cX12_fits 28 = .ok (.goto 4, 3) := by decide +kernel
theorem dX12_fits_31 : decode cX12_fits 31 = .ok (.iconst 0, 1) := by decide +kernel
theorem dX12_fits_32 : decode cX12_fits 32 = .ok (.ireturn, 1) := by decide +kernel
def M_fits_32 (K : Int32 → th_St → Prop) (z0 : Int32) (u : th_St) : Prop :=
  ((z0 = 0 ∨ z0 = 1) ∧ K z0 u)
set_option maxHeartbeats 4000000 in
set_option maxRecDepth 100000 in
theorem M_fits_32_w {K : Int32 → th_St → Prop} (C : th_Cx p s m args meth c cX12_fits RX12 5 (some .boolean) (dC, dI) (th_ty cs) th_E0 A) (z0 : Int32) (u : th_St) (H : Heap) (locs : List Loc) (ls : Array Slot) (hf : M_fits_32 K z0 u) (hw : th_wI (dC, dI) (wM cs q) A s.heap u H locs) (hl : lv_has ls 5 []) : W p l e (th_rm 1 0 0) s m args below meth c H locs 0 0 (MQ below (va_Qi K (th_Post (dC, dI) (wM cs q) A) A) args s 0 0 A) (F0 m 32 ls [.int z0]) := by
  have hx := C.1
  have hb := C.2.1
  unfold M_fits_32 at hf
  exact th_zret C hw hf dX12_fits_32
def M_fits (a1 : Int32) (a2 : Int32) (a3 : Int32) (a4 : Int32) (u : th_St) (K : Int32 → th_St → Prop) : Prop :=
  (vp_in a1 48 ∧ ∀ y_1 : Int32, y_1 = u.2.2.1 45 (a1).toNatClampNeg → M_plain (((((2 : Int32) * a3) + a2) + a4) - y_1) u (fun r_3 u_2 => (vp_in (0 : Int32) 2 ∧ ∀ y_4 : Int32, y_4 = u_2.2.2.1 14 ((0 : Int32)).toNatClampNeg → ((y_4 < r_3 → M_fits_32 K (0 : Int32) u_2) ∧ (¬ y_4 < r_3 → M_fits_32 K (1 : Int32) u_2)))))
set_option maxHeartbeats 4000000 in
set_option maxRecDepth 100000 in
theorem M_fits_c {l : Launch} {dC : Nat → ClassId} {dI : Nat → Nat → Nat} {cs : Nat → ClassId} {q : Nat → Nat} {a1 : Int32} {a2 : Int32} {a3 : Int32} {a4 : Int32} {u : th_St} {K : Int32 → th_St → Prop} (hf : M_fits a1 a2 a3 a4 u K) : th_Ci l yX12_fits cX12_fits 5 (some .boolean) 1 0 0 (dC, dI) (th_ty cs) th_E0 (wM cs q) [.ref (q 0), .int a1, .int a2, .int a3, .int a4] u K := by
  refine th_ofi (by decide) (Nat.le_of_ble_eq_true rfl) th_E0_ok ?_
  intro p e s m below meth c A ls C hw hl
  have C : th_Cx p s m _ meth c cX12_fits RX12 5 (some .boolean) (dC, dI) (th_ty cs) th_E0 A := C
  have hl : lv_has ls 5 [(0, .ref (q 0)), (1, .int a1), (2, .int a2), (3, .int a3), (4, .int a4)] := hl
  generalize (List.toArray _ : Array Value) = args at C ⊢
  have hx := C.1
  have hb := C.2.1
  unfold M_fits at hf
  refine lv_iconst (v := (2 : Int32)) hx hb dX12_fits_0 (by decide) ?_
  refine lv_iload_n hx hb dX12_fits_1 rfl (lv_at hl 3 rfl) ?_
  refine lv_imul hx hb dX12_fits_2 ?_
  refine lv_iload_n hx hb dX12_fits_3 rfl (lv_at hl 2 rfl) ?_
  refine lv_iadd hx hb dX12_fits_4 ?_
  refine lv_iload hx hb dX12_fits_5 (lv_at hl 4 rfl) ?_
  refine lv_iadd hx hb dX12_fits_7 ?_
  refine lv_aload_n hx hb dX12_fits_8 rfl (lv_at hl 0 rfl) ?_
  refine mg_45 C hw dX12_fits_9 ?_
  refine lv_iload_n hx hb dX12_fits_12 rfl (lv_at hl 1 rfl) ?_
  refine ml_45 C hw hf.1 dX12_fits_13 (fun y_1 e9 => ?_)
  replace hf := hf.2 y_1 e9
  clear e9
  refine lv_isub hx hb dX12_fits_14 ?_
  refine th_callSi (As := [.int (((((2 : Int32) * a3) + a2) + a4) - y_1)]) (rest := []) C lkX12_334 (M_plain_c hf) hw rfl rfl ⟨Nat.le_of_ble_eq_true rfl, Nat.le_of_ble_eq_true rfl⟩ hl.1 (Nat.le_of_ble_eq_true rfl) ⟨Nat.le_refl _, Nat.le_refl _⟩ dX12_fits_15 (fun r_3 u_2 H locs hf hw => ?_)
  refine lv_aload_n hx hb dX12_fits_18 rfl (lv_at hl 0 rfl) ?_
  refine mg_14 C hw dX12_fits_19 ?_
  refine lv_iconst (v := (0 : Int32)) hx hb dX12_fits_22 (by decide) ?_
  refine ml_14 C hw hf.1 dX12_fits_23 (fun y_4 e9 => ?_)
  replace hf := hf.2 y_4 e9
  clear e9
  refine lv_icmp_gt (tgt := 31) hx hb dX12_fits_24 (by decide) (fun hc => ?_) (fun hc => ?_)
  · replace hf := hf.1 hc
    clear hc
    refine lv_iconst (v := (0 : Int32)) hx hb dX12_fits_31 (by decide) ?_
    exact M_fits_32_w C (0 : Int32) u_2 _ _ _ hf hw (lv_sub hl [] rfl)
  · replace hf := hf.2 hc
    clear hc
    refine lv_iconst (v := (1 : Int32)) hx hb dX12_fits_27 (by decide) ?_
    refine lv_goto (tgt := 32) hx hb dX12_fits_28 (by decide) ?_
    exact M_fits_32_w C (1 : Int32) u_2 _ _ _ hf hw (lv_sub hl [] rfl)
/-! X12_both -/
theorem dX12_both_0 : decode cX12_both 0 = .ok (.aload_n 0, 1) := by decide +kernel
theorem dX12_both_1 : decode cX12_both 1 = .ok (.iload_n 1, 1) := by decide +kernel
theorem dX12_both_2 : decode cX12_both 2 = .ok (.iload_n 2, 1) := by decide +kernel
theorem dX12_both_3 : decode cX12_both 3 = .ok (.bipush 31, 2) := by decide +kernel
theorem dX12_both_5 : decode cX12_both 5 = .ok (.idiv, 1) := by decide +kernel
theorem dX12_both_6 : decode cX12_both 6 = .ok (.bipush 15, 2) := by decide +kernel
theorem dX12_both_8 : decode cX12_both 8 = .ok (.isub, 1) := by decide +kernel
theorem dX12_both_9 : decode cX12_both 9 = .ok (.invokevirtual 377, 3) := by decide +kernel
theorem dX12_both_12 : decode cX12_both 12 = .ok (.aload_n 0, 1) := by decide +kernel
theorem dX12_both_13 : decode cX12_both 13 = .ok (.iload_n 1, 1) := by decide +kernel
theorem dX12_both_14 : decode cX12_both 14 = .ok (.iconst 1, 1) := by decide +kernel
theorem dX12_both_15 : decode cX12_both 15 = .ok (.iadd, 1) := by decide +kernel
theorem dX12_both_16 : decode cX12_both 16 = .ok (.iload_n 2, 1) := by decide +kernel
theorem dX12_both_17 : decode cX12_both 17 = .ok (.bipush 31, 2) := by decide +kernel
theorem dX12_both_19 : decode cX12_both 19 = .ok (.irem, 1) := by decide +kernel
theorem dX12_both_20 : decode cX12_both 20 = .ok (.bipush 15, 2) := by decide +kernel
theorem dX12_both_22 : decode cX12_both 22 = .ok (.isub, 1) := by decide +kernel
theorem dX12_both_23 : decode cX12_both 23 = .ok (.invokevirtual 377, 3) := by decide +kernel
theorem dX12_both_26 : decode cX12_both 26 = .ok (.return_, 1) := by decide +kernel
def M_both (a1 : Int32) (a2 : Int32) (u : th_St) (K : th_St → Prop) : Prop :=
  (¬ (31 : Int32) = 0 ∧ M_may a1 ((a2 / (31 : Int32)) - (15 : Int32)) u (fun u_1 => (¬ (31 : Int32) = 0 ∧ M_may (a1 + (1 : Int32)) ((a2 - a2 / (31 : Int32) * (31 : Int32)) - (15 : Int32)) u_1 (fun u_3 => K u_3))))
set_option maxHeartbeats 4000000 in
set_option maxRecDepth 100000 in
theorem M_both_c {l : Launch} {dC : Nat → ClassId} {dI : Nat → Nat → Nat} {cs : Nat → ClassId} {q : Nat → Nat} {a1 : Int32} {a2 : Int32} {u : th_St} {K : th_St → Prop} (hf : M_both a1 a2 u K) : th_Cv l yX12_both cX12_both 3 (none) 1 0 0 (dC, dI) (th_ty cs) th_E0 (wM cs q) [.ref (q 0), .int a1, .int a2] u K := by
  refine th_ofv (by decide) (Nat.le_of_ble_eq_true rfl) th_E0_ok ?_
  intro p e s m below meth c A ls C hw hl
  have C : th_Cx p s m _ meth c cX12_both RX12 3 (none) (dC, dI) (th_ty cs) th_E0 A := C
  have hl : lv_has ls 3 [(0, .ref (q 0)), (1, .int a1), (2, .int a2)] := hl
  generalize (List.toArray _ : Array Value) = args at C ⊢
  have hx := C.1
  have hb := C.2.1
  unfold M_both at hf
  refine lv_aload_n hx hb dX12_both_0 rfl (lv_at hl 0 rfl) ?_
  refine lv_iload_n hx hb dX12_both_1 rfl (lv_at hl 1 rfl) ?_
  refine lv_iload_n hx hb dX12_both_2 rfl (lv_at hl 2 rfl) ?_
  refine lv_bipush (v := (31 : Int32)) hx hb dX12_both_3 (by decide) ?_
  refine lv_idiv hx hb dX12_both_5 hf.1 ?_
  replace hf := hf.2
  refine lv_bipush (v := (15 : Int32)) hx hb dX12_both_6 (by decide) ?_
  refine lv_isub hx hb dX12_both_8 ?_
  refine th_callVv (As := [.int a1, .int ((a2 / (31 : Int32)) - (15 : Int32))]) (rest := []) C lkX12_377 (M_may_c hf) hw (mRc C hw) rfl rfl ⟨Nat.le_of_ble_eq_true rfl, Nat.le_of_ble_eq_true rfl⟩ hl.1 (Nat.le_of_ble_eq_true rfl) ⟨Nat.le_refl _, Nat.le_refl _⟩ dX12_both_9 (fun u_1 H locs hf hw => ?_)
  refine lv_aload_n hx hb dX12_both_12 rfl (lv_at hl 0 rfl) ?_
  refine lv_iload_n hx hb dX12_both_13 rfl (lv_at hl 1 rfl) ?_
  refine lv_iconst (v := (1 : Int32)) hx hb dX12_both_14 (by decide) ?_
  refine lv_iadd hx hb dX12_both_15 ?_
  refine lv_iload_n hx hb dX12_both_16 rfl (lv_at hl 2 rfl) ?_
  refine lv_bipush (v := (31 : Int32)) hx hb dX12_both_17 (by decide) ?_
  refine lv_irem hx hb dX12_both_19 hf.1 ?_
  replace hf := hf.2
  refine lv_bipush (v := (15 : Int32)) hx hb dX12_both_20 (by decide) ?_
  refine lv_isub hx hb dX12_both_22 ?_
  refine th_callVv (As := [.int (a1 + (1 : Int32)), .int ((a2 - a2 / (31 : Int32) * (31 : Int32)) - (15 : Int32))]) (rest := []) C lkX12_377 (M_may_c hf) hw (mRc C hw) rfl rfl ⟨Nat.le_of_ble_eq_true rfl, Nat.le_of_ble_eq_true rfl⟩ hl.1 (Nat.le_of_ble_eq_true rfl) ⟨Nat.le_refl _, Nat.le_refl _⟩ dX12_both_23 (fun u_3 H locs hf hw => ?_)
  exact th_vret C hw hf dX12_both_26
/-! X12_mayFeel -/
theorem dX12_mayFeel_0 : decode cX12_mayFeel 0 = .ok (.aload_n 0, 1) := by decide +kernel
theorem dX12_mayFeel_1 : decode cX12_mayFeel 1 = .ok (.iload_n 1, 1) := by decide +kernel
theorem dX12_mayFeel_2 : decode cX12_mayFeel 2 = .ok (.iconst 0, 1) := by decide +kernel
theorem dX12_mayFeel_3 : decode cX12_mayFeel 3 = .ok (.aload_n 0, 1) := by decide +kernel
theorem dX12_mayFeel_4 : decode cX12_mayFeel 4 = .ok (.getfield 370, 3) := by decide +kernel
theorem dX12_mayFeel_7 : decode cX12_mayFeel 7 = .ok (.iconst 1, 1) := by decide +kernel
theorem dX12_mayFeel_8 : decode cX12_mayFeel 8 = .ok (.isub, 1) := by decide +kernel
theorem dX12_mayFeel_9 : decode cX12_mayFeel 9 = .ok (.invokestatic 24, 3) := by decide +kernel
theorem dX12_mayFeel_12 : decode cX12_mayFeel 12 = .ok (.ifCond .eq 12, 3) := by decide +kernel
theorem dX12_mayFeel_15 : decode cX12_mayFeel 15 = .ok (.iload_n 2, 1) := by decide +kernel
theorem dX12_mayFeel_16 : decode cX12_mayFeel 16 = .ok (.iconst 0, 1) := by decide +kernel
theorem dX12_mayFeel_17 : decode cX12_mayFeel 17 = .ok (.iconst 1, 1) := by decide +kernel
theorem dX12_mayFeel_18 : decode cX12_mayFeel 18 = .ok (.invokestatic 24, 3) := by decide +kernel
theorem dX12_mayFeel_21 : decode cX12_mayFeel 21 = .ok (.ifCond .ne 7, 3) := by decide +kernel
theorem dX12_mayFeel_24 : decode cX12_mayFeel 24 = .ok (.iconst 1, 1) := by decide +kernel
theorem dX12_mayFeel_25 : decode cX12_mayFeel 25 = .ok (.goto 4, 3) := by decide +kernel
theorem dX12_mayFeel_28 : decode cX12_mayFeel 28 = .ok (.iconst 0, 1) := by decide +kernel
theorem dX12_mayFeel_29 : decode cX12_mayFeel 29 = .ok (.invokevirtual 343, 3) := by decide +kernel
theorem dX12_mayFeel_32 : decode cX12_mayFeel 32 = .ok (.ifCond .eq 5, 3) := by decide +kernel
theorem dX12_mayFeel_35 : decode cX12_mayFeel 35 = .ok (.iconst 0, 1) := by decide +kernel
theorem dX12_mayFeel_36 : decode cX12_mayFeel 36 = .ok (.ireturn, 1) := by decide +kernel
theorem dX12_mayFeel_37 : decode cX12_mayFeel 37 = .ok (.iload_n 2, 1) := by decide +kernel
theorem dX12_mayFeel_38 : decode cX12_mayFeel 38 = .ok (.ifCond .ne 12, 3) := by decide +kernel
theorem dX12_mayFeel_41 : decode cX12_mayFeel 41 = .ok (.aload_n 0, 1) := by decide +kernel
theorem dX12_mayFeel_42 : decode cX12_mayFeel 42 = .ok (.getfield 113, 3) := by decide +kernel
theorem dX12_mayFeel_45 : decode cX12_mayFeel 45 = .ok (.iload_n 1, 1) := by decide +kernel
theorem dX12_mayFeel_46 : decode cX12_mayFeel 46 = .ok (.iaload, 1) := by decide +kernel
theorem dX12_mayFeel_47 : decode cX12_mayFeel 47 = .ok (.goto 9, 3) := by decide +kernel
theorem dX12_mayFeel_50 : decode cX12_mayFeel 50 = .ok (.aload_n 0, 1) := by decide +kernel
theorem dX12_mayFeel_51 : decode cX12_mayFeel 51 = .ok (.getfield 116, 3) := by decide +kernel
theorem dX12_mayFeel_54 : decode cX12_mayFeel 54 = .ok (.iload_n 1, 1) := by decide +kernel
theorem dX12_mayFeel_55 : decode cX12_mayFeel 55 = .ok (.iaload, 1) := by decide +kernel
theorem dX12_mayFeel_56 : decode cX12_mayFeel 56 = .ok (.ireturn, 1) := by decide +kernel
def M_mayFeel_56 (K : Int32 → th_St → Prop) (z0 : Int32) (u : th_St) : Prop :=
  K z0 u
set_option maxHeartbeats 4000000 in
set_option maxRecDepth 100000 in
theorem M_mayFeel_56_w {K : Int32 → th_St → Prop} (C : th_Cx p s m args meth c cX12_mayFeel RX12 3 (some .int) (dC, dI) (th_ty cs) th_E0 A) (z0 : Int32) (u : th_St) (H : Heap) (locs : List Loc) (ls : Array Slot) (hf : M_mayFeel_56 K z0 u) (hw : th_wI (dC, dI) (wM cs q) A s.heap u H locs) (hl : lv_has ls 3 []) : W p l e (th_rm 1 0 0) s m args below meth c H locs 0 0 (MQ below (va_Qi K (th_Post (dC, dI) (wM cs q) A) A) args s 0 0 A) (F0 m 56 ls [.int z0]) := by
  have hx := C.1
  have hb := C.2.1
  unfold M_mayFeel_56 at hf
  exact th_iret C hw hf dX12_mayFeel_56
def M_mayFeel_29 (K : Int32 → th_St → Prop) (x1 : Int32) (x2 : Int32) (z0 : Int32) (u : th_St) : Prop :=
  M_throwsIf z0 u (fun r_2 u_1 => ((r_2 = 0 → ((¬ x2 = 0 → (vp_in x1 48 ∧ ∀ y_3 : Int32, y_3 = u_1.2.2.1 47 (x1).toNatClampNeg → M_mayFeel_56 K y_3 u_1)) ∧ (x2 = 0 → (vp_in x1 48 ∧ ∀ y_4 : Int32, y_4 = u_1.2.2.1 46 (x1).toNatClampNeg → M_mayFeel_56 K y_4 u_1)))) ∧ (¬ r_2 = 0 → K (0 : Int32) u_1)))
set_option maxHeartbeats 4000000 in
set_option maxRecDepth 100000 in
theorem M_mayFeel_29_w {K : Int32 → th_St → Prop} (C : th_Cx p s m args meth c cX12_mayFeel RX12 3 (some .int) (dC, dI) (th_ty cs) th_E0 A) (x1 : Int32) (x2 : Int32) (z0 : Int32) (u : th_St) (H : Heap) (locs : List Loc) (ls : Array Slot) (hf : M_mayFeel_29 K x1 x2 z0 u) (hw : th_wI (dC, dI) (wM cs q) A s.heap u H locs) (hl : lv_has ls 3 [(0, .ref (q 0)), (1, .int x1), (2, .int x2)]) : W p l e (th_rm 1 0 0) s m args below meth c H locs 0 0 (MQ below (va_Qi K (th_Post (dC, dI) (wM cs q) A) A) args s 0 0 A) (F0 m 29 ls [.int z0, .ref (q 0)]) := by
  have hx := C.1
  have hb := C.2.1
  unfold M_mayFeel_29 at hf
  refine th_callVi (As := [.int z0]) (rest := []) C lkX12_343 (M_throwsIf_c hf) hw (mRc C hw) rfl rfl ⟨Nat.le_of_ble_eq_true rfl, Nat.le_of_ble_eq_true rfl⟩ hl.1 (Nat.le_of_ble_eq_true rfl) ⟨Nat.le_refl _, Nat.le_refl _⟩ dX12_mayFeel_29 (fun r_2 u_1 H locs hf hw => ?_)
  refine lv_if_eq (tgt := 37) hx hb dX12_mayFeel_32 (by decide) (fun hc => ?_) (fun hc => ?_)
  · replace hf := hf.1 hc
    clear hc
    refine lv_iload_n hx hb dX12_mayFeel_37 rfl (lv_at hl 2 rfl) ?_
    refine lv_if_ne (tgt := 50) hx hb dX12_mayFeel_38 (by decide) (fun hc => ?_) (fun hc => ?_)
    · replace hf := hf.1 hc
      clear hc
      refine lv_aload_n hx hb dX12_mayFeel_50 rfl (lv_at hl 0 rfl) ?_
      refine mg_47 C hw dX12_mayFeel_51 ?_
      refine lv_iload_n hx hb dX12_mayFeel_54 rfl (lv_at hl 1 rfl) ?_
      refine ml_47 C hw hf.1 dX12_mayFeel_55 (fun y_3 e9 => ?_)
      replace hf := hf.2 y_3 e9
      clear e9
      exact M_mayFeel_56_w C y_3 u_1 _ _ _ hf hw (lv_sub hl [] rfl)
    · replace hf := hf.2 hc
      clear hc
      refine lv_aload_n hx hb dX12_mayFeel_41 rfl (lv_at hl 0 rfl) ?_
      refine mg_46 C hw dX12_mayFeel_42 ?_
      refine lv_iload_n hx hb dX12_mayFeel_45 rfl (lv_at hl 1 rfl) ?_
      refine ml_46 C hw hf.1 dX12_mayFeel_46 (fun y_4 e9 => ?_)
      replace hf := hf.2 y_4 e9
      clear e9
      refine lv_goto (tgt := 56) hx hb dX12_mayFeel_47 (by decide) ?_
      exact M_mayFeel_56_w C y_4 u_1 _ _ _ hf hw (lv_sub hl [] rfl)
  · replace hf := hf.2 hc
    clear hc
    refine lv_iconst (v := (0 : Int32)) hx hb dX12_mayFeel_35 (by decide) ?_
    exact th_iret C hw hf dX12_mayFeel_36
def M_mayFeel_24 (K : Int32 → th_St → Prop) (x1 : Int32) (x2 : Int32) (u : th_St) : Prop :=
  M_mayFeel_29 K x1 x2 (1 : Int32) u
set_option maxHeartbeats 4000000 in
set_option maxRecDepth 100000 in
theorem M_mayFeel_24_w {K : Int32 → th_St → Prop} (C : th_Cx p s m args meth c cX12_mayFeel RX12 3 (some .int) (dC, dI) (th_ty cs) th_E0 A) (x1 : Int32) (x2 : Int32) (u : th_St) (H : Heap) (locs : List Loc) (ls : Array Slot) (hf : M_mayFeel_24 K x1 x2 u) (hw : th_wI (dC, dI) (wM cs q) A s.heap u H locs) (hl : lv_has ls 3 [(0, .ref (q 0)), (1, .int x1), (2, .int x2)]) : W p l e (th_rm 1 0 0) s m args below meth c H locs 0 0 (MQ below (va_Qi K (th_Post (dC, dI) (wM cs q) A) A) args s 0 0 A) (F0 m 24 ls [.ref (q 0)]) := by
  have hx := C.1
  have hb := C.2.1
  unfold M_mayFeel_24 at hf
  refine lv_iconst (v := (1 : Int32)) hx hb dX12_mayFeel_24 (by decide) ?_
  refine lv_goto (tgt := 29) hx hb dX12_mayFeel_25 (by decide) ?_
  exact M_mayFeel_29_w C x1 x2 (1 : Int32) u _ _ _ hf hw (lv_sub hl [0, 1, 2] rfl)
def M_mayFeel (a1 : Int32) (a2 : Int32) (u : th_St) (K : Int32 → th_St → Prop) : Prop :=
  M_isIn a1 (0 : Int32) ((u.1 48) - (1 : Int32)) u (fun r_2 u_1 => ((r_2 = 0 → M_mayFeel_24 K a1 a2 u_1) ∧ (¬ r_2 = 0 → M_isIn a2 (0 : Int32) (1 : Int32) u_1 (fun r_4 u_3 => ((¬ r_4 = 0 → M_mayFeel_29 K a1 a2 (0 : Int32) u_3) ∧ (r_4 = 0 → M_mayFeel_24 K a1 a2 u_3))))))
set_option maxHeartbeats 4000000 in
set_option maxRecDepth 100000 in
theorem M_mayFeel_c {l : Launch} {dC : Nat → ClassId} {dI : Nat → Nat → Nat} {cs : Nat → ClassId} {q : Nat → Nat} {a1 : Int32} {a2 : Int32} {u : th_St} {K : Int32 → th_St → Prop} (hf : M_mayFeel a1 a2 u K) : th_Ci l yX12_mayFeel cX12_mayFeel 3 (some .int) 1 0 0 (dC, dI) (th_ty cs) th_E0 (wM cs q) [.ref (q 0), .int a1, .int a2] u K := by
  refine th_ofi (by decide) (Nat.le_of_ble_eq_true rfl) th_E0_ok ?_
  intro p e s m below meth c A ls C hw hl
  have C : th_Cx p s m _ meth c cX12_mayFeel RX12 3 (some .int) (dC, dI) (th_ty cs) th_E0 A := C
  have hl : lv_has ls 3 [(0, .ref (q 0)), (1, .int a1), (2, .int a2)] := hl
  generalize (List.toArray _ : Array Value) = args at C ⊢
  have hx := C.1
  have hb := C.2.1
  unfold M_mayFeel at hf
  refine lv_aload_n hx hb dX12_mayFeel_0 rfl (lv_at hl 0 rfl) ?_
  refine lv_iload_n hx hb dX12_mayFeel_1 rfl (lv_at hl 1 rfl) ?_
  refine lv_iconst (v := (0 : Int32)) hx hb dX12_mayFeel_2 (by decide) ?_
  refine lv_aload_n hx hb dX12_mayFeel_3 rfl (lv_at hl 0 rfl) ?_
  refine mg_48 C hw dX12_mayFeel_4 ?_
  refine lv_iconst (v := (1 : Int32)) hx hb dX12_mayFeel_7 (by decide) ?_
  refine lv_isub hx hb dX12_mayFeel_8 ?_
  refine th_callSi (As := [.int a1, .int (0 : Int32), .int ((u.1 48) - (1 : Int32))]) (rest := [.ref (q 0)]) C lkX12_24 (M_isIn_c hf) hw rfl rfl ⟨Nat.le_of_ble_eq_true rfl, Nat.le_of_ble_eq_true rfl⟩ hl.1 (Nat.le_of_ble_eq_true rfl) ⟨Nat.le_refl _, Nat.le_refl _⟩ dX12_mayFeel_9 (fun r_2 u_1 H locs hf hw => ?_)
  refine lv_if_eq (tgt := 24) hx hb dX12_mayFeel_12 (by decide) (fun hc => ?_) (fun hc => ?_)
  · replace hf := hf.1 hc
    clear hc
    exact M_mayFeel_24_w C a1 a2 u_1 _ _ _ hf hw (lv_sub hl [0, 1, 2] rfl)
  · replace hf := hf.2 hc
    clear hc
    refine lv_iload_n hx hb dX12_mayFeel_15 rfl (lv_at hl 2 rfl) ?_
    refine lv_iconst (v := (0 : Int32)) hx hb dX12_mayFeel_16 (by decide) ?_
    refine lv_iconst (v := (1 : Int32)) hx hb dX12_mayFeel_17 (by decide) ?_
    refine th_callSi (As := [.int a2, .int (0 : Int32), .int (1 : Int32)]) (rest := [.ref (q 0)]) C lkX12_24 (M_isIn_c hf) hw rfl rfl ⟨Nat.le_of_ble_eq_true rfl, Nat.le_of_ble_eq_true rfl⟩ hl.1 (Nat.le_of_ble_eq_true rfl) ⟨Nat.le_refl _, Nat.le_refl _⟩ dX12_mayFeel_18 (fun r_4 u_3 H locs hf hw => ?_)
    refine lv_if_ne (tgt := 28) hx hb dX12_mayFeel_21 (by decide) (fun hc => ?_) (fun hc => ?_)
    · replace hf := hf.1 hc
      clear hc
      refine lv_iconst (v := (0 : Int32)) hx hb dX12_mayFeel_28 (by decide) ?_
      exact M_mayFeel_29_w C a1 a2 (0 : Int32) u_3 _ _ _ hf hw (lv_sub hl [0, 1, 2] rfl)
    · replace hf := hf.2 hc
      clear hc
      exact M_mayFeel_24_w C a1 a2 u_3 _ _ _ hf hw (lv_sub hl [0, 1, 2] rfl)
/-! X12_shape -/
theorem dX12_shape_0 : decode cX12_shape 0 = .ok (.aload_n 0, 1) := by decide +kernel
theorem dX12_shape_1 : decode cX12_shape 1 = .ok (.iconst 0, 1) := by decide +kernel
theorem dX12_shape_2 : decode cX12_shape 2 = .ok (.putfield 1, 3) := by decide +kernel
theorem dX12_shape_5 : decode cX12_shape 5 = .ok (.aload_n 0, 1) := by decide +kernel
theorem dX12_shape_6 : decode cX12_shape 6 = .ok (.invokevirtual 164, 3) := by decide +kernel
theorem dX12_shape_9 : decode cX12_shape 9 = .ok (.iload_n 1, 1) := by decide +kernel
theorem dX12_shape_10 : decode cX12_shape 10 = .ok (.iconst 0, 1) := by decide +kernel
theorem dX12_shape_11 : decode cX12_shape 11 = .ok (.iconst 5, 1) := by decide +kernel
theorem dX12_shape_12 : decode cX12_shape 12 = .ok (.invokestatic 24, 3) := by decide +kernel
theorem dX12_shape_15 : decode cX12_shape 15 = .ok (.ifCond .eq 25, 3) := by decide +kernel
theorem dX12_shape_18 : decode cX12_shape 18 = .ok (.aload_n 0, 1) := by decide +kernel
theorem dX12_shape_19 : decode cX12_shape 19 = .ok (.getfield 18, 3) := by decide +kernel
theorem dX12_shape_22 : decode cX12_shape 22 = .ok (.iconst 1, 1) := by decide +kernel
theorem dX12_shape_23 : decode cX12_shape 23 = .ok (.bipush 9, 2) := by decide +kernel
theorem dX12_shape_25 : decode cX12_shape 25 = .ok (.invokestatic 24, 3) := by decide +kernel
theorem dX12_shape_28 : decode cX12_shape 28 = .ok (.ifCond .eq 12, 3) := by decide +kernel
theorem dX12_shape_31 : decode cX12_shape 31 = .ok (.aload_n 0, 1) := by decide +kernel
theorem dX12_shape_32 : decode cX12_shape 32 = .ok (.getfield 14, 3) := by decide +kernel
theorem dX12_shape_35 : decode cX12_shape 35 = .ok (.iconst 0, 1) := by decide +kernel
theorem dX12_shape_36 : decode cX12_shape 36 = .ok (.baload, 1) := by decide +kernel
theorem dX12_shape_37 : decode cX12_shape 37 = .ok (.ifCond .ne 5, 3) := by decide +kernel
theorem dX12_shape_40 : decode cX12_shape 40 = .ok (.iconst 0, 1) := by decide +kernel
theorem dX12_shape_41 : decode cX12_shape 41 = .ok (.ireturn, 1) := by decide +kernel
theorem dX12_shape_42 : decode cX12_shape 42 = .ok (.iconst 0, 1) := by decide +kernel
theorem dX12_shape_43 : decode cX12_shape 43 = .ok (.istore_n 2, 1) := by decide +kernel
theorem dX12_shape_44 : decode cX12_shape 44 = .ok (.iload_n 2, 1) := by decide +kernel
theorem dX12_shape_45 : decode cX12_shape 45 = .ok (.aload_n 0, 1) := by decide +kernel
theorem dX12_shape_46 : decode cX12_shape 46 = .ok (.getfield 18, 3) := by decide +kernel
theorem dX12_shape_49 : decode cX12_shape 49 = .ok (.if_icmp .ge 27, 3) := by decide +kernel
theorem dX12_shape_52 : decode cX12_shape 52 = .ok (.aload_n 0, 1) := by decide +kernel
theorem dX12_shape_53 : decode cX12_shape 53 = .ok (.getfield 14, 3) := by decide +kernel
theorem dX12_shape_56 : decode cX12_shape 56 = .ok (.iload_n 2, 1) := by decide +kernel
theorem dX12_shape_57 : decode cX12_shape 57 = .ok (.baload, 1) := by decide +kernel
theorem dX12_shape_58 : decode cX12_shape 58 = .ok (.bipush (-99), 2) := by decide +kernel
theorem dX12_shape_60 : decode cX12_shape 60 = .ok (.bipush 99, 2) := by decide +kernel
theorem dX12_shape_62 : decode cX12_shape 62 = .ok (.invokestatic 24, 3) := by decide +kernel
theorem dX12_shape_65 : decode cX12_shape 65 = .ok (.ifCond .ne 5, 3) := by decide +kernel
theorem dX12_shape_68 : decode cX12_shape 68 = .ok (.iconst 0, 1) := by decide +kernel
theorem dX12_shape_69 : decode cX12_shape 69 = .ok (.ireturn, 1) := by decide +kernel
theorem dX12_shape_70 : decode cX12_shape 70 = .ok (.iinc 2 1, 3) := by decide +kernel
theorem dX12_shape_73 : decode cX12_shape 73 = .ok (.goto (-29), 3) := by decide +kernel
theorem dX12_shape_76 : decode cX12_shape 76 = .ok (.iconst 0, 1) := by decide +kernel
theorem dX12_shape_77 : decode cX12_shape 77 = .ok (.istore_n 2, 1) := by decide +kernel
theorem dX12_shape_78 : decode cX12_shape 78 = .ok (.iload_n 2, 1) := by decide +kernel
theorem dX12_shape_79 : decode cX12_shape 79 = .ok (.aload_n 0, 1) := by decide +kernel
theorem dX12_shape_80 : decode cX12_shape 80 = .ok (.getfield 18, 3) := by decide +kernel
theorem dX12_shape_83 : decode cX12_shape 83 = .ok (.if_icmp .ge 26, 3) := by decide +kernel
theorem dX12_shape_86 : decode cX12_shape 86 = .ok (.aload_n 0, 1) := by decide +kernel
theorem dX12_shape_87 : decode cX12_shape 87 = .ok (.getfield 119, 3) := by decide +kernel
theorem dX12_shape_90 : decode cX12_shape 90 = .ok (.bipush 9, 2) := by decide +kernel
theorem dX12_shape_92 : decode cX12_shape 92 = .ok (.iload_n 1, 1) := by decide +kernel
theorem dX12_shape_93 : decode cX12_shape 93 = .ok (.imul, 1) := by decide +kernel
theorem dX12_shape_94 : decode cX12_shape 94 = .ok (.iload_n 2, 1) := by decide +kernel
theorem dX12_shape_95 : decode cX12_shape 95 = .ok (.iadd, 1) := by decide +kernel
theorem dX12_shape_96 : decode cX12_shape 96 = .ok (.aload_n 0, 1) := by decide +kernel
theorem dX12_shape_97 : decode cX12_shape 97 = .ok (.getfield 14, 3) := by decide +kernel
theorem dX12_shape_100 : decode cX12_shape 100 = .ok (.iload_n 2, 1) := by decide +kernel
theorem dX12_shape_101 : decode cX12_shape 101 = .ok (.baload, 1) := by decide +kernel
theorem dX12_shape_102 : decode cX12_shape 102 = .ok (.iastore, 1) := by decide +kernel
theorem dX12_shape_103 : decode cX12_shape 103 = .ok (.iinc 2 1, 3) := by decide +kernel
theorem dX12_shape_106 : decode cX12_shape 106 = .ok (.goto (-28), 3) := by decide +kernel
theorem dX12_shape_109 : decode cX12_shape 109 = .ok (.aload_n 0, 1) := by decide +kernel
theorem dX12_shape_110 : decode cX12_shape 110 = .ok (.getfield 122, 3) := by decide +kernel
theorem dX12_shape_113 : decode cX12_shape 113 = .ok (.iload_n 1, 1) := by decide +kernel
theorem dX12_shape_114 : decode cX12_shape 114 = .ok (.aload_n 0, 1) := by decide +kernel
theorem dX12_shape_115 : decode cX12_shape 115 = .ok (.getfield 18, 3) := by decide +kernel
theorem dX12_shape_118 : decode cX12_shape 118 = .ok (.iastore, 1) := by decide +kernel
theorem dX12_shape_119 : decode cX12_shape 119 = .ok (.iconst 1, 1) := by decide +kernel
theorem dX12_shape_120 : decode cX12_shape 120 = .ok (.ireturn, 1) := by decide +kernel
def M_shape_40 (K : Int32 → th_St → Prop) (u : th_St) : Prop :=
  (((0 : Int32) = 0 ∨ (0 : Int32) = 1) ∧ K (0 : Int32) u)
set_option maxHeartbeats 4000000 in
set_option maxRecDepth 100000 in
theorem M_shape_40_w {K : Int32 → th_St → Prop} (C : th_Cx p s m args meth c cX12_shape RX12 3 (some .boolean) (dC, dI) (th_ty cs) th_E0 A) (u : th_St) (H : Heap) (locs : List Loc) (ls : Array Slot) (hf : M_shape_40 K u) (hw : th_wI (dC, dI) (wM cs q) A s.heap u H locs) (hl : lv_has ls 3 []) : W p l e (th_rm 1 0 0) s m args below meth c H locs 0 0 (MQ below (va_Qi K (th_Post (dC, dI) (wM cs q) A) A) args s 0 0 A) (F0 m 40 ls []) := by
  have hx := C.1
  have hb := C.2.1
  unfold M_shape_40 at hf
  refine lv_iconst (v := (0 : Int32)) hx hb dX12_shape_40 (by decide) ?_
  exact th_zret C hw hf dX12_shape_41
def M_shape_78 (K : Int32 → th_St → Prop) (k78 : Int32 → Int32 → th_St → Prop) (x1 : Int32) (x2 : Int32) (u : th_St) : Prop :=
  (((u.1 3) ≤ x2 → (vp_in x1 6 ∧ ∀ u_1 : th_St, u_1 = th_sa u 50 (upd (u.2.2.1 50) (x1).toNatClampNeg (u.1 3)) → (((1 : Int32) = 0 ∨ (1 : Int32) = 1) ∧ K (1 : Int32) u_1))) ∧ (¬ (u.1 3) ≤ x2 → (vp_in x2 440 ∧ ∀ y_2 : Int32, y_2 = u.2.2.1 1 (x2).toNatClampNeg → (vp_in (((9 : Int32) * x1) + x2) 54 ∧ ∀ u_3 : th_St, u_3 = th_sa u 49 (upd (u.2.2.1 49) ((((9 : Int32) * x1) + x2)).toNatClampNeg y_2) → ∀ x2_4 : Int32, x2_4 = x2 + (1 : Int32) → k78 x1 x2_4 u_3))))
set_option maxHeartbeats 4000000 in
set_option maxRecDepth 100000 in
theorem M_shape_78_w {K : Int32 → th_St → Prop} {k78 : Int32 → Int32 → th_St → Prop} (C : th_Cx p s m args meth c cX12_shape RX12 3 (some .boolean) (dC, dI) (th_ty cs) th_E0 A) (hk78 : ∀ (x1 : Int32) (x2 : Int32) (u : th_St) (H : Heap) (locs : List Loc) (ls : Array Slot), k78 x1 x2 u → th_wI (dC, dI) (wM cs q) A s.heap u H locs → lv_has ls 3 [(0, .ref (q 0)), (1, .int x1), (2, .int x2)] → W p l e (th_rm 1 0 0) s m args below meth c H locs 0 0 (MQ below (va_Qi K (th_Post (dC, dI) (wM cs q) A) A) args s 0 0 A) (F0 m 78 ls [])) (x1 : Int32) (x2 : Int32) (u : th_St) (H : Heap) (locs : List Loc) (ls : Array Slot) (hf : M_shape_78 K k78 x1 x2 u) (hw : th_wI (dC, dI) (wM cs q) A s.heap u H locs) (hl : lv_has ls 3 [(0, .ref (q 0)), (1, .int x1), (2, .int x2)]) : W p l e (th_rm 1 0 0) s m args below meth c H locs 0 0 (MQ below (va_Qi K (th_Post (dC, dI) (wM cs q) A) A) args s 0 0 A) (F0 m 78 ls []) := by
  have hx := C.1
  have hb := C.2.1
  unfold M_shape_78 at hf
  refine lv_iload_n hx hb dX12_shape_78 rfl (lv_at hl 2 rfl) ?_
  refine lv_aload_n hx hb dX12_shape_79 rfl (lv_at hl 0 rfl) ?_
  refine mg_3 C hw dX12_shape_80 ?_
  refine lv_icmp_ge (tgt := 109) hx hb dX12_shape_83 (by decide) (fun hc => ?_) (fun hc => ?_)
  · replace hf := hf.1 hc
    clear hc
    refine lv_aload_n hx hb dX12_shape_109 rfl (lv_at hl 0 rfl) ?_
    refine mg_50 C hw dX12_shape_110 ?_
    refine lv_iload_n hx hb dX12_shape_113 rfl (lv_at hl 1 rfl) ?_
    refine lv_aload_n hx hb dX12_shape_114 rfl (lv_at hl 0 rfl) ?_
    refine mg_3 C hw dX12_shape_115 ?_
    refine ms_50 C hw hf.1 dX12_shape_118 (fun u_1 e9 H locs hw => ?_)
    replace hf := hf.2 u_1 e9
    clear e9
    refine lv_iconst (v := (1 : Int32)) hx hb dX12_shape_119 (by decide) ?_
    exact th_zret C hw hf dX12_shape_120
  · replace hf := hf.2 hc
    clear hc
    refine lv_aload_n hx hb dX12_shape_86 rfl (lv_at hl 0 rfl) ?_
    refine mg_49 C hw dX12_shape_87 ?_
    refine lv_bipush (v := (9 : Int32)) hx hb dX12_shape_90 (by decide) ?_
    refine lv_iload_n hx hb dX12_shape_92 rfl (lv_at hl 1 rfl) ?_
    refine lv_imul hx hb dX12_shape_93 ?_
    refine lv_iload_n hx hb dX12_shape_94 rfl (lv_at hl 2 rfl) ?_
    refine lv_iadd hx hb dX12_shape_95 ?_
    refine lv_aload_n hx hb dX12_shape_96 rfl (lv_at hl 0 rfl) ?_
    refine mg_1 C hw dX12_shape_97 ?_
    refine lv_iload_n hx hb dX12_shape_100 rfl (lv_at hl 2 rfl) ?_
    refine ml_1 C hw hf.1 dX12_shape_101 (fun y_2 e9 => ?_)
    replace hf := hf.2 y_2 e9
    clear e9
    refine ms_49 C hw hf.1 dX12_shape_102 (fun u_3 e9 H locs hw => ?_)
    replace hf := hf.2 u_3 e9
    clear e9
    obtain ⟨x2_4, e9⟩ : ∃ y : Int32, y = x2 + (1 : Int32) := ⟨_, rfl⟩
    replace hf := hf x2_4 e9
    refine lv_iinc (v := x2_4) (lv' := [(2, .int x2_4), (0, .ref (q 0)), (1, .int x1)]) hx hb dX12_shape_103 hl (k := 2) rfl (by rw [e9]; rfl) (by decide) rfl (fun ls hl => ?_)
    clear e9
    refine lv_goto (tgt := 78) hx hb dX12_shape_106 (by decide) ?_
    exact hk78 x1 x2_4 u_3 _ _ _ hf hw (lv_sub hl [1, 2, 0] rfl)
def M_shape_78_lp (K : Int32 → th_St → Prop) : Nat → Int32 → Int32 → th_St → Prop
  | 0, _, _, _ => False
  | n + 1, x1, x2, u => M_shape_78 K (M_shape_78_lp K n) x1 x2 u
set_option maxHeartbeats 4000000 in
set_option maxRecDepth 100000 in
theorem M_shape_78_lw {K : Int32 → th_St → Prop} (C : th_Cx p s m args meth c cX12_shape RX12 3 (some .boolean) (dC, dI) (th_ty cs) th_E0 A) (n : Nat) : ∀ (x1 : Int32) (x2 : Int32) (u : th_St) (H : Heap) (locs : List Loc) (ls : Array Slot), M_shape_78_lp K n x1 x2 u → th_wI (dC, dI) (wM cs q) A s.heap u H locs → lv_has ls 3 [(0, .ref (q 0)), (1, .int x1), (2, .int x2)] → W p l e (th_rm 1 0 0) s m args below meth c H locs 0 0 (MQ below (va_Qi K (th_Post (dC, dI) (wM cs q) A) A) args s 0 0 A) (F0 m 78 ls []) := by
  induction n with
  | zero => intro x1 x2 u H locs ls hf; exact hf.elim
  | succ n ih =>
    intro x1 x2 u H locs ls hf hw hl
    exact M_shape_78_w C ih x1 x2 u H locs ls hf hw hl
def M_shape_44 (K : Int32 → th_St → Prop) (k44 : Int32 → Int32 → th_St → Prop) (x1 : Int32) (x2 : Int32) (u : th_St) : Prop :=
  (((u.1 3) ≤ x2 → ∃ n, M_shape_78_lp K n x1 (0 : Int32) u) ∧ (¬ (u.1 3) ≤ x2 → (vp_in x2 440 ∧ ∀ y_1 : Int32, y_1 = u.2.2.1 1 (x2).toNatClampNeg → M_isIn y_1 (-99 : Int32) (99 : Int32) u (fun r_3 u_2 => ((¬ r_3 = 0 → ∀ x2_4 : Int32, x2_4 = x2 + (1 : Int32) → k44 x1 x2_4 u_2) ∧ (r_3 = 0 → (((0 : Int32) = 0 ∨ (0 : Int32) = 1) ∧ K (0 : Int32) u_2)))))))
set_option maxHeartbeats 4000000 in
set_option maxRecDepth 100000 in
theorem M_shape_44_w {K : Int32 → th_St → Prop} {k44 : Int32 → Int32 → th_St → Prop} (C : th_Cx p s m args meth c cX12_shape RX12 3 (some .boolean) (dC, dI) (th_ty cs) th_E0 A) (hk44 : ∀ (x1 : Int32) (x2 : Int32) (u : th_St) (H : Heap) (locs : List Loc) (ls : Array Slot), k44 x1 x2 u → th_wI (dC, dI) (wM cs q) A s.heap u H locs → lv_has ls 3 [(0, .ref (q 0)), (1, .int x1), (2, .int x2)] → W p l e (th_rm 1 0 0) s m args below meth c H locs 0 0 (MQ below (va_Qi K (th_Post (dC, dI) (wM cs q) A) A) args s 0 0 A) (F0 m 44 ls [])) (x1 : Int32) (x2 : Int32) (u : th_St) (H : Heap) (locs : List Loc) (ls : Array Slot) (hf : M_shape_44 K k44 x1 x2 u) (hw : th_wI (dC, dI) (wM cs q) A s.heap u H locs) (hl : lv_has ls 3 [(0, .ref (q 0)), (1, .int x1), (2, .int x2)]) : W p l e (th_rm 1 0 0) s m args below meth c H locs 0 0 (MQ below (va_Qi K (th_Post (dC, dI) (wM cs q) A) A) args s 0 0 A) (F0 m 44 ls []) := by
  have hx := C.1
  have hb := C.2.1
  unfold M_shape_44 at hf
  refine lv_iload_n hx hb dX12_shape_44 rfl (lv_at hl 2 rfl) ?_
  refine lv_aload_n hx hb dX12_shape_45 rfl (lv_at hl 0 rfl) ?_
  refine mg_3 C hw dX12_shape_46 ?_
  refine lv_icmp_ge (tgt := 76) hx hb dX12_shape_49 (by decide) (fun hc => ?_) (fun hc => ?_)
  · replace hf := hf.1 hc
    clear hc
    refine lv_iconst (v := (0 : Int32)) hx hb dX12_shape_76 (by decide) ?_
    refine lv_istore_n (lv' := [(2, .int (0 : Int32)), (0, .ref (q 0)), (1, .int x1)]) hx hb dX12_shape_77 rfl hl (by decide) rfl (fun ls hl => ?_)
    obtain ⟨n, hf⟩ := hf
    exact M_shape_78_lw C n x1 (0 : Int32) u _ _ _ hf hw (lv_sub hl [1, 2, 0] rfl)
  · replace hf := hf.2 hc
    clear hc
    refine lv_aload_n hx hb dX12_shape_52 rfl (lv_at hl 0 rfl) ?_
    refine mg_1 C hw dX12_shape_53 ?_
    refine lv_iload_n hx hb dX12_shape_56 rfl (lv_at hl 2 rfl) ?_
    refine ml_1 C hw hf.1 dX12_shape_57 (fun y_1 e9 => ?_)
    replace hf := hf.2 y_1 e9
    clear e9
    refine lv_bipush (v := (-99 : Int32)) hx hb dX12_shape_58 (by decide) ?_
    refine lv_bipush (v := (99 : Int32)) hx hb dX12_shape_60 (by decide) ?_
    refine th_callSi (As := [.int y_1, .int (-99 : Int32), .int (99 : Int32)]) (rest := []) C lkX12_24 (M_isIn_c hf) hw rfl rfl ⟨Nat.le_of_ble_eq_true rfl, Nat.le_of_ble_eq_true rfl⟩ hl.1 (Nat.le_of_ble_eq_true rfl) ⟨Nat.le_refl _, Nat.le_refl _⟩ dX12_shape_62 (fun r_3 u_2 H locs hf hw => ?_)
    refine lv_if_ne (tgt := 70) hx hb dX12_shape_65 (by decide) (fun hc => ?_) (fun hc => ?_)
    · replace hf := hf.1 hc
      clear hc
      obtain ⟨x2_4, e9⟩ : ∃ y : Int32, y = x2 + (1 : Int32) := ⟨_, rfl⟩
      replace hf := hf x2_4 e9
      refine lv_iinc (v := x2_4) (lv' := [(2, .int x2_4), (0, .ref (q 0)), (1, .int x1)]) hx hb dX12_shape_70 hl (k := 2) rfl (by rw [e9]; rfl) (by decide) rfl (fun ls hl => ?_)
      clear e9
      refine lv_goto (tgt := 44) hx hb dX12_shape_73 (by decide) ?_
      exact hk44 x1 x2_4 u_2 _ _ _ hf hw (lv_sub hl [1, 2, 0] rfl)
    · replace hf := hf.2 hc
      clear hc
      refine lv_iconst (v := (0 : Int32)) hx hb dX12_shape_68 (by decide) ?_
      exact th_zret C hw hf dX12_shape_69
def M_shape_44_lp (K : Int32 → th_St → Prop) : Nat → Int32 → Int32 → th_St → Prop
  | 0, _, _, _ => False
  | n + 1, x1, x2, u => M_shape_44 K (M_shape_44_lp K n) x1 x2 u
set_option maxHeartbeats 4000000 in
set_option maxRecDepth 100000 in
theorem M_shape_44_lw {K : Int32 → th_St → Prop} (C : th_Cx p s m args meth c cX12_shape RX12 3 (some .boolean) (dC, dI) (th_ty cs) th_E0 A) (n : Nat) : ∀ (x1 : Int32) (x2 : Int32) (u : th_St) (H : Heap) (locs : List Loc) (ls : Array Slot), M_shape_44_lp K n x1 x2 u → th_wI (dC, dI) (wM cs q) A s.heap u H locs → lv_has ls 3 [(0, .ref (q 0)), (1, .int x1), (2, .int x2)] → W p l e (th_rm 1 0 0) s m args below meth c H locs 0 0 (MQ below (va_Qi K (th_Post (dC, dI) (wM cs q) A) A) args s 0 0 A) (F0 m 44 ls []) := by
  induction n with
  | zero => intro x1 x2 u H locs ls hf; exact hf.elim
  | succ n ih =>
    intro x1 x2 u H locs ls hf hw hl
    exact M_shape_44_w C ih x1 x2 u H locs ls hf hw hl
def M_shape (a1 : Int32) (u : th_St) (K : Int32 → th_St → Prop) : Prop :=
  ∀ u_1 : th_St, u_1 = th_si u 0 (0 : Int32) → M_taken u_1 (fun u_2 => M_isIn a1 (0 : Int32) (5 : Int32) u_2 (fun r_5 u_4 => ((r_5 = 0 → M_shape_40 K u_4) ∧ (¬ r_5 = 0 → M_isIn (u_4.1 3) (1 : Int32) (9 : Int32) u_4 (fun r_7 u_6 => ((r_7 = 0 → M_shape_40 K u_6) ∧ (¬ r_7 = 0 → (vp_in (0 : Int32) 440 ∧ ∀ y_8 : Int32, y_8 = u_6.2.2.1 1 ((0 : Int32)).toNatClampNeg → ((¬ y_8 = 0 → ∃ n, M_shape_44_lp K n a1 (0 : Int32) u_6) ∧ (y_8 = 0 → M_shape_40 K u_6))))))))))
set_option maxHeartbeats 4000000 in
set_option maxRecDepth 100000 in
theorem M_shape_c {l : Launch} {dC : Nat → ClassId} {dI : Nat → Nat → Nat} {cs : Nat → ClassId} {q : Nat → Nat} {a1 : Int32} {u : th_St} {K : Int32 → th_St → Prop} (hf : M_shape a1 u K) : th_Ci l yX12_shape cX12_shape 3 (some .boolean) 1 0 0 (dC, dI) (th_ty cs) th_E0 (wM cs q) [.ref (q 0), .int a1] u K := by
  refine th_ofi (by decide) (Nat.le_of_ble_eq_true rfl) th_E0_ok ?_
  intro p e s m below meth c A ls C hw hl
  have C : th_Cx p s m _ meth c cX12_shape RX12 3 (some .boolean) (dC, dI) (th_ty cs) th_E0 A := C
  have hl : lv_has ls 3 [(0, .ref (q 0)), (1, .int a1)] := hl
  generalize (List.toArray _ : Array Value) = args at C ⊢
  have hx := C.1
  have hb := C.2.1
  unfold M_shape at hf
  refine lv_aload_n hx hb dX12_shape_0 rfl (lv_at hl 0 rfl) ?_
  refine lv_iconst (v := (0 : Int32)) hx hb dX12_shape_1 (by decide) ?_
  refine mp_0 C hw dX12_shape_2 (fun u_1 e9 H locs hw => ?_)
  replace hf := hf u_1 e9
  clear e9
  refine lv_aload_n hx hb dX12_shape_5 rfl (lv_at hl 0 rfl) ?_
  refine th_callVv (As := []) (rest := []) C lkX12_164 (M_taken_c hf) hw (mRc C hw) rfl rfl ⟨Nat.le_of_ble_eq_true rfl, Nat.le_of_ble_eq_true rfl⟩ hl.1 (Nat.le_of_ble_eq_true rfl) ⟨Nat.le_refl _, Nat.le_refl _⟩ dX12_shape_6 (fun u_2 H locs hf hw => ?_)
  refine lv_iload_n hx hb dX12_shape_9 rfl (lv_at hl 1 rfl) ?_
  refine lv_iconst (v := (0 : Int32)) hx hb dX12_shape_10 (by decide) ?_
  refine lv_iconst (v := (5 : Int32)) hx hb dX12_shape_11 (by decide) ?_
  refine th_callSi (As := [.int a1, .int (0 : Int32), .int (5 : Int32)]) (rest := []) C lkX12_24 (M_isIn_c hf) hw rfl rfl ⟨Nat.le_of_ble_eq_true rfl, Nat.le_of_ble_eq_true rfl⟩ hl.1 (Nat.le_of_ble_eq_true rfl) ⟨Nat.le_refl _, Nat.le_refl _⟩ dX12_shape_12 (fun r_5 u_4 H locs hf hw => ?_)
  refine lv_if_eq (tgt := 40) hx hb dX12_shape_15 (by decide) (fun hc => ?_) (fun hc => ?_)
  · replace hf := hf.1 hc
    clear hc
    exact M_shape_40_w C  u_4 _ _ _ hf hw (lv_sub hl [] rfl)
  · replace hf := hf.2 hc
    clear hc
    refine lv_aload_n hx hb dX12_shape_18 rfl (lv_at hl 0 rfl) ?_
    refine mg_3 C hw dX12_shape_19 ?_
    refine lv_iconst (v := (1 : Int32)) hx hb dX12_shape_22 (by decide) ?_
    refine lv_bipush (v := (9 : Int32)) hx hb dX12_shape_23 (by decide) ?_
    refine th_callSi (As := [.int (u_4.1 3), .int (1 : Int32), .int (9 : Int32)]) (rest := []) C lkX12_24 (M_isIn_c hf) hw rfl rfl ⟨Nat.le_of_ble_eq_true rfl, Nat.le_of_ble_eq_true rfl⟩ hl.1 (Nat.le_of_ble_eq_true rfl) ⟨Nat.le_refl _, Nat.le_refl _⟩ dX12_shape_25 (fun r_7 u_6 H locs hf hw => ?_)
    refine lv_if_eq (tgt := 40) hx hb dX12_shape_28 (by decide) (fun hc => ?_) (fun hc => ?_)
    · replace hf := hf.1 hc
      clear hc
      exact M_shape_40_w C  u_6 _ _ _ hf hw (lv_sub hl [] rfl)
    · replace hf := hf.2 hc
      clear hc
      refine lv_aload_n hx hb dX12_shape_31 rfl (lv_at hl 0 rfl) ?_
      refine mg_1 C hw dX12_shape_32 ?_
      refine lv_iconst (v := (0 : Int32)) hx hb dX12_shape_35 (by decide) ?_
      refine ml_1 C hw hf.1 dX12_shape_36 (fun y_8 e9 => ?_)
      replace hf := hf.2 y_8 e9
      clear e9
      refine lv_if_ne (tgt := 42) hx hb dX12_shape_37 (by decide) (fun hc => ?_) (fun hc => ?_)
      · replace hf := hf.1 hc
        clear hc
        refine lv_iconst (v := (0 : Int32)) hx hb dX12_shape_42 (by decide) ?_
        refine lv_istore_n (lv' := [(2, .int (0 : Int32)), (0, .ref (q 0)), (1, .int a1)]) hx hb dX12_shape_43 rfl hl (by decide) rfl (fun ls hl => ?_)
        obtain ⟨n, hf⟩ := hf
        exact M_shape_44_lw C n a1 (0 : Int32) u_6 _ _ _ hf hw (lv_sub hl [1, 2, 0] rfl)
      · replace hf := hf.2 hc
        clear hc
        exact M_shape_40_w C  u_6 _ _ _ hf hw (lv_sub hl [] rfl)
/-! X12_lies -/
theorem dX12_lies_0 : decode cX12_lies 0 = .ok (.aload_n 0, 1) := by decide +kernel
theorem dX12_lies_1 : decode cX12_lies 1 = .ok (.getfield 122, 3) := by decide +kernel
theorem dX12_lies_4 : decode cX12_lies 4 = .ok (.iload_n 1, 1) := by decide +kernel
theorem dX12_lies_5 : decode cX12_lies 5 = .ok (.iaload, 1) := by decide +kernel
theorem dX12_lies_6 : decode cX12_lies 6 = .ok (.ifCond .eq 16, 3) := by decide +kernel
theorem dX12_lies_9 : decode cX12_lies 9 = .ok (.iload_n 2, 1) := by decide +kernel
theorem dX12_lies_10 : decode cX12_lies 10 = .ok (.aload_n 0, 1) := by decide +kernel
theorem dX12_lies_11 : decode cX12_lies 11 = .ok (.getfield 122, 3) := by decide +kernel
theorem dX12_lies_14 : decode cX12_lies 14 = .ok (.iload_n 1, 1) := by decide +kernel
theorem dX12_lies_15 : decode cX12_lies 15 = .ok (.iaload, 1) := by decide +kernel
theorem dX12_lies_16 : decode cX12_lies 16 = .ok (.iadd, 1) := by decide +kernel
theorem dX12_lies_17 : decode cX12_lies 17 = .ok (.iload 4, 2) := by decide +kernel
theorem dX12_lies_19 : decode cX12_lies 19 = .ok (.if_icmp .le 5, 3) := by decide +kernel
theorem dX12_lies_22 : decode cX12_lies 22 = .ok (.iconst 0, 1) := by decide +kernel
theorem dX12_lies_23 : decode cX12_lies 23 = .ok (.ireturn, 1) := by decide +kernel
theorem dX12_lies_24 : decode cX12_lies 24 = .ok (.iconst 0, 1) := by decide +kernel
theorem dX12_lies_25 : decode cX12_lies 25 = .ok (.istore 5, 2) := by decide +kernel
theorem dX12_lies_27 : decode cX12_lies 27 = .ok (.iload 5, 2) := by decide +kernel
theorem dX12_lies_29 : decode cX12_lies 29 = .ok (.aload_n 0, 1) := by decide +kernel
theorem dX12_lies_30 : decode cX12_lies 30 = .ok (.getfield 122, 3) := by decide +kernel
theorem dX12_lies_33 : decode cX12_lies 33 = .ok (.iload_n 1, 1) := by decide +kernel
theorem dX12_lies_34 : decode cX12_lies 34 = .ok (.iaload, 1) := by decide +kernel
theorem dX12_lies_35 : decode cX12_lies 35 = .ok (.if_icmp .ge 47, 3) := by decide +kernel
theorem dX12_lies_38 : decode cX12_lies 38 = .ok (.aload_n 0, 1) := by decide +kernel
theorem dX12_lies_39 : decode cX12_lies 39 = .ok (.getfield 125, 3) := by decide +kernel
theorem dX12_lies_42 : decode cX12_lies 42 = .ok (.iload_n 2, 1) := by decide +kernel
theorem dX12_lies_43 : decode cX12_lies 43 = .ok (.iload 5, 2) := by decide +kernel
theorem dX12_lies_45 : decode cX12_lies 45 = .ok (.iadd, 1) := by decide +kernel
theorem dX12_lies_46 : decode cX12_lies 46 = .ok (.iaload, 1) := by decide +kernel
theorem dX12_lies_47 : decode cX12_lies 47 = .ok (.iload_n 3, 1) := by decide +kernel
theorem dX12_lies_48 : decode cX12_lies 48 = .ok (.aload_n 0, 1) := by decide +kernel
theorem dX12_lies_49 : decode cX12_lies 49 = .ok (.getfield 119, 3) := by decide +kernel
theorem dX12_lies_52 : decode cX12_lies 52 = .ok (.bipush 9, 2) := by decide +kernel
theorem dX12_lies_54 : decode cX12_lies 54 = .ok (.iload_n 1, 1) := by decide +kernel
theorem dX12_lies_55 : decode cX12_lies 55 = .ok (.imul, 1) := by decide +kernel
theorem dX12_lies_56 : decode cX12_lies 56 = .ok (.iload 5, 2) := by decide +kernel
theorem dX12_lies_58 : decode cX12_lies 58 = .ok (.iadd, 1) := by decide +kernel
theorem dX12_lies_59 : decode cX12_lies 59 = .ok (.iaload, 1) := by decide +kernel
theorem dX12_lies_60 : decode cX12_lies 60 = .ok (.imul, 1) := by decide +kernel
theorem dX12_lies_61 : decode cX12_lies 61 = .ok (.isub, 1) := by decide +kernel
theorem dX12_lies_62 : decode cX12_lies 62 = .ok (.invokestatic 334, 3) := by decide +kernel
theorem dX12_lies_65 : decode cX12_lies 65 = .ok (.aload_n 0, 1) := by decide +kernel
theorem dX12_lies_66 : decode cX12_lies 66 = .ok (.getfield 63, 3) := by decide +kernel
theorem dX12_lies_69 : decode cX12_lies 69 = .ok (.iconst 0, 1) := by decide +kernel
theorem dX12_lies_70 : decode cX12_lies 70 = .ok (.iaload, 1) := by decide +kernel
theorem dX12_lies_71 : decode cX12_lies 71 = .ok (.if_icmp .le 5, 3) := by decide +kernel
theorem dX12_lies_74 : decode cX12_lies 74 = .ok (.iconst 0, 1) := by decide +kernel
theorem dX12_lies_75 : decode cX12_lies 75 = .ok (.ireturn, 1) := by decide +kernel
theorem dX12_lies_76 : decode cX12_lies 76 = .ok (.iinc 5 1, 3) := by decide +kernel
theorem dX12_lies_79 : decode cX12_lies 79 = .ok (.goto (-52), 3) := by decide +kernel
theorem dX12_lies_82 : decode cX12_lies 82 = .ok (.iconst 1, 1) := by decide +kernel
theorem dX12_lies_83 : decode cX12_lies 83 = .ok (.ireturn, 1) := by decide +kernel
def M_lies_22 (K : Int32 → th_St → Prop) (u : th_St) : Prop :=
  (((0 : Int32) = 0 ∨ (0 : Int32) = 1) ∧ K (0 : Int32) u)
set_option maxHeartbeats 4000000 in
set_option maxRecDepth 100000 in
theorem M_lies_22_w {K : Int32 → th_St → Prop} (C : th_Cx p s m args meth c cX12_lies RX12 6 (some .boolean) (dC, dI) (th_ty cs) th_E0 A) (u : th_St) (H : Heap) (locs : List Loc) (ls : Array Slot) (hf : M_lies_22 K u) (hw : th_wI (dC, dI) (wM cs q) A s.heap u H locs) (hl : lv_has ls 6 []) : W p l e (th_rm 1 0 0) s m args below meth c H locs 0 0 (MQ below (va_Qi K (th_Post (dC, dI) (wM cs q) A) A) args s 0 0 A) (F0 m 22 ls []) := by
  have hx := C.1
  have hb := C.2.1
  unfold M_lies_22 at hf
  refine lv_iconst (v := (0 : Int32)) hx hb dX12_lies_22 (by decide) ?_
  exact th_zret C hw hf dX12_lies_23
def M_lies_27 (K : Int32 → th_St → Prop) (k27 : Int32 → Int32 → Int32 → Int32 → th_St → Prop) (x1 : Int32) (x2 : Int32) (x3 : Int32) (x5 : Int32) (u : th_St) : Prop :=
  (vp_in x1 6 ∧ ∀ y_1 : Int32, y_1 = u.2.2.1 50 (x1).toNatClampNeg → ((y_1 ≤ x5 → (((1 : Int32) = 0 ∨ (1 : Int32) = 1) ∧ K (1 : Int32) u)) ∧ (¬ y_1 ≤ x5 → (vp_in (x2 + x5) 48 ∧ ∀ y_2 : Int32, y_2 = u.2.2.1 51 ((x2 + x5)).toNatClampNeg → (vp_in (((9 : Int32) * x1) + x5) 54 ∧ ∀ y_3 : Int32, y_3 = u.2.2.1 49 ((((9 : Int32) * x1) + x5)).toNatClampNeg → M_plain (y_2 - (x3 * y_3)) u (fun r_5 u_4 => (vp_in (0 : Int32) 2 ∧ ∀ y_6 : Int32, y_6 = u_4.2.2.1 14 ((0 : Int32)).toNatClampNeg → ((r_5 ≤ y_6 → ∀ x5_7 : Int32, x5_7 = x5 + (1 : Int32) → k27 x1 x2 x3 x5_7 u_4) ∧ (¬ r_5 ≤ y_6 → (((0 : Int32) = 0 ∨ (0 : Int32) = 1) ∧ K (0 : Int32) u_4))))))))))
set_option maxHeartbeats 4000000 in
set_option maxRecDepth 100000 in
theorem M_lies_27_w {K : Int32 → th_St → Prop} {k27 : Int32 → Int32 → Int32 → Int32 → th_St → Prop} (C : th_Cx p s m args meth c cX12_lies RX12 6 (some .boolean) (dC, dI) (th_ty cs) th_E0 A) (hk27 : ∀ (x1 : Int32) (x2 : Int32) (x3 : Int32) (x5 : Int32) (u : th_St) (H : Heap) (locs : List Loc) (ls : Array Slot), k27 x1 x2 x3 x5 u → th_wI (dC, dI) (wM cs q) A s.heap u H locs → lv_has ls 6 [(0, .ref (q 0)), (1, .int x1), (2, .int x2), (3, .int x3), (5, .int x5)] → W p l e (th_rm 1 0 0) s m args below meth c H locs 0 0 (MQ below (va_Qi K (th_Post (dC, dI) (wM cs q) A) A) args s 0 0 A) (F0 m 27 ls [])) (x1 : Int32) (x2 : Int32) (x3 : Int32) (x5 : Int32) (u : th_St) (H : Heap) (locs : List Loc) (ls : Array Slot) (hf : M_lies_27 K k27 x1 x2 x3 x5 u) (hw : th_wI (dC, dI) (wM cs q) A s.heap u H locs) (hl : lv_has ls 6 [(0, .ref (q 0)), (1, .int x1), (2, .int x2), (3, .int x3), (5, .int x5)]) : W p l e (th_rm 1 0 0) s m args below meth c H locs 0 0 (MQ below (va_Qi K (th_Post (dC, dI) (wM cs q) A) A) args s 0 0 A) (F0 m 27 ls []) := by
  have hx := C.1
  have hb := C.2.1
  unfold M_lies_27 at hf
  refine lv_iload hx hb dX12_lies_27 (lv_at hl 4 rfl) ?_
  refine lv_aload_n hx hb dX12_lies_29 rfl (lv_at hl 0 rfl) ?_
  refine mg_50 C hw dX12_lies_30 ?_
  refine lv_iload_n hx hb dX12_lies_33 rfl (lv_at hl 1 rfl) ?_
  refine ml_50 C hw hf.1 dX12_lies_34 (fun y_1 e9 => ?_)
  replace hf := hf.2 y_1 e9
  clear e9
  refine lv_icmp_ge (tgt := 82) hx hb dX12_lies_35 (by decide) (fun hc => ?_) (fun hc => ?_)
  · replace hf := hf.1 hc
    clear hc
    refine lv_iconst (v := (1 : Int32)) hx hb dX12_lies_82 (by decide) ?_
    exact th_zret C hw hf dX12_lies_83
  · replace hf := hf.2 hc
    clear hc
    refine lv_aload_n hx hb dX12_lies_38 rfl (lv_at hl 0 rfl) ?_
    refine mg_51 C hw dX12_lies_39 ?_
    refine lv_iload_n hx hb dX12_lies_42 rfl (lv_at hl 2 rfl) ?_
    refine lv_iload hx hb dX12_lies_43 (lv_at hl 4 rfl) ?_
    refine lv_iadd hx hb dX12_lies_45 ?_
    refine ml_51 C hw hf.1 dX12_lies_46 (fun y_2 e9 => ?_)
    replace hf := hf.2 y_2 e9
    clear e9
    refine lv_iload_n hx hb dX12_lies_47 rfl (lv_at hl 3 rfl) ?_
    refine lv_aload_n hx hb dX12_lies_48 rfl (lv_at hl 0 rfl) ?_
    refine mg_49 C hw dX12_lies_49 ?_
    refine lv_bipush (v := (9 : Int32)) hx hb dX12_lies_52 (by decide) ?_
    refine lv_iload_n hx hb dX12_lies_54 rfl (lv_at hl 1 rfl) ?_
    refine lv_imul hx hb dX12_lies_55 ?_
    refine lv_iload hx hb dX12_lies_56 (lv_at hl 4 rfl) ?_
    refine lv_iadd hx hb dX12_lies_58 ?_
    refine ml_49 C hw hf.1 dX12_lies_59 (fun y_3 e9 => ?_)
    replace hf := hf.2 y_3 e9
    clear e9
    refine lv_imul hx hb dX12_lies_60 ?_
    refine lv_isub hx hb dX12_lies_61 ?_
    refine th_callSi (As := [.int (y_2 - (x3 * y_3))]) (rest := []) C lkX12_334 (M_plain_c hf) hw rfl rfl ⟨Nat.le_of_ble_eq_true rfl, Nat.le_of_ble_eq_true rfl⟩ hl.1 (Nat.le_of_ble_eq_true rfl) ⟨Nat.le_refl _, Nat.le_refl _⟩ dX12_lies_62 (fun r_5 u_4 H locs hf hw => ?_)
    refine lv_aload_n hx hb dX12_lies_65 rfl (lv_at hl 0 rfl) ?_
    refine mg_14 C hw dX12_lies_66 ?_
    refine lv_iconst (v := (0 : Int32)) hx hb dX12_lies_69 (by decide) ?_
    refine ml_14 C hw hf.1 dX12_lies_70 (fun y_6 e9 => ?_)
    replace hf := hf.2 y_6 e9
    clear e9
    refine lv_icmp_le (tgt := 76) hx hb dX12_lies_71 (by decide) (fun hc => ?_) (fun hc => ?_)
    · replace hf := hf.1 hc
      clear hc
      obtain ⟨x5_7, e9⟩ : ∃ y : Int32, y = x5 + (1 : Int32) := ⟨_, rfl⟩
      replace hf := hf x5_7 e9
      refine lv_iinc (v := x5_7) (lv' := [(5, .int x5_7), (0, .ref (q 0)), (1, .int x1), (2, .int x2), (3, .int x3)]) hx hb dX12_lies_76 hl (k := 4) rfl (by rw [e9]; rfl) (by decide) rfl (fun ls hl => ?_)
      clear e9
      refine lv_goto (tgt := 27) hx hb dX12_lies_79 (by decide) ?_
      exact hk27 x1 x2 x3 x5_7 u_4 _ _ _ hf hw (lv_sub hl [1, 2, 3, 4, 0] rfl)
    · replace hf := hf.2 hc
      clear hc
      refine lv_iconst (v := (0 : Int32)) hx hb dX12_lies_74 (by decide) ?_
      exact th_zret C hw hf dX12_lies_75
def M_lies_27_lp (K : Int32 → th_St → Prop) : Nat → Int32 → Int32 → Int32 → Int32 → th_St → Prop
  | 0, _, _, _, _, _ => False
  | n + 1, x1, x2, x3, x5, u => M_lies_27 K (M_lies_27_lp K n) x1 x2 x3 x5 u
set_option maxHeartbeats 4000000 in
set_option maxRecDepth 100000 in
theorem M_lies_27_lw {K : Int32 → th_St → Prop} (C : th_Cx p s m args meth c cX12_lies RX12 6 (some .boolean) (dC, dI) (th_ty cs) th_E0 A) (n : Nat) : ∀ (x1 : Int32) (x2 : Int32) (x3 : Int32) (x5 : Int32) (u : th_St) (H : Heap) (locs : List Loc) (ls : Array Slot), M_lies_27_lp K n x1 x2 x3 x5 u → th_wI (dC, dI) (wM cs q) A s.heap u H locs → lv_has ls 6 [(0, .ref (q 0)), (1, .int x1), (2, .int x2), (3, .int x3), (5, .int x5)] → W p l e (th_rm 1 0 0) s m args below meth c H locs 0 0 (MQ below (va_Qi K (th_Post (dC, dI) (wM cs q) A) A) args s 0 0 A) (F0 m 27 ls []) := by
  induction n with
  | zero => intro x1 x2 x3 x5 u H locs ls hf; exact hf.elim
  | succ n ih =>
    intro x1 x2 x3 x5 u H locs ls hf hw hl
    exact M_lies_27_w C ih x1 x2 x3 x5 u H locs ls hf hw hl
def M_lies (a1 : Int32) (a2 : Int32) (a3 : Int32) (a4 : Int32) (u : th_St) (K : Int32 → th_St → Prop) : Prop :=
  (vp_in a1 6 ∧ ∀ y_1 : Int32, y_1 = u.2.2.1 50 (a1).toNatClampNeg → ((y_1 = 0 → M_lies_22 K u) ∧ (¬ y_1 = 0 → (vp_in a1 6 ∧ ∀ y_2 : Int32, y_2 = u.2.2.1 50 (a1).toNatClampNeg → (((a2 + y_2) ≤ a4 → ∃ n, M_lies_27_lp K n a1 a2 a3 (0 : Int32) u) ∧ (¬ (a2 + y_2) ≤ a4 → M_lies_22 K u))))))
set_option maxHeartbeats 4000000 in
set_option maxRecDepth 100000 in
theorem M_lies_c {l : Launch} {dC : Nat → ClassId} {dI : Nat → Nat → Nat} {cs : Nat → ClassId} {q : Nat → Nat} {a1 : Int32} {a2 : Int32} {a3 : Int32} {a4 : Int32} {u : th_St} {K : Int32 → th_St → Prop} (hf : M_lies a1 a2 a3 a4 u K) : th_Ci l yX12_lies cX12_lies 6 (some .boolean) 1 0 0 (dC, dI) (th_ty cs) th_E0 (wM cs q) [.ref (q 0), .int a1, .int a2, .int a3, .int a4] u K := by
  refine th_ofi (by decide) (Nat.le_of_ble_eq_true rfl) th_E0_ok ?_
  intro p e s m below meth c A ls C hw hl
  have C : th_Cx p s m _ meth c cX12_lies RX12 6 (some .boolean) (dC, dI) (th_ty cs) th_E0 A := C
  have hl : lv_has ls 6 [(0, .ref (q 0)), (1, .int a1), (2, .int a2), (3, .int a3), (4, .int a4)] := hl
  generalize (List.toArray _ : Array Value) = args at C ⊢
  have hx := C.1
  have hb := C.2.1
  unfold M_lies at hf
  refine lv_aload_n hx hb dX12_lies_0 rfl (lv_at hl 0 rfl) ?_
  refine mg_50 C hw dX12_lies_1 ?_
  refine lv_iload_n hx hb dX12_lies_4 rfl (lv_at hl 1 rfl) ?_
  refine ml_50 C hw hf.1 dX12_lies_5 (fun y_1 e9 => ?_)
  replace hf := hf.2 y_1 e9
  clear e9
  refine lv_if_eq (tgt := 22) hx hb dX12_lies_6 (by decide) (fun hc => ?_) (fun hc => ?_)
  · replace hf := hf.1 hc
    clear hc
    exact M_lies_22_w C  u _ _ _ hf hw (lv_sub hl [] rfl)
  · replace hf := hf.2 hc
    clear hc
    refine lv_iload_n hx hb dX12_lies_9 rfl (lv_at hl 2 rfl) ?_
    refine lv_aload_n hx hb dX12_lies_10 rfl (lv_at hl 0 rfl) ?_
    refine mg_50 C hw dX12_lies_11 ?_
    refine lv_iload_n hx hb dX12_lies_14 rfl (lv_at hl 1 rfl) ?_
    refine ml_50 C hw hf.1 dX12_lies_15 (fun y_2 e9 => ?_)
    replace hf := hf.2 y_2 e9
    clear e9
    refine lv_iadd hx hb dX12_lies_16 ?_
    refine lv_iload hx hb dX12_lies_17 (lv_at hl 4 rfl) ?_
    refine lv_icmp_le (tgt := 24) hx hb dX12_lies_19 (by decide) (fun hc => ?_) (fun hc => ?_)
    · replace hf := hf.1 hc
      clear hc
      refine lv_iconst (v := (0 : Int32)) hx hb dX12_lies_24 (by decide) ?_
      refine lv_istore (lv' := [(5, .int (0 : Int32)), (0, .ref (q 0)), (1, .int a1), (2, .int a2), (3, .int a3), (4, .int a4)]) hx hb dX12_lies_25 hl (by decide) rfl (fun ls hl => ?_)
      obtain ⟨n, hf⟩ := hf
      exact M_lies_27_lw C n a1 a2 a3 (0 : Int32) u _ _ _ hf hw (lv_sub hl [1, 2, 3, 4, 0] rfl)
    · replace hf := hf.2 hc
      clear hc
      exact M_lies_22_w C  u _ _ _ hf hw (lv_sub hl [] rfl)
end

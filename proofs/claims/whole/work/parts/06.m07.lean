section
variable {p : Program} {l : Launch} {e : Env} {s : State} {m : MethodId} {args : Array Value} {below : List Frame} {meth : Method} {c : Code} {dC : Nat → ClassId} {dI : Nat → Nat → Nat} {cs : Nat → ClassId} {q : Nat → Nat} {A : Nat → Prop}
/-! X12_explain -/
theorem dX12_explain_0 : decode cX12_explain 0 = .ok (.aload_n 0, 1) := by decide +kernel
theorem dX12_explain_1 : decode cX12_explain 1 = .ok (.iconst 0, 1) := by decide +kernel
theorem dX12_explain_2 : decode cX12_explain 2 = .ok (.putfield 1, 3) := by decide +kernel
theorem dX12_explain_5 : decode cX12_explain 5 = .ok (.aload_n 0, 1) := by decide +kernel
theorem dX12_explain_6 : decode cX12_explain 6 = .ok (.invokevirtual 164, 3) := by decide +kernel
theorem dX12_explain_9 : decode cX12_explain 9 = .ok (.aload_n 0, 1) := by decide +kernel
theorem dX12_explain_10 : decode cX12_explain 10 = .ok (.getfield 54, 3) := by decide +kernel
theorem dX12_explain_13 : decode cX12_explain 13 = .ok (.iconst 0, 1) := by decide +kernel
theorem dX12_explain_14 : decode cX12_explain 14 = .ok (.iaload, 1) := by decide +kernel
theorem dX12_explain_15 : decode cX12_explain 15 = .ok (.istore_n 1, 1) := by decide +kernel
theorem dX12_explain_16 : decode cX12_explain 16 = .ok (.aload_n 0, 1) := by decide +kernel
theorem dX12_explain_17 : decode cX12_explain 17 = .ok (.getfield 18, 3) := by decide +kernel
theorem dX12_explain_20 : decode cX12_explain 20 = .ok (.iload_n 1, 1) := by decide +kernel
theorem dX12_explain_21 : decode cX12_explain 21 = .ok (.if_icmp .eq 5, 3) := by decide +kernel
theorem dX12_explain_24 : decode cX12_explain 24 = .ok (.iconst (-1), 1) := by decide +kernel
theorem dX12_explain_25 : decode cX12_explain 25 = .ok (.ireturn, 1) := by decide +kernel
theorem dX12_explain_26 : decode cX12_explain 26 = .ok (.iconst 0, 1) := by decide +kernel
theorem dX12_explain_27 : decode cX12_explain 27 = .ok (.istore_n 2, 1) := by decide +kernel
theorem dX12_explain_28 : decode cX12_explain 28 = .ok (.iload_n 2, 1) := by decide +kernel
theorem dX12_explain_29 : decode cX12_explain 29 = .ok (.iload_n 1, 1) := by decide +kernel
theorem dX12_explain_30 : decode cX12_explain 30 = .ok (.if_icmp .ge 21, 3) := by decide +kernel
theorem dX12_explain_33 : decode cX12_explain 33 = .ok (.aload_n 0, 1) := by decide +kernel
theorem dX12_explain_34 : decode cX12_explain 34 = .ok (.getfield 125, 3) := by decide +kernel
theorem dX12_explain_37 : decode cX12_explain 37 = .ok (.iload_n 2, 1) := by decide +kernel
theorem dX12_explain_38 : decode cX12_explain 38 = .ok (.aload_n 0, 1) := by decide +kernel
theorem dX12_explain_39 : decode cX12_explain 39 = .ok (.getfield 14, 3) := by decide +kernel
theorem dX12_explain_42 : decode cX12_explain 42 = .ok (.iload_n 2, 1) := by decide +kernel
theorem dX12_explain_43 : decode cX12_explain 43 = .ok (.baload, 1) := by decide +kernel
theorem dX12_explain_44 : decode cX12_explain 44 = .ok (.iastore, 1) := by decide +kernel
theorem dX12_explain_45 : decode cX12_explain 45 = .ok (.iinc 2 1, 3) := by decide +kernel
theorem dX12_explain_48 : decode cX12_explain 48 = .ok (.goto (-20), 3) := by decide +kernel
theorem dX12_explain_51 : decode cX12_explain 51 = .ok (.aload_n 0, 1) := by decide +kernel
theorem dX12_explain_52 : decode cX12_explain 52 = .ok (.getfield 128, 3) := by decide +kernel
theorem dX12_explain_55 : decode cX12_explain 55 = .ok (.iload_n 1, 1) := by decide +kernel
theorem dX12_explain_56 : decode cX12_explain 56 = .ok (.iconst 0, 1) := by decide +kernel
theorem dX12_explain_57 : decode cX12_explain 57 = .ok (.iastore, 1) := by decide +kernel
theorem dX12_explain_58 : decode cX12_explain 58 = .ok (.iload_n 1, 1) := by decide +kernel
theorem dX12_explain_59 : decode cX12_explain 59 = .ok (.iconst 1, 1) := by decide +kernel
theorem dX12_explain_60 : decode cX12_explain 60 = .ok (.isub, 1) := by decide +kernel
theorem dX12_explain_61 : decode cX12_explain 61 = .ok (.istore_n 2, 1) := by decide +kernel
theorem dX12_explain_62 : decode cX12_explain 62 = .ok (.iload_n 2, 1) := by decide +kernel
theorem dX12_explain_63 : decode cX12_explain 63 = .ok (.ifCond .lt 133, 3) := by decide +kernel
theorem dX12_explain_66 : decode cX12_explain 66 = .ok (.aload_n 0, 1) := by decide +kernel
theorem dX12_explain_67 : decode cX12_explain 67 = .ok (.getfield 128, 3) := by decide +kernel
theorem dX12_explain_70 : decode cX12_explain 70 = .ok (.iload_n 2, 1) := by decide +kernel
theorem dX12_explain_71 : decode cX12_explain 71 = .ok (.aload_n 0, 1) := by decide +kernel
theorem dX12_explain_72 : decode cX12_explain 72 = .ok (.getfield 125, 3) := by decide +kernel
theorem dX12_explain_75 : decode cX12_explain 75 = .ok (.iload_n 2, 1) := by decide +kernel
theorem dX12_explain_76 : decode cX12_explain 76 = .ok (.iaload, 1) := by decide +kernel
theorem dX12_explain_77 : decode cX12_explain 77 = .ok (.invokestatic 334, 3) := by decide +kernel
theorem dX12_explain_80 : decode cX12_explain 80 = .ok (.aload_n 0, 1) := by decide +kernel
theorem dX12_explain_81 : decode cX12_explain 81 = .ok (.getfield 63, 3) := by decide +kernel
theorem dX12_explain_84 : decode cX12_explain 84 = .ok (.iconst 0, 1) := by decide +kernel
theorem dX12_explain_85 : decode cX12_explain 85 = .ok (.iaload, 1) := by decide +kernel
theorem dX12_explain_86 : decode cX12_explain 86 = .ok (.if_icmp .gt 14, 3) := by decide +kernel
theorem dX12_explain_89 : decode cX12_explain 89 = .ok (.aload_n 0, 1) := by decide +kernel
theorem dX12_explain_90 : decode cX12_explain 90 = .ok (.getfield 128, 3) := by decide +kernel
theorem dX12_explain_93 : decode cX12_explain 93 = .ok (.iload_n 2, 1) := by decide +kernel
theorem dX12_explain_94 : decode cX12_explain 94 = .ok (.iconst 1, 1) := by decide +kernel
theorem dX12_explain_95 : decode cX12_explain 95 = .ok (.iadd, 1) := by decide +kernel
theorem dX12_explain_96 : decode cX12_explain 96 = .ok (.iaload, 1) := by decide +kernel
theorem dX12_explain_97 : decode cX12_explain 97 = .ok (.goto 6, 3) := by decide +kernel
theorem dX12_explain_100 : decode cX12_explain 100 = .ok (.sipush 1000, 3) := by decide +kernel
theorem dX12_explain_103 : decode cX12_explain 103 = .ok (.iastore, 1) := by decide +kernel
theorem dX12_explain_104 : decode cX12_explain 104 = .ok (.iconst 0, 1) := by decide +kernel
theorem dX12_explain_105 : decode cX12_explain 105 = .ok (.istore_n 3, 1) := by decide +kernel
theorem dX12_explain_106 : decode cX12_explain 106 = .ok (.iload_n 3, 1) := by decide +kernel
theorem dX12_explain_107 : decode cX12_explain 107 = .ok (.bipush 6, 2) := by decide +kernel
theorem dX12_explain_109 : decode cX12_explain 109 = .ok (.if_icmp .ge 81, 3) := by decide +kernel
theorem dX12_explain_112 : decode cX12_explain 112 = .ok (.iconst 1, 1) := by decide +kernel
theorem dX12_explain_113 : decode cX12_explain 113 = .ok (.istore 4, 2) := by decide +kernel
theorem dX12_explain_115 : decode cX12_explain 115 = .ok (.iload 4, 2) := by decide +kernel
theorem dX12_explain_117 : decode cX12_explain 117 = .ok (.iconst 5, 1) := by decide +kernel
theorem dX12_explain_118 : decode cX12_explain 118 = .ok (.if_icmp .gt 66, 3) := by decide +kernel
theorem dX12_explain_121 : decode cX12_explain 121 = .ok (.aload_n 0, 1) := by decide +kernel
theorem dX12_explain_122 : decode cX12_explain 122 = .ok (.iload_n 3, 1) := by decide +kernel
theorem dX12_explain_123 : decode cX12_explain 123 = .ok (.iload_n 2, 1) := by decide +kernel
theorem dX12_explain_124 : decode cX12_explain 124 = .ok (.iload 4, 2) := by decide +kernel
theorem dX12_explain_126 : decode cX12_explain 126 = .ok (.iload_n 1, 1) := by decide +kernel
theorem dX12_explain_127 : decode cX12_explain 127 = .ok (.invokevirtual 380, 3) := by decide +kernel
theorem dX12_explain_130 : decode cX12_explain 130 = .ok (.ifCond .eq 48, 3) := by decide +kernel
theorem dX12_explain_133 : decode cX12_explain 133 = .ok (.aload_n 0, 1) := by decide +kernel
theorem dX12_explain_134 : decode cX12_explain 134 = .ok (.getfield 128, 3) := by decide +kernel
theorem dX12_explain_137 : decode cX12_explain 137 = .ok (.iload_n 2, 1) := by decide +kernel
theorem dX12_explain_138 : decode cX12_explain 138 = .ok (.aload_n 0, 1) := by decide +kernel
theorem dX12_explain_139 : decode cX12_explain 139 = .ok (.getfield 122, 3) := by decide +kernel
theorem dX12_explain_142 : decode cX12_explain 142 = .ok (.iload_n 3, 1) := by decide +kernel
theorem dX12_explain_143 : decode cX12_explain 143 = .ok (.iaload, 1) := by decide +kernel
theorem dX12_explain_144 : decode cX12_explain 144 = .ok (.iadd, 1) := by decide +kernel
theorem dX12_explain_145 : decode cX12_explain 145 = .ok (.iaload, 1) := by decide +kernel
theorem dX12_explain_146 : decode cX12_explain 146 = .ok (.iconst 1, 1) := by decide +kernel
theorem dX12_explain_147 : decode cX12_explain 147 = .ok (.iadd, 1) := by decide +kernel
theorem dX12_explain_148 : decode cX12_explain 148 = .ok (.aload_n 0, 1) := by decide +kernel
theorem dX12_explain_149 : decode cX12_explain 149 = .ok (.getfield 128, 3) := by decide +kernel
theorem dX12_explain_152 : decode cX12_explain 152 = .ok (.iload_n 2, 1) := by decide +kernel
theorem dX12_explain_153 : decode cX12_explain 153 = .ok (.iaload, 1) := by decide +kernel
theorem dX12_explain_154 : decode cX12_explain 154 = .ok (.if_icmp .ge 24, 3) := by decide +kernel
theorem dX12_explain_157 : decode cX12_explain 157 = .ok (.aload_n 0, 1) := by decide +kernel
theorem dX12_explain_158 : decode cX12_explain 158 = .ok (.getfield 128, 3) := by decide +kernel
theorem dX12_explain_161 : decode cX12_explain 161 = .ok (.iload_n 2, 1) := by decide +kernel
theorem dX12_explain_162 : decode cX12_explain 162 = .ok (.aload_n 0, 1) := by decide +kernel
theorem dX12_explain_163 : decode cX12_explain 163 = .ok (.getfield 128, 3) := by decide +kernel
theorem dX12_explain_166 : decode cX12_explain 166 = .ok (.iload_n 2, 1) := by decide +kernel
theorem dX12_explain_167 : decode cX12_explain 167 = .ok (.aload_n 0, 1) := by decide +kernel
theorem dX12_explain_168 : decode cX12_explain 168 = .ok (.getfield 122, 3) := by decide +kernel
theorem dX12_explain_171 : decode cX12_explain 171 = .ok (.iload_n 3, 1) := by decide +kernel
theorem dX12_explain_172 : decode cX12_explain 172 = .ok (.iaload, 1) := by decide +kernel
theorem dX12_explain_173 : decode cX12_explain 173 = .ok (.iadd, 1) := by decide +kernel
theorem dX12_explain_174 : decode cX12_explain 174 = .ok (.iaload, 1) := by decide +kernel
theorem dX12_explain_175 : decode cX12_explain 175 = .ok (.iconst 1, 1) := by decide +kernel
theorem dX12_explain_176 : decode cX12_explain 176 = .ok (.iadd, 1) := by decide +kernel
theorem dX12_explain_177 : decode cX12_explain 177 = .ok (.iastore, 1) := by decide +kernel
theorem dX12_explain_178 : decode cX12_explain 178 = .ok (.iinc 4 1, 3) := by decide +kernel
theorem dX12_explain_181 : decode cX12_explain 181 = .ok (.goto (-66), 3) := by decide +kernel
theorem dX12_explain_184 : decode cX12_explain 184 = .ok (.iinc 3 1, 3) := by decide +kernel
theorem dX12_explain_187 : decode cX12_explain 187 = .ok (.goto (-81), 3) := by decide +kernel
theorem dX12_explain_190 : decode cX12_explain 190 = .ok (.iinc 2 (-1), 3) := by decide +kernel
theorem dX12_explain_193 : decode cX12_explain 193 = .ok (.goto (-131), 3) := by decide +kernel
theorem dX12_explain_196 : decode cX12_explain 196 = .ok (.aload_n 0, 1) := by decide +kernel
theorem dX12_explain_197 : decode cX12_explain 197 = .ok (.getfield 128, 3) := by decide +kernel
theorem dX12_explain_200 : decode cX12_explain 200 = .ok (.iconst 0, 1) := by decide +kernel
theorem dX12_explain_201 : decode cX12_explain 201 = .ok (.iaload, 1) := by decide +kernel
theorem dX12_explain_202 : decode cX12_explain 202 = .ok (.sipush 1000, 3) := by decide +kernel
theorem dX12_explain_205 : decode cX12_explain 205 = .ok (.if_icmp .lt 6, 3) := by decide +kernel
theorem dX12_explain_208 : decode cX12_explain 208 = .ok (.bipush (-2), 2) := by decide +kernel
theorem dX12_explain_210 : decode cX12_explain 210 = .ok (.ireturn, 1) := by decide +kernel
theorem dX12_explain_211 : decode cX12_explain 211 = .ok (.aload_n 0, 1) := by decide +kernel
theorem dX12_explain_212 : decode cX12_explain 212 = .ok (.iconst 0, 1) := by decide +kernel
theorem dX12_explain_213 : decode cX12_explain 213 = .ok (.putfield 383, 3) := by decide +kernel
theorem dX12_explain_216 : decode cX12_explain 216 = .ok (.iconst 0, 1) := by decide +kernel
theorem dX12_explain_217 : decode cX12_explain 217 = .ok (.istore_n 2, 1) := by decide +kernel
theorem dX12_explain_218 : decode cX12_explain 218 = .ok (.iload_n 2, 1) := by decide +kernel
theorem dX12_explain_219 : decode cX12_explain 219 = .ok (.iload_n 1, 1) := by decide +kernel
theorem dX12_explain_220 : decode cX12_explain 220 = .ok (.if_icmp .ge 54, 3) := by decide +kernel
theorem dX12_explain_223 : decode cX12_explain 223 = .ok (.aload_n 0, 1) := by decide +kernel
theorem dX12_explain_224 : decode cX12_explain 224 = .ok (.getfield 125, 3) := by decide +kernel
theorem dX12_explain_227 : decode cX12_explain 227 = .ok (.iload_n 2, 1) := by decide +kernel
theorem dX12_explain_228 : decode cX12_explain 228 = .ok (.iaload, 1) := by decide +kernel
theorem dX12_explain_229 : decode cX12_explain 229 = .ok (.invokestatic 334, 3) := by decide +kernel
theorem dX12_explain_232 : decode cX12_explain 232 = .ok (.aload_n 0, 1) := by decide +kernel
theorem dX12_explain_233 : decode cX12_explain 233 = .ok (.getfield 63, 3) := by decide +kernel
theorem dX12_explain_236 : decode cX12_explain 236 = .ok (.iconst 0, 1) := by decide +kernel
theorem dX12_explain_237 : decode cX12_explain 237 = .ok (.iaload, 1) := by decide +kernel
theorem dX12_explain_238 : decode cX12_explain 238 = .ok (.if_icmp .gt 26, 3) := by decide +kernel
theorem dX12_explain_241 : decode cX12_explain 241 = .ok (.aload_n 0, 1) := by decide +kernel
theorem dX12_explain_242 : decode cX12_explain 242 = .ok (.getfield 128, 3) := by decide +kernel
theorem dX12_explain_245 : decode cX12_explain 245 = .ok (.iload_n 2, 1) := by decide +kernel
theorem dX12_explain_246 : decode cX12_explain 246 = .ok (.iaload, 1) := by decide +kernel
theorem dX12_explain_247 : decode cX12_explain 247 = .ok (.aload_n 0, 1) := by decide +kernel
theorem dX12_explain_248 : decode cX12_explain 248 = .ok (.getfield 128, 3) := by decide +kernel
theorem dX12_explain_251 : decode cX12_explain 251 = .ok (.iload_n 2, 1) := by decide +kernel
theorem dX12_explain_252 : decode cX12_explain 252 = .ok (.iconst 1, 1) := by decide +kernel
theorem dX12_explain_253 : decode cX12_explain 253 = .ok (.iadd, 1) := by decide +kernel
theorem dX12_explain_254 : decode cX12_explain 254 = .ok (.iaload, 1) := by decide +kernel
theorem dX12_explain_255 : decode cX12_explain 255 = .ok (.if_icmp .ne 9, 3) := by decide +kernel
theorem dX12_explain_258 : decode cX12_explain 258 = .ok (.iinc 2 1, 3) := by decide +kernel
theorem dX12_explain_261 : decode cX12_explain 261 = .ok (.goto (-43), 3) := by decide +kernel
theorem dX12_explain_264 : decode cX12_explain 264 = .ok (.aload_n 0, 1) := by decide +kernel
theorem dX12_explain_265 : decode cX12_explain 265 = .ok (.iload_n 2, 1) := by decide +kernel
theorem dX12_explain_266 : decode cX12_explain 266 = .ok (.iload_n 1, 1) := by decide +kernel
theorem dX12_explain_267 : decode cX12_explain 267 = .ok (.invokevirtual 386, 3) := by decide +kernel
theorem dX12_explain_270 : decode cX12_explain 270 = .ok (.istore_n 2, 1) := by decide +kernel
theorem dX12_explain_271 : decode cX12_explain 271 = .ok (.goto (-53), 3) := by decide +kernel
theorem dX12_explain_274 : decode cX12_explain 274 = .ok (.aload_n 0, 1) := by decide +kernel
theorem dX12_explain_275 : decode cX12_explain 275 = .ok (.getfield 383, 3) := by decide +kernel
theorem dX12_explain_278 : decode cX12_explain 278 = .ok (.ireturn, 1) := by decide +kernel
def M_explain_178 (K : Int32 → th_St → Prop) (k62 : Int32 → Int32 → th_St → Prop) (k106 : Int32 → Int32 → Int32 → th_St → Prop) (k115 : Int32 → Int32 → Int32 → Int32 → th_St → Prop) (x1 : Int32) (x2 : Int32) (x3 : Int32) (x4 : Int32) (u : th_St) : Prop :=
  ∀ x4_1 : Int32, x4_1 = x4 + (1 : Int32) → k115 x1 x2 x3 x4_1 u
set_option maxHeartbeats 4000000 in
set_option maxRecDepth 100000 in
theorem M_explain_178_w {K : Int32 → th_St → Prop} {k62 : Int32 → Int32 → th_St → Prop} {k106 : Int32 → Int32 → Int32 → th_St → Prop} {k115 : Int32 → Int32 → Int32 → Int32 → th_St → Prop} (C : th_Cx p s m args meth c cX12_explain RX12 5 (some .int) (dC, dI) (th_ty cs) th_E0 A) (hk62 : ∀ (x1 : Int32) (x2 : Int32) (u : th_St) (H : Heap) (locs : List Loc) (ls : Array Slot), k62 x1 x2 u → th_wI (dC, dI) (wM cs q) A s.heap u H locs → lv_has ls 5 [(0, .ref (q 0)), (1, .int x1), (2, .int x2)] → W p l e (th_rm 3 0 0) s m args below meth c H locs 0 0 (MQ below (va_Qi K (th_Post (dC, dI) (wM cs q) A) A) args s 0 0 A) (F0 m 62 ls [])) (hk106 : ∀ (x1 : Int32) (x2 : Int32) (x3 : Int32) (u : th_St) (H : Heap) (locs : List Loc) (ls : Array Slot), k106 x1 x2 x3 u → th_wI (dC, dI) (wM cs q) A s.heap u H locs → lv_has ls 5 [(0, .ref (q 0)), (1, .int x1), (2, .int x2), (3, .int x3)] → W p l e (th_rm 3 0 0) s m args below meth c H locs 0 0 (MQ below (va_Qi K (th_Post (dC, dI) (wM cs q) A) A) args s 0 0 A) (F0 m 106 ls [])) (hk115 : ∀ (x1 : Int32) (x2 : Int32) (x3 : Int32) (x4 : Int32) (u : th_St) (H : Heap) (locs : List Loc) (ls : Array Slot), k115 x1 x2 x3 x4 u → th_wI (dC, dI) (wM cs q) A s.heap u H locs → lv_has ls 5 [(0, .ref (q 0)), (1, .int x1), (2, .int x2), (3, .int x3), (4, .int x4)] → W p l e (th_rm 3 0 0) s m args below meth c H locs 0 0 (MQ below (va_Qi K (th_Post (dC, dI) (wM cs q) A) A) args s 0 0 A) (F0 m 115 ls [])) (x1 : Int32) (x2 : Int32) (x3 : Int32) (x4 : Int32) (u : th_St) (H : Heap) (locs : List Loc) (ls : Array Slot) (hf : M_explain_178 K k62 k106 k115 x1 x2 x3 x4 u) (hw : th_wI (dC, dI) (wM cs q) A s.heap u H locs) (hl : lv_has ls 5 [(0, .ref (q 0)), (1, .int x1), (2, .int x2), (3, .int x3), (4, .int x4)]) : W p l e (th_rm 3 0 0) s m args below meth c H locs 0 0 (MQ below (va_Qi K (th_Post (dC, dI) (wM cs q) A) A) args s 0 0 A) (F0 m 178 ls []) := by
  have hx := C.1
  have hb := C.2.1
  unfold M_explain_178 at hf
  obtain ⟨x4_1, e9⟩ : ∃ y : Int32, y = x4 + (1 : Int32) := ⟨_, rfl⟩
  replace hf := hf x4_1 e9
  refine lv_iinc (v := x4_1) (lv' := [(4, .int x4_1), (0, .ref (q 0)), (1, .int x1), (2, .int x2), (3, .int x3)]) hx hb dX12_explain_178 hl (k := 4) rfl (by rw [e9]; rfl) (by decide) rfl (fun ls hl => ?_)
  clear e9
  refine lv_goto (tgt := 115) hx hb dX12_explain_181 (by decide) ?_
  exact hk115 x1 x2 x3 x4_1 u _ _ _ hf hw (lv_sub hl [1, 2, 3, 4, 0] rfl)
def M_explain_115 (K : Int32 → th_St → Prop) (k62 : Int32 → Int32 → th_St → Prop) (k106 : Int32 → Int32 → Int32 → th_St → Prop) (k115 : Int32 → Int32 → Int32 → Int32 → th_St → Prop) (x1 : Int32) (x2 : Int32) (x3 : Int32) (x4 : Int32) (u : th_St) : Prop :=
  (((5 : Int32) < x4 → ∀ x3_1 : Int32, x3_1 = x3 + (1 : Int32) → k106 x1 x2 x3_1 u) ∧ (¬ (5 : Int32) < x4 → M_lies x3 x2 x4 x1 u (fun r_3 u_2 => ((r_3 = 0 → M_explain_178 K k62 k106 k115 x1 x2 x3 x4 u_2) ∧ (¬ r_3 = 0 → (vp_in x3 6 ∧ ∀ y_4 : Int32, y_4 = u_2.2.2.1 50 (x3).toNatClampNeg → (vp_in (x2 + y_4) 49 ∧ ∀ y_5 : Int32, y_5 = u_2.2.2.1 52 ((x2 + y_4)).toNatClampNeg → (vp_in x2 49 ∧ ∀ y_6 : Int32, y_6 = u_2.2.2.1 52 (x2).toNatClampNeg → ((y_6 ≤ (y_5 + (1 : Int32)) → M_explain_178 K k62 k106 k115 x1 x2 x3 x4 u_2) ∧ (¬ y_6 ≤ (y_5 + (1 : Int32)) → (vp_in x3 6 ∧ ∀ y_7 : Int32, y_7 = u_2.2.2.1 50 (x3).toNatClampNeg → (vp_in (x2 + y_7) 49 ∧ ∀ y_8 : Int32, y_8 = u_2.2.2.1 52 ((x2 + y_7)).toNatClampNeg → (vp_in x2 49 ∧ ∀ u_9 : th_St, u_9 = th_sa u_2 52 (upd (u_2.2.2.1 52) (x2).toNatClampNeg (y_8 + (1 : Int32))) → M_explain_178 K k62 k106 k115 x1 x2 x3 x4 u_9)))))))))))))
set_option maxHeartbeats 4000000 in
set_option maxRecDepth 100000 in
theorem M_explain_115_w {K : Int32 → th_St → Prop} {k62 : Int32 → Int32 → th_St → Prop} {k106 : Int32 → Int32 → Int32 → th_St → Prop} {k115 : Int32 → Int32 → Int32 → Int32 → th_St → Prop} (C : th_Cx p s m args meth c cX12_explain RX12 5 (some .int) (dC, dI) (th_ty cs) th_E0 A) (hk62 : ∀ (x1 : Int32) (x2 : Int32) (u : th_St) (H : Heap) (locs : List Loc) (ls : Array Slot), k62 x1 x2 u → th_wI (dC, dI) (wM cs q) A s.heap u H locs → lv_has ls 5 [(0, .ref (q 0)), (1, .int x1), (2, .int x2)] → W p l e (th_rm 3 0 0) s m args below meth c H locs 0 0 (MQ below (va_Qi K (th_Post (dC, dI) (wM cs q) A) A) args s 0 0 A) (F0 m 62 ls [])) (hk106 : ∀ (x1 : Int32) (x2 : Int32) (x3 : Int32) (u : th_St) (H : Heap) (locs : List Loc) (ls : Array Slot), k106 x1 x2 x3 u → th_wI (dC, dI) (wM cs q) A s.heap u H locs → lv_has ls 5 [(0, .ref (q 0)), (1, .int x1), (2, .int x2), (3, .int x3)] → W p l e (th_rm 3 0 0) s m args below meth c H locs 0 0 (MQ below (va_Qi K (th_Post (dC, dI) (wM cs q) A) A) args s 0 0 A) (F0 m 106 ls [])) (hk115 : ∀ (x1 : Int32) (x2 : Int32) (x3 : Int32) (x4 : Int32) (u : th_St) (H : Heap) (locs : List Loc) (ls : Array Slot), k115 x1 x2 x3 x4 u → th_wI (dC, dI) (wM cs q) A s.heap u H locs → lv_has ls 5 [(0, .ref (q 0)), (1, .int x1), (2, .int x2), (3, .int x3), (4, .int x4)] → W p l e (th_rm 3 0 0) s m args below meth c H locs 0 0 (MQ below (va_Qi K (th_Post (dC, dI) (wM cs q) A) A) args s 0 0 A) (F0 m 115 ls [])) (x1 : Int32) (x2 : Int32) (x3 : Int32) (x4 : Int32) (u : th_St) (H : Heap) (locs : List Loc) (ls : Array Slot) (hf : M_explain_115 K k62 k106 k115 x1 x2 x3 x4 u) (hw : th_wI (dC, dI) (wM cs q) A s.heap u H locs) (hl : lv_has ls 5 [(0, .ref (q 0)), (1, .int x1), (2, .int x2), (3, .int x3), (4, .int x4)]) : W p l e (th_rm 3 0 0) s m args below meth c H locs 0 0 (MQ below (va_Qi K (th_Post (dC, dI) (wM cs q) A) A) args s 0 0 A) (F0 m 115 ls []) := by
  have hx := C.1
  have hb := C.2.1
  unfold M_explain_115 at hf
  refine lv_iload hx hb dX12_explain_115 (lv_at hl 4 rfl) ?_
  refine lv_iconst (v := (5 : Int32)) hx hb dX12_explain_117 (by decide) ?_
  refine lv_icmp_gt (tgt := 184) hx hb dX12_explain_118 (by decide) (fun hc => ?_) (fun hc => ?_)
  · replace hf := hf.1 hc
    clear hc
    obtain ⟨x3_1, e9⟩ : ∃ y : Int32, y = x3 + (1 : Int32) := ⟨_, rfl⟩
    replace hf := hf x3_1 e9
    refine lv_iinc (v := x3_1) (lv' := [(3, .int x3_1), (0, .ref (q 0)), (1, .int x1), (2, .int x2), (4, .int x4)]) hx hb dX12_explain_184 hl (k := 3) rfl (by rw [e9]; rfl) (by decide) rfl (fun ls hl => ?_)
    clear e9
    refine lv_goto (tgt := 106) hx hb dX12_explain_187 (by decide) ?_
    exact hk106 x1 x2 x3_1 u _ _ _ hf hw (lv_sub hl [1, 2, 3, 0] rfl)
  · replace hf := hf.2 hc
    clear hc
    refine lv_aload_n hx hb dX12_explain_121 rfl (lv_at hl 0 rfl) ?_
    refine lv_iload_n hx hb dX12_explain_122 rfl (lv_at hl 3 rfl) ?_
    refine lv_iload_n hx hb dX12_explain_123 rfl (lv_at hl 2 rfl) ?_
    refine lv_iload hx hb dX12_explain_124 (lv_at hl 4 rfl) ?_
    refine lv_iload_n hx hb dX12_explain_126 rfl (lv_at hl 1 rfl) ?_
    refine th_callVi (As := [.int x3, .int x2, .int x4, .int x1]) (rest := []) C lkX12_380 (M_lies_c hf) hw (mRc C hw) rfl rfl ⟨Nat.le_of_ble_eq_true rfl, Nat.le_of_ble_eq_true rfl⟩ hl.1 (Nat.le_of_ble_eq_true rfl) ⟨Nat.le_refl _, Nat.le_refl _⟩ dX12_explain_127 (fun r_3 u_2 H locs hf hw => ?_)
    refine lv_if_eq (tgt := 178) hx hb dX12_explain_130 (by decide) (fun hc => ?_) (fun hc => ?_)
    · replace hf := hf.1 hc
      clear hc
      exact M_explain_178_w C hk62 hk106 hk115 x1 x2 x3 x4 u_2 _ _ _ hf hw (lv_sub hl [0, 1, 2, 3, 4] rfl)
    · replace hf := hf.2 hc
      clear hc
      refine lv_aload_n hx hb dX12_explain_133 rfl (lv_at hl 0 rfl) ?_
      refine mg_52 C hw dX12_explain_134 ?_
      refine lv_iload_n hx hb dX12_explain_137 rfl (lv_at hl 2 rfl) ?_
      refine lv_aload_n hx hb dX12_explain_138 rfl (lv_at hl 0 rfl) ?_
      refine mg_50 C hw dX12_explain_139 ?_
      refine lv_iload_n hx hb dX12_explain_142 rfl (lv_at hl 3 rfl) ?_
      refine ml_50 C hw hf.1 dX12_explain_143 (fun y_4 e9 => ?_)
      replace hf := hf.2 y_4 e9
      clear e9
      refine lv_iadd hx hb dX12_explain_144 ?_
      refine ml_52 C hw hf.1 dX12_explain_145 (fun y_5 e9 => ?_)
      replace hf := hf.2 y_5 e9
      clear e9
      refine lv_iconst (v := (1 : Int32)) hx hb dX12_explain_146 (by decide) ?_
      refine lv_iadd hx hb dX12_explain_147 ?_
      refine lv_aload_n hx hb dX12_explain_148 rfl (lv_at hl 0 rfl) ?_
      refine mg_52 C hw dX12_explain_149 ?_
      refine lv_iload_n hx hb dX12_explain_152 rfl (lv_at hl 2 rfl) ?_
      refine ml_52 C hw hf.1 dX12_explain_153 (fun y_6 e9 => ?_)
      replace hf := hf.2 y_6 e9
      clear e9
      refine lv_icmp_ge (tgt := 178) hx hb dX12_explain_154 (by decide) (fun hc => ?_) (fun hc => ?_)
      · replace hf := hf.1 hc
        clear hc
        exact M_explain_178_w C hk62 hk106 hk115 x1 x2 x3 x4 u_2 _ _ _ hf hw (lv_sub hl [0, 1, 2, 3, 4] rfl)
      · replace hf := hf.2 hc
        clear hc
        refine lv_aload_n hx hb dX12_explain_157 rfl (lv_at hl 0 rfl) ?_
        refine mg_52 C hw dX12_explain_158 ?_
        refine lv_iload_n hx hb dX12_explain_161 rfl (lv_at hl 2 rfl) ?_
        refine lv_aload_n hx hb dX12_explain_162 rfl (lv_at hl 0 rfl) ?_
        refine mg_52 C hw dX12_explain_163 ?_
        refine lv_iload_n hx hb dX12_explain_166 rfl (lv_at hl 2 rfl) ?_
        refine lv_aload_n hx hb dX12_explain_167 rfl (lv_at hl 0 rfl) ?_
        refine mg_50 C hw dX12_explain_168 ?_
        refine lv_iload_n hx hb dX12_explain_171 rfl (lv_at hl 3 rfl) ?_
        refine ml_50 C hw hf.1 dX12_explain_172 (fun y_7 e9 => ?_)
        replace hf := hf.2 y_7 e9
        clear e9
        refine lv_iadd hx hb dX12_explain_173 ?_
        refine ml_52 C hw hf.1 dX12_explain_174 (fun y_8 e9 => ?_)
        replace hf := hf.2 y_8 e9
        clear e9
        refine lv_iconst (v := (1 : Int32)) hx hb dX12_explain_175 (by decide) ?_
        refine lv_iadd hx hb dX12_explain_176 ?_
        refine ms_52 C hw hf.1 dX12_explain_177 (fun u_9 e9 H locs hw => ?_)
        replace hf := hf.2 u_9 e9
        clear e9
        exact M_explain_178_w C hk62 hk106 hk115 x1 x2 x3 x4 u_9 _ _ _ hf hw (lv_sub hl [0, 1, 2, 3, 4] rfl)
def M_explain_115_lp (K : Int32 → th_St → Prop) (k62 : Int32 → Int32 → th_St → Prop) (k106 : Int32 → Int32 → Int32 → th_St → Prop) : Nat → Int32 → Int32 → Int32 → Int32 → th_St → Prop
  | 0, _, _, _, _, _ => False
  | n + 1, x1, x2, x3, x4, u => M_explain_115 K k62 k106 (M_explain_115_lp K k62 k106 n) x1 x2 x3 x4 u
set_option maxHeartbeats 4000000 in
set_option maxRecDepth 100000 in
theorem M_explain_115_lw {K : Int32 → th_St → Prop} {k62 : Int32 → Int32 → th_St → Prop} {k106 : Int32 → Int32 → Int32 → th_St → Prop} (C : th_Cx p s m args meth c cX12_explain RX12 5 (some .int) (dC, dI) (th_ty cs) th_E0 A) (hk62 : ∀ (x1 : Int32) (x2 : Int32) (u : th_St) (H : Heap) (locs : List Loc) (ls : Array Slot), k62 x1 x2 u → th_wI (dC, dI) (wM cs q) A s.heap u H locs → lv_has ls 5 [(0, .ref (q 0)), (1, .int x1), (2, .int x2)] → W p l e (th_rm 3 0 0) s m args below meth c H locs 0 0 (MQ below (va_Qi K (th_Post (dC, dI) (wM cs q) A) A) args s 0 0 A) (F0 m 62 ls [])) (hk106 : ∀ (x1 : Int32) (x2 : Int32) (x3 : Int32) (u : th_St) (H : Heap) (locs : List Loc) (ls : Array Slot), k106 x1 x2 x3 u → th_wI (dC, dI) (wM cs q) A s.heap u H locs → lv_has ls 5 [(0, .ref (q 0)), (1, .int x1), (2, .int x2), (3, .int x3)] → W p l e (th_rm 3 0 0) s m args below meth c H locs 0 0 (MQ below (va_Qi K (th_Post (dC, dI) (wM cs q) A) A) args s 0 0 A) (F0 m 106 ls [])) (n : Nat) : ∀ (x1 : Int32) (x2 : Int32) (x3 : Int32) (x4 : Int32) (u : th_St) (H : Heap) (locs : List Loc) (ls : Array Slot), M_explain_115_lp K k62 k106 n x1 x2 x3 x4 u → th_wI (dC, dI) (wM cs q) A s.heap u H locs → lv_has ls 5 [(0, .ref (q 0)), (1, .int x1), (2, .int x2), (3, .int x3), (4, .int x4)] → W p l e (th_rm 3 0 0) s m args below meth c H locs 0 0 (MQ below (va_Qi K (th_Post (dC, dI) (wM cs q) A) A) args s 0 0 A) (F0 m 115 ls []) := by
  induction n with
  | zero => intro x1 x2 x3 x4 u H locs ls hf; exact hf.elim
  | succ n ih =>
    intro x1 x2 x3 x4 u H locs ls hf hw hl
    exact M_explain_115_w C hk62 hk106 ih x1 x2 x3 x4 u H locs ls hf hw hl
def M_explain_106 (K : Int32 → th_St → Prop) (k62 : Int32 → Int32 → th_St → Prop) (k106 : Int32 → Int32 → Int32 → th_St → Prop) (x1 : Int32) (x2 : Int32) (x3 : Int32) (u : th_St) : Prop :=
  (((6 : Int32) ≤ x3 → ∀ x2_1 : Int32, x2_1 = x2 + (-1 : Int32) → k62 x1 x2_1 u) ∧ (¬ (6 : Int32) ≤ x3 → ∃ n, M_explain_115_lp K k62 k106 n x1 x2 x3 (1 : Int32) u))
set_option maxHeartbeats 4000000 in
set_option maxRecDepth 100000 in
theorem M_explain_106_w {K : Int32 → th_St → Prop} {k62 : Int32 → Int32 → th_St → Prop} {k106 : Int32 → Int32 → Int32 → th_St → Prop} (C : th_Cx p s m args meth c cX12_explain RX12 5 (some .int) (dC, dI) (th_ty cs) th_E0 A) (hk62 : ∀ (x1 : Int32) (x2 : Int32) (u : th_St) (H : Heap) (locs : List Loc) (ls : Array Slot), k62 x1 x2 u → th_wI (dC, dI) (wM cs q) A s.heap u H locs → lv_has ls 5 [(0, .ref (q 0)), (1, .int x1), (2, .int x2)] → W p l e (th_rm 3 0 0) s m args below meth c H locs 0 0 (MQ below (va_Qi K (th_Post (dC, dI) (wM cs q) A) A) args s 0 0 A) (F0 m 62 ls [])) (hk106 : ∀ (x1 : Int32) (x2 : Int32) (x3 : Int32) (u : th_St) (H : Heap) (locs : List Loc) (ls : Array Slot), k106 x1 x2 x3 u → th_wI (dC, dI) (wM cs q) A s.heap u H locs → lv_has ls 5 [(0, .ref (q 0)), (1, .int x1), (2, .int x2), (3, .int x3)] → W p l e (th_rm 3 0 0) s m args below meth c H locs 0 0 (MQ below (va_Qi K (th_Post (dC, dI) (wM cs q) A) A) args s 0 0 A) (F0 m 106 ls [])) (x1 : Int32) (x2 : Int32) (x3 : Int32) (u : th_St) (H : Heap) (locs : List Loc) (ls : Array Slot) (hf : M_explain_106 K k62 k106 x1 x2 x3 u) (hw : th_wI (dC, dI) (wM cs q) A s.heap u H locs) (hl : lv_has ls 5 [(0, .ref (q 0)), (1, .int x1), (2, .int x2), (3, .int x3)]) : W p l e (th_rm 3 0 0) s m args below meth c H locs 0 0 (MQ below (va_Qi K (th_Post (dC, dI) (wM cs q) A) A) args s 0 0 A) (F0 m 106 ls []) := by
  have hx := C.1
  have hb := C.2.1
  unfold M_explain_106 at hf
  refine lv_iload_n hx hb dX12_explain_106 rfl (lv_at hl 3 rfl) ?_
  refine lv_bipush (v := (6 : Int32)) hx hb dX12_explain_107 (by decide) ?_
  refine lv_icmp_ge (tgt := 190) hx hb dX12_explain_109 (by decide) (fun hc => ?_) (fun hc => ?_)
  · replace hf := hf.1 hc
    clear hc
    obtain ⟨x2_1, e9⟩ : ∃ y : Int32, y = x2 + (-1 : Int32) := ⟨_, rfl⟩
    replace hf := hf x2_1 e9
    refine lv_iinc (v := x2_1) (lv' := [(2, .int x2_1), (0, .ref (q 0)), (1, .int x1), (3, .int x3)]) hx hb dX12_explain_190 hl (k := 2) rfl (by rw [e9]; rfl) (by decide) rfl (fun ls hl => ?_)
    clear e9
    refine lv_goto (tgt := 62) hx hb dX12_explain_193 (by decide) ?_
    exact hk62 x1 x2_1 u _ _ _ hf hw (lv_sub hl [1, 2, 0] rfl)
  · replace hf := hf.2 hc
    clear hc
    refine lv_iconst (v := (1 : Int32)) hx hb dX12_explain_112 (by decide) ?_
    refine lv_istore (lv' := [(4, .int (1 : Int32)), (0, .ref (q 0)), (1, .int x1), (2, .int x2), (3, .int x3)]) hx hb dX12_explain_113 hl (by decide) rfl (fun ls hl => ?_)
    obtain ⟨n, hf⟩ := hf
    exact M_explain_115_lw C hk62 hk106 n x1 x2 x3 (1 : Int32) u _ _ _ hf hw (lv_sub hl [1, 2, 3, 4, 0] rfl)
def M_explain_106_lp (K : Int32 → th_St → Prop) (k62 : Int32 → Int32 → th_St → Prop) : Nat → Int32 → Int32 → Int32 → th_St → Prop
  | 0, _, _, _, _ => False
  | n + 1, x1, x2, x3, u => M_explain_106 K k62 (M_explain_106_lp K k62 n) x1 x2 x3 u
set_option maxHeartbeats 4000000 in
set_option maxRecDepth 100000 in
theorem M_explain_106_lw {K : Int32 → th_St → Prop} {k62 : Int32 → Int32 → th_St → Prop} (C : th_Cx p s m args meth c cX12_explain RX12 5 (some .int) (dC, dI) (th_ty cs) th_E0 A) (hk62 : ∀ (x1 : Int32) (x2 : Int32) (u : th_St) (H : Heap) (locs : List Loc) (ls : Array Slot), k62 x1 x2 u → th_wI (dC, dI) (wM cs q) A s.heap u H locs → lv_has ls 5 [(0, .ref (q 0)), (1, .int x1), (2, .int x2)] → W p l e (th_rm 3 0 0) s m args below meth c H locs 0 0 (MQ below (va_Qi K (th_Post (dC, dI) (wM cs q) A) A) args s 0 0 A) (F0 m 62 ls [])) (n : Nat) : ∀ (x1 : Int32) (x2 : Int32) (x3 : Int32) (u : th_St) (H : Heap) (locs : List Loc) (ls : Array Slot), M_explain_106_lp K k62 n x1 x2 x3 u → th_wI (dC, dI) (wM cs q) A s.heap u H locs → lv_has ls 5 [(0, .ref (q 0)), (1, .int x1), (2, .int x2), (3, .int x3)] → W p l e (th_rm 3 0 0) s m args below meth c H locs 0 0 (MQ below (va_Qi K (th_Post (dC, dI) (wM cs q) A) A) args s 0 0 A) (F0 m 106 ls []) := by
  induction n with
  | zero => intro x1 x2 x3 u H locs ls hf; exact hf.elim
  | succ n ih =>
    intro x1 x2 x3 u H locs ls hf hw hl
    exact M_explain_106_w C hk62 ih x1 x2 x3 u H locs ls hf hw hl
def M_explain_103 (K : Int32 → th_St → Prop) (k62 : Int32 → Int32 → th_St → Prop) (x1 : Int32) (x2 : Int32) (z0 : Int32) (z1 : Int32) (u : th_St) : Prop :=
  (vp_in z1 49 ∧ ∀ u_1 : th_St, u_1 = th_sa u 52 (upd (u.2.2.1 52) (z1).toNatClampNeg z0) → ∃ n, M_explain_106_lp K k62 n x1 x2 (0 : Int32) u_1)
set_option maxHeartbeats 4000000 in
set_option maxRecDepth 100000 in
theorem M_explain_103_w {K : Int32 → th_St → Prop} {k62 : Int32 → Int32 → th_St → Prop} (C : th_Cx p s m args meth c cX12_explain RX12 5 (some .int) (dC, dI) (th_ty cs) th_E0 A) (hk62 : ∀ (x1 : Int32) (x2 : Int32) (u : th_St) (H : Heap) (locs : List Loc) (ls : Array Slot), k62 x1 x2 u → th_wI (dC, dI) (wM cs q) A s.heap u H locs → lv_has ls 5 [(0, .ref (q 0)), (1, .int x1), (2, .int x2)] → W p l e (th_rm 3 0 0) s m args below meth c H locs 0 0 (MQ below (va_Qi K (th_Post (dC, dI) (wM cs q) A) A) args s 0 0 A) (F0 m 62 ls [])) (x1 : Int32) (x2 : Int32) (z0 : Int32) (z1 : Int32) (u : th_St) (H : Heap) (locs : List Loc) (ls : Array Slot) (hf : M_explain_103 K k62 x1 x2 z0 z1 u) (hw : th_wI (dC, dI) (wM cs q) A s.heap u H locs) (hl : lv_has ls 5 [(0, .ref (q 0)), (1, .int x1), (2, .int x2)]) : W p l e (th_rm 3 0 0) s m args below meth c H locs 0 0 (MQ below (va_Qi K (th_Post (dC, dI) (wM cs q) A) A) args s 0 0 A) (F0 m 103 ls [.int z0, .int z1, .ref (q 52)]) := by
  have hx := C.1
  have hb := C.2.1
  unfold M_explain_103 at hf
  refine ms_52 C hw hf.1 dX12_explain_103 (fun u_1 e9 H locs hw => ?_)
  replace hf := hf.2 u_1 e9
  clear e9
  refine lv_iconst (v := (0 : Int32)) hx hb dX12_explain_104 (by decide) ?_
  refine lv_istore_n (lv' := [(3, .int (0 : Int32)), (0, .ref (q 0)), (1, .int x1), (2, .int x2)]) hx hb dX12_explain_105 rfl hl (by decide) rfl (fun ls hl => ?_)
  obtain ⟨n, hf⟩ := hf
  exact M_explain_106_lw C hk62 n x1 x2 (0 : Int32) u_1 _ _ _ hf hw (lv_sub hl [1, 2, 3, 0] rfl)
def M_explain_264 (K : Int32 → th_St → Prop) (k218 : Int32 → Int32 → th_St → Prop) (x1 : Int32) (x2 : Int32) (u : th_St) : Prop :=
  M_lay x2 x1 u (fun r_2 u_1 => k218 x1 r_2 u_1)
set_option maxHeartbeats 4000000 in
set_option maxRecDepth 100000 in
theorem M_explain_264_w {K : Int32 → th_St → Prop} {k218 : Int32 → Int32 → th_St → Prop} (C : th_Cx p s m args meth c cX12_explain RX12 5 (some .int) (dC, dI) (th_ty cs) th_E0 A) (hk218 : ∀ (x1 : Int32) (x2 : Int32) (u : th_St) (H : Heap) (locs : List Loc) (ls : Array Slot), k218 x1 x2 u → th_wI (dC, dI) (wM cs q) A s.heap u H locs → lv_has ls 5 [(0, .ref (q 0)), (1, .int x1), (2, .int x2)] → W p l e (th_rm 3 0 0) s m args below meth c H locs 0 0 (MQ below (va_Qi K (th_Post (dC, dI) (wM cs q) A) A) args s 0 0 A) (F0 m 218 ls [])) (x1 : Int32) (x2 : Int32) (u : th_St) (H : Heap) (locs : List Loc) (ls : Array Slot) (hf : M_explain_264 K k218 x1 x2 u) (hw : th_wI (dC, dI) (wM cs q) A s.heap u H locs) (hl : lv_has ls 5 [(0, .ref (q 0)), (1, .int x1), (2, .int x2)]) : W p l e (th_rm 3 0 0) s m args below meth c H locs 0 0 (MQ below (va_Qi K (th_Post (dC, dI) (wM cs q) A) A) args s 0 0 A) (F0 m 264 ls []) := by
  have hx := C.1
  have hb := C.2.1
  unfold M_explain_264 at hf
  refine lv_aload_n hx hb dX12_explain_264 rfl (lv_at hl 0 rfl) ?_
  refine lv_iload_n hx hb dX12_explain_265 rfl (lv_at hl 2 rfl) ?_
  refine lv_iload_n hx hb dX12_explain_266 rfl (lv_at hl 1 rfl) ?_
  refine th_callVi (As := [.int x2, .int x1]) (rest := []) C lkX12_386 (M_lay_c hf) hw (mRc C hw) rfl rfl ⟨Nat.le_of_ble_eq_true rfl, Nat.le_of_ble_eq_true rfl⟩ hl.1 (Nat.le_of_ble_eq_true rfl) ⟨Nat.le_refl _, Nat.le_refl _⟩ dX12_explain_267 (fun r_2 u_1 H locs hf hw => ?_)
  refine lv_istore_n (lv' := [(2, .int r_2), (0, .ref (q 0)), (1, .int x1)]) hx hb dX12_explain_270 rfl hl (by decide) rfl (fun ls hl => ?_)
  refine lv_goto (tgt := 218) hx hb dX12_explain_271 (by decide) ?_
  exact hk218 x1 r_2 u_1 _ _ _ hf hw (lv_sub hl [1, 2, 0] rfl)
def M_explain_218 (K : Int32 → th_St → Prop) (k218 : Int32 → Int32 → th_St → Prop) (x1 : Int32) (x2 : Int32) (u : th_St) : Prop :=
  ((x1 ≤ x2 → K (u.1 56) u) ∧ (¬ x1 ≤ x2 → (vp_in x2 48 ∧ ∀ y_1 : Int32, y_1 = u.2.2.1 51 (x2).toNatClampNeg → M_plain y_1 u (fun r_3 u_2 => (vp_in (0 : Int32) 2 ∧ ∀ y_4 : Int32, y_4 = u_2.2.2.1 14 ((0 : Int32)).toNatClampNeg → ((y_4 < r_3 → M_explain_264 K k218 x1 x2 u_2) ∧ (¬ y_4 < r_3 → (vp_in x2 49 ∧ ∀ y_5 : Int32, y_5 = u_2.2.2.1 52 (x2).toNatClampNeg → (vp_in (x2 + (1 : Int32)) 49 ∧ ∀ y_6 : Int32, y_6 = u_2.2.2.1 52 ((x2 + (1 : Int32))).toNatClampNeg → ((¬ y_5 = y_6 → M_explain_264 K k218 x1 x2 u_2) ∧ (y_5 = y_6 → ∀ x2_7 : Int32, x2_7 = x2 + (1 : Int32) → k218 x1 x2_7 u_2)))))))))))
set_option maxHeartbeats 4000000 in
set_option maxRecDepth 100000 in
theorem M_explain_218_w {K : Int32 → th_St → Prop} {k218 : Int32 → Int32 → th_St → Prop} (C : th_Cx p s m args meth c cX12_explain RX12 5 (some .int) (dC, dI) (th_ty cs) th_E0 A) (hk218 : ∀ (x1 : Int32) (x2 : Int32) (u : th_St) (H : Heap) (locs : List Loc) (ls : Array Slot), k218 x1 x2 u → th_wI (dC, dI) (wM cs q) A s.heap u H locs → lv_has ls 5 [(0, .ref (q 0)), (1, .int x1), (2, .int x2)] → W p l e (th_rm 3 0 0) s m args below meth c H locs 0 0 (MQ below (va_Qi K (th_Post (dC, dI) (wM cs q) A) A) args s 0 0 A) (F0 m 218 ls [])) (x1 : Int32) (x2 : Int32) (u : th_St) (H : Heap) (locs : List Loc) (ls : Array Slot) (hf : M_explain_218 K k218 x1 x2 u) (hw : th_wI (dC, dI) (wM cs q) A s.heap u H locs) (hl : lv_has ls 5 [(0, .ref (q 0)), (1, .int x1), (2, .int x2)]) : W p l e (th_rm 3 0 0) s m args below meth c H locs 0 0 (MQ below (va_Qi K (th_Post (dC, dI) (wM cs q) A) A) args s 0 0 A) (F0 m 218 ls []) := by
  have hx := C.1
  have hb := C.2.1
  unfold M_explain_218 at hf
  refine lv_iload_n hx hb dX12_explain_218 rfl (lv_at hl 2 rfl) ?_
  refine lv_iload_n hx hb dX12_explain_219 rfl (lv_at hl 1 rfl) ?_
  refine lv_icmp_ge (tgt := 274) hx hb dX12_explain_220 (by decide) (fun hc => ?_) (fun hc => ?_)
  · replace hf := hf.1 hc
    clear hc
    refine lv_aload_n hx hb dX12_explain_274 rfl (lv_at hl 0 rfl) ?_
    refine mg_56 C hw dX12_explain_275 ?_
    exact th_iret C hw hf dX12_explain_278
  · replace hf := hf.2 hc
    clear hc
    refine lv_aload_n hx hb dX12_explain_223 rfl (lv_at hl 0 rfl) ?_
    refine mg_51 C hw dX12_explain_224 ?_
    refine lv_iload_n hx hb dX12_explain_227 rfl (lv_at hl 2 rfl) ?_
    refine ml_51 C hw hf.1 dX12_explain_228 (fun y_1 e9 => ?_)
    replace hf := hf.2 y_1 e9
    clear e9
    refine th_callSi (As := [.int y_1]) (rest := []) C lkX12_334 (M_plain_c hf) hw rfl rfl ⟨Nat.le_of_ble_eq_true rfl, Nat.le_of_ble_eq_true rfl⟩ hl.1 (Nat.le_of_ble_eq_true rfl) ⟨Nat.le_refl _, Nat.le_refl _⟩ dX12_explain_229 (fun r_3 u_2 H locs hf hw => ?_)
    refine lv_aload_n hx hb dX12_explain_232 rfl (lv_at hl 0 rfl) ?_
    refine mg_14 C hw dX12_explain_233 ?_
    refine lv_iconst (v := (0 : Int32)) hx hb dX12_explain_236 (by decide) ?_
    refine ml_14 C hw hf.1 dX12_explain_237 (fun y_4 e9 => ?_)
    replace hf := hf.2 y_4 e9
    clear e9
    refine lv_icmp_gt (tgt := 264) hx hb dX12_explain_238 (by decide) (fun hc => ?_) (fun hc => ?_)
    · replace hf := hf.1 hc
      clear hc
      exact M_explain_264_w C hk218 x1 x2 u_2 _ _ _ hf hw (lv_sub hl [0, 1, 2] rfl)
    · replace hf := hf.2 hc
      clear hc
      refine lv_aload_n hx hb dX12_explain_241 rfl (lv_at hl 0 rfl) ?_
      refine mg_52 C hw dX12_explain_242 ?_
      refine lv_iload_n hx hb dX12_explain_245 rfl (lv_at hl 2 rfl) ?_
      refine ml_52 C hw hf.1 dX12_explain_246 (fun y_5 e9 => ?_)
      replace hf := hf.2 y_5 e9
      clear e9
      refine lv_aload_n hx hb dX12_explain_247 rfl (lv_at hl 0 rfl) ?_
      refine mg_52 C hw dX12_explain_248 ?_
      refine lv_iload_n hx hb dX12_explain_251 rfl (lv_at hl 2 rfl) ?_
      refine lv_iconst (v := (1 : Int32)) hx hb dX12_explain_252 (by decide) ?_
      refine lv_iadd hx hb dX12_explain_253 ?_
      refine ml_52 C hw hf.1 dX12_explain_254 (fun y_6 e9 => ?_)
      replace hf := hf.2 y_6 e9
      clear e9
      refine lv_icmp_ne (tgt := 264) hx hb dX12_explain_255 (by decide) (fun hc => ?_) (fun hc => ?_)
      · replace hf := hf.1 hc
        clear hc
        exact M_explain_264_w C hk218 x1 x2 u_2 _ _ _ hf hw (lv_sub hl [0, 1, 2] rfl)
      · replace hf := hf.2 hc
        clear hc
        obtain ⟨x2_7, e9⟩ : ∃ y : Int32, y = x2 + (1 : Int32) := ⟨_, rfl⟩
        replace hf := hf x2_7 e9
        refine lv_iinc (v := x2_7) (lv' := [(2, .int x2_7), (0, .ref (q 0)), (1, .int x1)]) hx hb dX12_explain_258 hl (k := 2) rfl (by rw [e9]; rfl) (by decide) rfl (fun ls hl => ?_)
        clear e9
        refine lv_goto (tgt := 218) hx hb dX12_explain_261 (by decide) ?_
        exact hk218 x1 x2_7 u_2 _ _ _ hf hw (lv_sub hl [1, 2, 0] rfl)
def M_explain_218_lp (K : Int32 → th_St → Prop) : Nat → Int32 → Int32 → th_St → Prop
  | 0, _, _, _ => False
  | n + 1, x1, x2, u => M_explain_218 K (M_explain_218_lp K n) x1 x2 u
set_option maxHeartbeats 4000000 in
set_option maxRecDepth 100000 in
theorem M_explain_218_lw {K : Int32 → th_St → Prop} (C : th_Cx p s m args meth c cX12_explain RX12 5 (some .int) (dC, dI) (th_ty cs) th_E0 A) (n : Nat) : ∀ (x1 : Int32) (x2 : Int32) (u : th_St) (H : Heap) (locs : List Loc) (ls : Array Slot), M_explain_218_lp K n x1 x2 u → th_wI (dC, dI) (wM cs q) A s.heap u H locs → lv_has ls 5 [(0, .ref (q 0)), (1, .int x1), (2, .int x2)] → W p l e (th_rm 3 0 0) s m args below meth c H locs 0 0 (MQ below (va_Qi K (th_Post (dC, dI) (wM cs q) A) A) args s 0 0 A) (F0 m 218 ls []) := by
  induction n with
  | zero => intro x1 x2 u H locs ls hf; exact hf.elim
  | succ n ih =>
    intro x1 x2 u H locs ls hf hw hl
    exact M_explain_218_w C ih x1 x2 u H locs ls hf hw hl
def M_explain_62 (K : Int32 → th_St → Prop) (k62 : Int32 → Int32 → th_St → Prop) (x1 : Int32) (x2 : Int32) (u : th_St) : Prop :=
  ((x2 < 0 → (vp_in (0 : Int32) 49 ∧ ∀ y_1 : Int32, y_1 = u.2.2.1 52 ((0 : Int32)).toNatClampNeg → ((y_1 < (1000 : Int32) → ∀ u_2 : th_St, u_2 = th_si u 56 (0 : Int32) → ∃ n, M_explain_218_lp K n x1 (0 : Int32) u_2) ∧ (¬ y_1 < (1000 : Int32) → K (-2 : Int32) u)))) ∧ (¬ x2 < 0 → (vp_in x2 48 ∧ ∀ y_3 : Int32, y_3 = u.2.2.1 51 (x2).toNatClampNeg → M_plain y_3 u (fun r_5 u_4 => (vp_in (0 : Int32) 2 ∧ ∀ y_6 : Int32, y_6 = u_4.2.2.1 14 ((0 : Int32)).toNatClampNeg → ((y_6 < r_5 → M_explain_103 K k62 x1 x2 (1000 : Int32) x2 u_4) ∧ (¬ y_6 < r_5 → (vp_in (x2 + (1 : Int32)) 49 ∧ ∀ y_7 : Int32, y_7 = u_4.2.2.1 52 ((x2 + (1 : Int32))).toNatClampNeg → M_explain_103 K k62 x1 x2 y_7 x2 u_4))))))))
set_option maxHeartbeats 4000000 in
set_option maxRecDepth 100000 in
theorem M_explain_62_w {K : Int32 → th_St → Prop} {k62 : Int32 → Int32 → th_St → Prop} (C : th_Cx p s m args meth c cX12_explain RX12 5 (some .int) (dC, dI) (th_ty cs) th_E0 A) (hk62 : ∀ (x1 : Int32) (x2 : Int32) (u : th_St) (H : Heap) (locs : List Loc) (ls : Array Slot), k62 x1 x2 u → th_wI (dC, dI) (wM cs q) A s.heap u H locs → lv_has ls 5 [(0, .ref (q 0)), (1, .int x1), (2, .int x2)] → W p l e (th_rm 3 0 0) s m args below meth c H locs 0 0 (MQ below (va_Qi K (th_Post (dC, dI) (wM cs q) A) A) args s 0 0 A) (F0 m 62 ls [])) (x1 : Int32) (x2 : Int32) (u : th_St) (H : Heap) (locs : List Loc) (ls : Array Slot) (hf : M_explain_62 K k62 x1 x2 u) (hw : th_wI (dC, dI) (wM cs q) A s.heap u H locs) (hl : lv_has ls 5 [(0, .ref (q 0)), (1, .int x1), (2, .int x2)]) : W p l e (th_rm 3 0 0) s m args below meth c H locs 0 0 (MQ below (va_Qi K (th_Post (dC, dI) (wM cs q) A) A) args s 0 0 A) (F0 m 62 ls []) := by
  have hx := C.1
  have hb := C.2.1
  unfold M_explain_62 at hf
  refine lv_iload_n hx hb dX12_explain_62 rfl (lv_at hl 2 rfl) ?_
  refine lv_if_lt (tgt := 196) hx hb dX12_explain_63 (by decide) (fun hc => ?_) (fun hc => ?_)
  · replace hf := hf.1 hc
    clear hc
    refine lv_aload_n hx hb dX12_explain_196 rfl (lv_at hl 0 rfl) ?_
    refine mg_52 C hw dX12_explain_197 ?_
    refine lv_iconst (v := (0 : Int32)) hx hb dX12_explain_200 (by decide) ?_
    refine ml_52 C hw hf.1 dX12_explain_201 (fun y_1 e9 => ?_)
    replace hf := hf.2 y_1 e9
    clear e9
    refine lv_sipush (v := (1000 : Int32)) hx hb dX12_explain_202 (by decide) ?_
    refine lv_icmp_lt (tgt := 211) hx hb dX12_explain_205 (by decide) (fun hc => ?_) (fun hc => ?_)
    · replace hf := hf.1 hc
      clear hc
      refine lv_aload_n hx hb dX12_explain_211 rfl (lv_at hl 0 rfl) ?_
      refine lv_iconst (v := (0 : Int32)) hx hb dX12_explain_212 (by decide) ?_
      refine mp_56 C hw dX12_explain_213 (fun u_2 e9 H locs hw => ?_)
      replace hf := hf u_2 e9
      clear e9
      refine lv_iconst (v := (0 : Int32)) hx hb dX12_explain_216 (by decide) ?_
      refine lv_istore_n (lv' := [(2, .int (0 : Int32)), (0, .ref (q 0)), (1, .int x1)]) hx hb dX12_explain_217 rfl hl (by decide) rfl (fun ls hl => ?_)
      obtain ⟨n, hf⟩ := hf
      exact M_explain_218_lw C n x1 (0 : Int32) u_2 _ _ _ hf hw (lv_sub hl [1, 2, 0] rfl)
    · replace hf := hf.2 hc
      clear hc
      refine lv_bipush (v := (-2 : Int32)) hx hb dX12_explain_208 (by decide) ?_
      exact th_iret C hw hf dX12_explain_210
  · replace hf := hf.2 hc
    clear hc
    refine lv_aload_n hx hb dX12_explain_66 rfl (lv_at hl 0 rfl) ?_
    refine mg_52 C hw dX12_explain_67 ?_
    refine lv_iload_n hx hb dX12_explain_70 rfl (lv_at hl 2 rfl) ?_
    refine lv_aload_n hx hb dX12_explain_71 rfl (lv_at hl 0 rfl) ?_
    refine mg_51 C hw dX12_explain_72 ?_
    refine lv_iload_n hx hb dX12_explain_75 rfl (lv_at hl 2 rfl) ?_
    refine ml_51 C hw hf.1 dX12_explain_76 (fun y_3 e9 => ?_)
    replace hf := hf.2 y_3 e9
    clear e9
    refine th_callSi (As := [.int y_3]) (rest := [.int x2, .ref (q 52)]) C lkX12_334 (M_plain_c hf) hw rfl rfl ⟨Nat.le_of_ble_eq_true rfl, Nat.le_of_ble_eq_true rfl⟩ hl.1 (Nat.le_of_ble_eq_true rfl) ⟨Nat.le_refl _, Nat.le_refl _⟩ dX12_explain_77 (fun r_5 u_4 H locs hf hw => ?_)
    refine lv_aload_n hx hb dX12_explain_80 rfl (lv_at hl 0 rfl) ?_
    refine mg_14 C hw dX12_explain_81 ?_
    refine lv_iconst (v := (0 : Int32)) hx hb dX12_explain_84 (by decide) ?_
    refine ml_14 C hw hf.1 dX12_explain_85 (fun y_6 e9 => ?_)
    replace hf := hf.2 y_6 e9
    clear e9
    refine lv_icmp_gt (tgt := 100) hx hb dX12_explain_86 (by decide) (fun hc => ?_) (fun hc => ?_)
    · replace hf := hf.1 hc
      clear hc
      refine lv_sipush (v := (1000 : Int32)) hx hb dX12_explain_100 (by decide) ?_
      exact M_explain_103_w C hk62 x1 x2 (1000 : Int32) x2 u_4 _ _ _ hf hw (lv_sub hl [0, 1, 2] rfl)
    · replace hf := hf.2 hc
      clear hc
      refine lv_aload_n hx hb dX12_explain_89 rfl (lv_at hl 0 rfl) ?_
      refine mg_52 C hw dX12_explain_90 ?_
      refine lv_iload_n hx hb dX12_explain_93 rfl (lv_at hl 2 rfl) ?_
      refine lv_iconst (v := (1 : Int32)) hx hb dX12_explain_94 (by decide) ?_
      refine lv_iadd hx hb dX12_explain_95 ?_
      refine ml_52 C hw hf.1 dX12_explain_96 (fun y_7 e9 => ?_)
      replace hf := hf.2 y_7 e9
      clear e9
      refine lv_goto (tgt := 103) hx hb dX12_explain_97 (by decide) ?_
      exact M_explain_103_w C hk62 x1 x2 y_7 x2 u_4 _ _ _ hf hw (lv_sub hl [0, 1, 2] rfl)
def M_explain_62_lp (K : Int32 → th_St → Prop) : Nat → Int32 → Int32 → th_St → Prop
  | 0, _, _, _ => False
  | n + 1, x1, x2, u => M_explain_62 K (M_explain_62_lp K n) x1 x2 u
set_option maxHeartbeats 4000000 in
set_option maxRecDepth 100000 in
theorem M_explain_62_lw {K : Int32 → th_St → Prop} (C : th_Cx p s m args meth c cX12_explain RX12 5 (some .int) (dC, dI) (th_ty cs) th_E0 A) (n : Nat) : ∀ (x1 : Int32) (x2 : Int32) (u : th_St) (H : Heap) (locs : List Loc) (ls : Array Slot), M_explain_62_lp K n x1 x2 u → th_wI (dC, dI) (wM cs q) A s.heap u H locs → lv_has ls 5 [(0, .ref (q 0)), (1, .int x1), (2, .int x2)] → W p l e (th_rm 3 0 0) s m args below meth c H locs 0 0 (MQ below (va_Qi K (th_Post (dC, dI) (wM cs q) A) A) args s 0 0 A) (F0 m 62 ls []) := by
  induction n with
  | zero => intro x1 x2 u H locs ls hf; exact hf.elim
  | succ n ih =>
    intro x1 x2 u H locs ls hf hw hl
    exact M_explain_62_w C ih x1 x2 u H locs ls hf hw hl
def M_explain_28 (K : Int32 → th_St → Prop) (k28 : Int32 → Int32 → th_St → Prop) (x1 : Int32) (x2 : Int32) (u : th_St) : Prop :=
  ((x1 ≤ x2 → (vp_in x1 49 ∧ ∀ u_1 : th_St, u_1 = th_sa u 52 (upd (u.2.2.1 52) (x1).toNatClampNeg (0 : Int32)) → ∀ y_2 : Int32, y_2 = (x1 - (1 : Int32)) → ∃ n, M_explain_62_lp K n x1 y_2 u_1)) ∧ (¬ x1 ≤ x2 → (vp_in x2 440 ∧ ∀ y_3 : Int32, y_3 = u.2.2.1 1 (x2).toNatClampNeg → (vp_in x2 48 ∧ ∀ u_4 : th_St, u_4 = th_sa u 51 (upd (u.2.2.1 51) (x2).toNatClampNeg y_3) → ∀ x2_5 : Int32, x2_5 = x2 + (1 : Int32) → k28 x1 x2_5 u_4))))
set_option maxHeartbeats 4000000 in
set_option maxRecDepth 100000 in
theorem M_explain_28_w {K : Int32 → th_St → Prop} {k28 : Int32 → Int32 → th_St → Prop} (C : th_Cx p s m args meth c cX12_explain RX12 5 (some .int) (dC, dI) (th_ty cs) th_E0 A) (hk28 : ∀ (x1 : Int32) (x2 : Int32) (u : th_St) (H : Heap) (locs : List Loc) (ls : Array Slot), k28 x1 x2 u → th_wI (dC, dI) (wM cs q) A s.heap u H locs → lv_has ls 5 [(0, .ref (q 0)), (1, .int x1), (2, .int x2)] → W p l e (th_rm 3 0 0) s m args below meth c H locs 0 0 (MQ below (va_Qi K (th_Post (dC, dI) (wM cs q) A) A) args s 0 0 A) (F0 m 28 ls [])) (x1 : Int32) (x2 : Int32) (u : th_St) (H : Heap) (locs : List Loc) (ls : Array Slot) (hf : M_explain_28 K k28 x1 x2 u) (hw : th_wI (dC, dI) (wM cs q) A s.heap u H locs) (hl : lv_has ls 5 [(0, .ref (q 0)), (1, .int x1), (2, .int x2)]) : W p l e (th_rm 3 0 0) s m args below meth c H locs 0 0 (MQ below (va_Qi K (th_Post (dC, dI) (wM cs q) A) A) args s 0 0 A) (F0 m 28 ls []) := by
  have hx := C.1
  have hb := C.2.1
  unfold M_explain_28 at hf
  refine lv_iload_n hx hb dX12_explain_28 rfl (lv_at hl 2 rfl) ?_
  refine lv_iload_n hx hb dX12_explain_29 rfl (lv_at hl 1 rfl) ?_
  refine lv_icmp_ge (tgt := 51) hx hb dX12_explain_30 (by decide) (fun hc => ?_) (fun hc => ?_)
  · replace hf := hf.1 hc
    clear hc
    refine lv_aload_n hx hb dX12_explain_51 rfl (lv_at hl 0 rfl) ?_
    refine mg_52 C hw dX12_explain_52 ?_
    refine lv_iload_n hx hb dX12_explain_55 rfl (lv_at hl 1 rfl) ?_
    refine lv_iconst (v := (0 : Int32)) hx hb dX12_explain_56 (by decide) ?_
    refine ms_52 C hw hf.1 dX12_explain_57 (fun u_1 e9 H locs hw => ?_)
    replace hf := hf.2 u_1 e9
    clear e9
    refine lv_iload_n hx hb dX12_explain_58 rfl (lv_at hl 1 rfl) ?_
    refine lv_iconst (v := (1 : Int32)) hx hb dX12_explain_59 (by decide) ?_
    refine lv_isub hx hb dX12_explain_60 ?_
    refine lv_topi (fun y_2 e9 => ?_)
    replace hf := hf y_2 e9
    clear e9
    refine lv_istore_n (lv' := [(2, .int y_2), (0, .ref (q 0)), (1, .int x1)]) hx hb dX12_explain_61 rfl hl (by decide) rfl (fun ls hl => ?_)
    obtain ⟨n, hf⟩ := hf
    exact M_explain_62_lw C n x1 y_2 u_1 _ _ _ hf hw (lv_sub hl [1, 2, 0] rfl)
  · replace hf := hf.2 hc
    clear hc
    refine lv_aload_n hx hb dX12_explain_33 rfl (lv_at hl 0 rfl) ?_
    refine mg_51 C hw dX12_explain_34 ?_
    refine lv_iload_n hx hb dX12_explain_37 rfl (lv_at hl 2 rfl) ?_
    refine lv_aload_n hx hb dX12_explain_38 rfl (lv_at hl 0 rfl) ?_
    refine mg_1 C hw dX12_explain_39 ?_
    refine lv_iload_n hx hb dX12_explain_42 rfl (lv_at hl 2 rfl) ?_
    refine ml_1 C hw hf.1 dX12_explain_43 (fun y_3 e9 => ?_)
    replace hf := hf.2 y_3 e9
    clear e9
    refine ms_51 C hw hf.1 dX12_explain_44 (fun u_4 e9 H locs hw => ?_)
    replace hf := hf.2 u_4 e9
    clear e9
    obtain ⟨x2_5, e9⟩ : ∃ y : Int32, y = x2 + (1 : Int32) := ⟨_, rfl⟩
    replace hf := hf x2_5 e9
    refine lv_iinc (v := x2_5) (lv' := [(2, .int x2_5), (0, .ref (q 0)), (1, .int x1)]) hx hb dX12_explain_45 hl (k := 2) rfl (by rw [e9]; rfl) (by decide) rfl (fun ls hl => ?_)
    clear e9
    refine lv_goto (tgt := 28) hx hb dX12_explain_48 (by decide) ?_
    exact hk28 x1 x2_5 u_4 _ _ _ hf hw (lv_sub hl [1, 2, 0] rfl)
def M_explain_28_lp (K : Int32 → th_St → Prop) : Nat → Int32 → Int32 → th_St → Prop
  | 0, _, _, _ => False
  | n + 1, x1, x2, u => M_explain_28 K (M_explain_28_lp K n) x1 x2 u
set_option maxHeartbeats 4000000 in
set_option maxRecDepth 100000 in
theorem M_explain_28_lw {K : Int32 → th_St → Prop} (C : th_Cx p s m args meth c cX12_explain RX12 5 (some .int) (dC, dI) (th_ty cs) th_E0 A) (n : Nat) : ∀ (x1 : Int32) (x2 : Int32) (u : th_St) (H : Heap) (locs : List Loc) (ls : Array Slot), M_explain_28_lp K n x1 x2 u → th_wI (dC, dI) (wM cs q) A s.heap u H locs → lv_has ls 5 [(0, .ref (q 0)), (1, .int x1), (2, .int x2)] → W p l e (th_rm 3 0 0) s m args below meth c H locs 0 0 (MQ below (va_Qi K (th_Post (dC, dI) (wM cs q) A) A) args s 0 0 A) (F0 m 28 ls []) := by
  induction n with
  | zero => intro x1 x2 u H locs ls hf; exact hf.elim
  | succ n ih =>
    intro x1 x2 u H locs ls hf hw hl
    exact M_explain_28_w C ih x1 x2 u H locs ls hf hw hl
def M_explain (u : th_St) (K : Int32 → th_St → Prop) : Prop :=
  ∀ u_1 : th_St, u_1 = th_si u 0 (0 : Int32) → M_taken u_1 (fun u_2 => (vp_in (0 : Int32) 2 ∧ ∀ y_4 : Int32, y_4 = u_2.2.2.1 11 ((0 : Int32)).toNatClampNeg → (((u_2.1 3) = y_4 → ∃ n, M_explain_28_lp K n y_4 (0 : Int32) u_2) ∧ (¬ (u_2.1 3) = y_4 → K (-1 : Int32) u_2))))
set_option maxHeartbeats 4000000 in
set_option maxRecDepth 100000 in
theorem M_explain_c {l : Launch} {dC : Nat → ClassId} {dI : Nat → Nat → Nat} {cs : Nat → ClassId} {q : Nat → Nat} {u : th_St} {K : Int32 → th_St → Prop} (hf : M_explain u K) : th_Ci l yX12_explain cX12_explain 5 (some .int) 3 0 0 (dC, dI) (th_ty cs) th_E0 (wM cs q) [.ref (q 0)] u K := by
  refine th_ofi (by decide) (Nat.le_of_ble_eq_true rfl) th_E0_ok ?_
  intro p e s m below meth c A ls C hw hl
  have C : th_Cx p s m _ meth c cX12_explain RX12 5 (some .int) (dC, dI) (th_ty cs) th_E0 A := C
  have hl : lv_has ls 5 [(0, .ref (q 0))] := hl
  generalize (List.toArray _ : Array Value) = args at C ⊢
  have hx := C.1
  have hb := C.2.1
  unfold M_explain at hf
  refine lv_aload_n hx hb dX12_explain_0 rfl (lv_at hl 0 rfl) ?_
  refine lv_iconst (v := (0 : Int32)) hx hb dX12_explain_1 (by decide) ?_
  refine mp_0 C hw dX12_explain_2 (fun u_1 e9 H locs hw => ?_)
  replace hf := hf u_1 e9
  clear e9
  refine lv_aload_n hx hb dX12_explain_5 rfl (lv_at hl 0 rfl) ?_
  refine th_callVv (As := []) (rest := []) C lkX12_164 (M_taken_c hf) hw (mRc C hw) rfl rfl ⟨Nat.le_of_ble_eq_true rfl, Nat.le_of_ble_eq_true rfl⟩ hl.1 (Nat.le_of_ble_eq_true rfl) ⟨Nat.le_refl _, Nat.le_refl _⟩ dX12_explain_6 (fun u_2 H locs hf hw => ?_)
  refine lv_aload_n hx hb dX12_explain_9 rfl (lv_at hl 0 rfl) ?_
  refine mg_11 C hw dX12_explain_10 ?_
  refine lv_iconst (v := (0 : Int32)) hx hb dX12_explain_13 (by decide) ?_
  refine ml_11 C hw hf.1 dX12_explain_14 (fun y_4 e9 => ?_)
  replace hf := hf.2 y_4 e9
  clear e9
  refine lv_istore_n (lv' := [(1, .int y_4), (0, .ref (q 0))]) hx hb dX12_explain_15 rfl hl (by decide) rfl (fun ls hl => ?_)
  refine lv_aload_n hx hb dX12_explain_16 rfl (lv_at hl 1 rfl) ?_
  refine mg_3 C hw dX12_explain_17 ?_
  refine lv_iload_n hx hb dX12_explain_20 rfl (lv_at hl 0 rfl) ?_
  refine lv_icmp_eq (tgt := 26) hx hb dX12_explain_21 (by decide) (fun hc => ?_) (fun hc => ?_)
  · replace hf := hf.1 hc
    clear hc
    refine lv_iconst (v := (0 : Int32)) hx hb dX12_explain_26 (by decide) ?_
    refine lv_istore_n (lv' := [(2, .int (0 : Int32)), (1, .int y_4), (0, .ref (q 0))]) hx hb dX12_explain_27 rfl hl (by decide) rfl (fun ls hl => ?_)
    obtain ⟨n, hf⟩ := hf
    exact M_explain_28_lw C n y_4 (0 : Int32) u_2 _ _ _ hf hw (lv_sub hl [2, 1, 0] rfl)
  · replace hf := hf.2 hc
    clear hc
    refine lv_iconst (v := (-1 : Int32)) hx hb dX12_explain_24 (by decide) ?_
    exact th_iret C hw hf dX12_explain_25
/-! X12_walk -/
theorem dX12_walk_0 : decode cX12_walk 0 = .ok (.aload_n 0, 1) := by decide +kernel
theorem dX12_walk_1 : decode cX12_walk 1 = .ok (.iconst 0, 1) := by decide +kernel
theorem dX12_walk_2 : decode cX12_walk 2 = .ok (.putfield 1, 3) := by decide +kernel
theorem dX12_walk_5 : decode cX12_walk 5 = .ok (.aload_n 0, 1) := by decide +kernel
theorem dX12_walk_6 : decode cX12_walk 6 = .ok (.iload 4, 2) := by decide +kernel
theorem dX12_walk_8 : decode cX12_walk 8 = .ok (.invokevirtual 337, 3) := by decide +kernel
theorem dX12_walk_11 : decode cX12_walk 11 = .ok (.iload_n 1, 1) := by decide +kernel
theorem dX12_walk_12 : decode cX12_walk 12 = .ok (.iconst 0, 1) := by decide +kernel
theorem dX12_walk_13 : decode cX12_walk 13 = .ok (.aload_n 0, 1) := by decide +kernel
theorem dX12_walk_14 : decode cX12_walk 14 = .ok (.getfield 323, 3) := by decide +kernel
theorem dX12_walk_17 : decode cX12_walk 17 = .ok (.iconst 1, 1) := by decide +kernel
theorem dX12_walk_18 : decode cX12_walk 18 = .ok (.isub, 1) := by decide +kernel
theorem dX12_walk_19 : decode cX12_walk 19 = .ok (.invokestatic 24, 3) := by decide +kernel
theorem dX12_walk_22 : decode cX12_walk 22 = .ok (.ifCond .eq 27, 3) := by decide +kernel
theorem dX12_walk_25 : decode cX12_walk 25 = .ok (.iload_n 2, 1) := by decide +kernel
theorem dX12_walk_26 : decode cX12_walk 26 = .ok (.iload_n 1, 1) := by decide +kernel
theorem dX12_walk_27 : decode cX12_walk 27 = .ok (.aload_n 0, 1) := by decide +kernel
theorem dX12_walk_28 : decode cX12_walk 28 = .ok (.getfield 323, 3) := by decide +kernel
theorem dX12_walk_31 : decode cX12_walk 31 = .ok (.iconst 1, 1) := by decide +kernel
theorem dX12_walk_32 : decode cX12_walk 32 = .ok (.isub, 1) := by decide +kernel
theorem dX12_walk_33 : decode cX12_walk 33 = .ok (.invokestatic 24, 3) := by decide +kernel
theorem dX12_walk_36 : decode cX12_walk 36 = .ok (.ifCond .eq 13, 3) := by decide +kernel
theorem dX12_walk_39 : decode cX12_walk 39 = .ok (.iload_n 3, 1) := by decide +kernel
theorem dX12_walk_40 : decode cX12_walk 40 = .ok (.iconst 0, 1) := by decide +kernel
theorem dX12_walk_41 : decode cX12_walk 41 = .ok (.bipush 47, 2) := by decide +kernel
theorem dX12_walk_43 : decode cX12_walk 43 = .ok (.invokestatic 24, 3) := by decide +kernel
theorem dX12_walk_46 : decode cX12_walk 46 = .ok (.ifCond .ne 5, 3) := by decide +kernel
theorem dX12_walk_49 : decode cX12_walk 49 = .ok (.iconst (-1), 1) := by decide +kernel
theorem dX12_walk_50 : decode cX12_walk 50 = .ok (.ireturn, 1) := by decide +kernel
theorem dX12_walk_51 : decode cX12_walk 51 = .ok (.aload_n 0, 1) := by decide +kernel
theorem dX12_walk_52 : decode cX12_walk 52 = .ok (.getfield 54, 3) := by decide +kernel
theorem dX12_walk_55 : decode cX12_walk 55 = .ok (.iconst 0, 1) := by decide +kernel
theorem dX12_walk_56 : decode cX12_walk 56 = .ok (.iaload, 1) := by decide +kernel
theorem dX12_walk_57 : decode cX12_walk 57 = .ok (.istore 5, 2) := by decide +kernel
theorem dX12_walk_59 : decode cX12_walk 59 = .ok (.iload_n 2, 1) := by decide +kernel
theorem dX12_walk_60 : decode cX12_walk 60 = .ok (.istore 6, 2) := by decide +kernel
theorem dX12_walk_62 : decode cX12_walk 62 = .ok (.iload 6, 2) := by decide +kernel
theorem dX12_walk_64 : decode cX12_walk 64 = .ok (.iload_n 1, 1) := by decide +kernel
theorem dX12_walk_65 : decode cX12_walk 65 = .ok (.if_icmp .lt 126, 3) := by decide +kernel
theorem dX12_walk_68 : decode cX12_walk 68 = .ok (.iconst 0, 1) := by decide +kernel
theorem dX12_walk_69 : decode cX12_walk 69 = .ok (.istore 7, 2) := by decide +kernel
theorem dX12_walk_71 : decode cX12_walk 71 = .ok (.iload 7, 2) := by decide +kernel
theorem dX12_walk_73 : decode cX12_walk 73 = .ok (.iload 5, 2) := by decide +kernel
theorem dX12_walk_75 : decode cX12_walk 75 = .ok (.if_icmp .ge 110, 3) := by decide +kernel
theorem dX12_walk_78 : decode cX12_walk 78 = .ok (.iconst 0, 1) := by decide +kernel
theorem dX12_walk_79 : decode cX12_walk 79 = .ok (.istore 8, 2) := by decide +kernel
theorem dX12_walk_81 : decode cX12_walk 81 = .ok (.iconst 0, 1) := by decide +kernel
theorem dX12_walk_82 : decode cX12_walk 82 = .ok (.istore 9, 2) := by decide +kernel
theorem dX12_walk_84 : decode cX12_walk 84 = .ok (.iload 9, 2) := by decide +kernel
theorem dX12_walk_86 : decode cX12_walk 86 = .ok (.iload 5, 2) := by decide +kernel
theorem dX12_walk_88 : decode cX12_walk 88 = .ok (.if_icmp .ge 64, 3) := by decide +kernel
theorem dX12_walk_91 : decode cX12_walk 91 = .ok (.iload 6, 2) := by decide +kernel
theorem dX12_walk_93 : decode cX12_walk 93 = .ok (.iload_n 2, 1) := by decide +kernel
theorem dX12_walk_94 : decode cX12_walk 94 = .ok (.if_icmp .ge 58, 3) := by decide +kernel
theorem dX12_walk_97 : decode cX12_walk 97 = .ok (.iload 7, 2) := by decide +kernel
theorem dX12_walk_99 : decode cX12_walk 99 = .ok (.iload 9, 2) := by decide +kernel
theorem dX12_walk_101 : decode cX12_walk 101 = .ok (.isub, 1) := by decide +kernel
theorem dX12_walk_102 : decode cX12_walk 102 = .ok (.invokestatic 334, 3) := by decide +kernel
theorem dX12_walk_105 : decode cX12_walk 105 = .ok (.iload_n 3, 1) := by decide +kernel
theorem dX12_walk_106 : decode cX12_walk 106 = .ok (.if_icmp .gt 40, 3) := by decide +kernel
theorem dX12_walk_109 : decode cX12_walk 109 = .ok (.aload_n 0, 1) := by decide +kernel
theorem dX12_walk_110 : decode cX12_walk 110 = .ok (.getfield 140, 3) := by decide +kernel
theorem dX12_walk_113 : decode cX12_walk 113 = .ok (.bipush 48, 2) := by decide +kernel
theorem dX12_walk_115 : decode cX12_walk 115 = .ok (.iload 6, 2) := by decide +kernel
theorem dX12_walk_117 : decode cX12_walk 117 = .ok (.iconst 1, 1) := by decide +kernel
theorem dX12_walk_118 : decode cX12_walk 118 = .ok (.iadd, 1) := by decide +kernel
theorem dX12_walk_119 : decode cX12_walk 119 = .ok (.imul, 1) := by decide +kernel
theorem dX12_walk_120 : decode cX12_walk 120 = .ok (.iload 9, 2) := by decide +kernel
theorem dX12_walk_122 : decode cX12_walk 122 = .ok (.iadd, 1) := by decide +kernel
theorem dX12_walk_123 : decode cX12_walk 123 = .ok (.iaload, 1) := by decide +kernel
theorem dX12_walk_124 : decode cX12_walk 124 = .ok (.iload 8, 2) := by decide +kernel
theorem dX12_walk_126 : decode cX12_walk 126 = .ok (.if_icmp .le 20, 3) := by decide +kernel
theorem dX12_walk_129 : decode cX12_walk 129 = .ok (.aload_n 0, 1) := by decide +kernel
theorem dX12_walk_130 : decode cX12_walk 130 = .ok (.getfield 140, 3) := by decide +kernel
theorem dX12_walk_133 : decode cX12_walk 133 = .ok (.bipush 48, 2) := by decide +kernel
theorem dX12_walk_135 : decode cX12_walk 135 = .ok (.iload 6, 2) := by decide +kernel
theorem dX12_walk_137 : decode cX12_walk 137 = .ok (.iconst 1, 1) := by decide +kernel
theorem dX12_walk_138 : decode cX12_walk 138 = .ok (.iadd, 1) := by decide +kernel
theorem dX12_walk_139 : decode cX12_walk 139 = .ok (.imul, 1) := by decide +kernel
theorem dX12_walk_140 : decode cX12_walk 140 = .ok (.iload 9, 2) := by decide +kernel
theorem dX12_walk_142 : decode cX12_walk 142 = .ok (.iadd, 1) := by decide +kernel
theorem dX12_walk_143 : decode cX12_walk 143 = .ok (.iaload, 1) := by decide +kernel
theorem dX12_walk_144 : decode cX12_walk 144 = .ok (.istore 8, 2) := by decide +kernel
theorem dX12_walk_146 : decode cX12_walk 146 = .ok (.iinc 9 1, 3) := by decide +kernel
theorem dX12_walk_149 : decode cX12_walk 149 = .ok (.goto (-65), 3) := by decide +kernel
theorem dX12_walk_152 : decode cX12_walk 152 = .ok (.aload_n 0, 1) := by decide +kernel
theorem dX12_walk_153 : decode cX12_walk 153 = .ok (.getfield 140, 3) := by decide +kernel
theorem dX12_walk_156 : decode cX12_walk 156 = .ok (.bipush 48, 2) := by decide +kernel
theorem dX12_walk_158 : decode cX12_walk 158 = .ok (.iload 6, 2) := by decide +kernel
theorem dX12_walk_160 : decode cX12_walk 160 = .ok (.imul, 1) := by decide +kernel
theorem dX12_walk_161 : decode cX12_walk 161 = .ok (.iload 7, 2) := by decide +kernel
theorem dX12_walk_163 : decode cX12_walk 163 = .ok (.iadd, 1) := by decide +kernel
theorem dX12_walk_164 : decode cX12_walk 164 = .ok (.iload 8, 2) := by decide +kernel
theorem dX12_walk_166 : decode cX12_walk 166 = .ok (.aload_n 0, 1) := by decide +kernel
theorem dX12_walk_167 : decode cX12_walk 167 = .ok (.iload 7, 2) := by decide +kernel
theorem dX12_walk_169 : decode cX12_walk 169 = .ok (.iload 6, 2) := by decide +kernel
theorem dX12_walk_171 : decode cX12_walk 171 = .ok (.invokevirtual 347, 3) := by decide +kernel
theorem dX12_walk_174 : decode cX12_walk 174 = .ok (.invokestatic 334, 3) := by decide +kernel
theorem dX12_walk_177 : decode cX12_walk 177 = .ok (.iadd, 1) := by decide +kernel
theorem dX12_walk_178 : decode cX12_walk 178 = .ok (.iastore, 1) := by decide +kernel
theorem dX12_walk_179 : decode cX12_walk 179 = .ok (.iinc 7 1, 3) := by decide +kernel
theorem dX12_walk_182 : decode cX12_walk 182 = .ok (.goto (-111), 3) := by decide +kernel
theorem dX12_walk_185 : decode cX12_walk 185 = .ok (.iinc 6 (-1), 3) := by decide +kernel
theorem dX12_walk_188 : decode cX12_walk 188 = .ok (.goto (-126), 3) := by decide +kernel
theorem dX12_walk_191 : decode cX12_walk 191 = .ok (.aload_n 0, 1) := by decide +kernel
theorem dX12_walk_192 : decode cX12_walk 192 = .ok (.iload_n 2, 1) := by decide +kernel
theorem dX12_walk_193 : decode cX12_walk 193 = .ok (.iload_n 1, 1) := by decide +kernel
theorem dX12_walk_194 : decode cX12_walk 194 = .ok (.isub, 1) := by decide +kernel
theorem dX12_walk_195 : decode cX12_walk 195 = .ok (.iconst 1, 1) := by decide +kernel
theorem dX12_walk_196 : decode cX12_walk 196 = .ok (.iadd, 1) := by decide +kernel
theorem dX12_walk_197 : decode cX12_walk 197 = .ok (.putfield 389, 3) := by decide +kernel
theorem dX12_walk_200 : decode cX12_walk 200 = .ok (.iload_n 1, 1) := by decide +kernel
theorem dX12_walk_201 : decode cX12_walk 201 = .ok (.istore 6, 2) := by decide +kernel
theorem dX12_walk_203 : decode cX12_walk 203 = .ok (.iload 6, 2) := by decide +kernel
theorem dX12_walk_205 : decode cX12_walk 205 = .ok (.iload_n 2, 1) := by decide +kernel
theorem dX12_walk_206 : decode cX12_walk 206 = .ok (.if_icmp .gt 104, 3) := by decide +kernel
theorem dX12_walk_209 : decode cX12_walk 209 = .ok (.iconst (-1), 1) := by decide +kernel
theorem dX12_walk_210 : decode cX12_walk 210 = .ok (.istore 7, 2) := by decide +kernel
theorem dX12_walk_212 : decode cX12_walk 212 = .ok (.iconst 0, 1) := by decide +kernel
theorem dX12_walk_213 : decode cX12_walk 213 = .ok (.istore 8, 2) := by decide +kernel
theorem dX12_walk_215 : decode cX12_walk 215 = .ok (.iload 8, 2) := by decide +kernel
theorem dX12_walk_217 : decode cX12_walk 217 = .ok (.iload 5, 2) := by decide +kernel
theorem dX12_walk_219 : decode cX12_walk 219 = .ok (.if_icmp .ge 74, 3) := by decide +kernel
theorem dX12_walk_222 : decode cX12_walk 222 = .ok (.iload 6, 2) := by decide +kernel
theorem dX12_walk_224 : decode cX12_walk 224 = .ok (.iload_n 1, 1) := by decide +kernel
theorem dX12_walk_225 : decode cX12_walk 225 = .ok (.if_icmp .eq 24, 3) := by decide +kernel
theorem dX12_walk_228 : decode cX12_walk 228 = .ok (.iload 8, 2) := by decide +kernel
theorem dX12_walk_230 : decode cX12_walk 230 = .ok (.aload_n 0, 1) := by decide +kernel
theorem dX12_walk_231 : decode cX12_walk 231 = .ok (.getfield 143, 3) := by decide +kernel
theorem dX12_walk_234 : decode cX12_walk 234 = .ok (.iload 6, 2) := by decide +kernel
theorem dX12_walk_236 : decode cX12_walk 236 = .ok (.iload_n 1, 1) := by decide +kernel
theorem dX12_walk_237 : decode cX12_walk 237 = .ok (.isub, 1) := by decide +kernel
theorem dX12_walk_238 : decode cX12_walk 238 = .ok (.iconst 1, 1) := by decide +kernel
theorem dX12_walk_239 : decode cX12_walk 239 = .ok (.isub, 1) := by decide +kernel
theorem dX12_walk_240 : decode cX12_walk 240 = .ok (.iaload, 1) := by decide +kernel
theorem dX12_walk_241 : decode cX12_walk 241 = .ok (.isub, 1) := by decide +kernel
theorem dX12_walk_242 : decode cX12_walk 242 = .ok (.invokestatic 334, 3) := by decide +kernel
theorem dX12_walk_245 : decode cX12_walk 245 = .ok (.iload_n 3, 1) := by decide +kernel
theorem dX12_walk_246 : decode cX12_walk 246 = .ok (.if_icmp .gt 41, 3) := by decide +kernel
theorem dX12_walk_249 : decode cX12_walk 249 = .ok (.iload 7, 2) := by decide +kernel
theorem dX12_walk_251 : decode cX12_walk 251 = .ok (.ifCond .lt 32, 3) := by decide +kernel
theorem dX12_walk_254 : decode cX12_walk 254 = .ok (.aload_n 0, 1) := by decide +kernel
theorem dX12_walk_255 : decode cX12_walk 255 = .ok (.getfield 140, 3) := by decide +kernel
theorem dX12_walk_258 : decode cX12_walk 258 = .ok (.bipush 48, 2) := by decide +kernel
theorem dX12_walk_260 : decode cX12_walk 260 = .ok (.iload 6, 2) := by decide +kernel
theorem dX12_walk_262 : decode cX12_walk 262 = .ok (.imul, 1) := by decide +kernel
theorem dX12_walk_263 : decode cX12_walk 263 = .ok (.iload 8, 2) := by decide +kernel
theorem dX12_walk_265 : decode cX12_walk 265 = .ok (.iadd, 1) := by decide +kernel
theorem dX12_walk_266 : decode cX12_walk 266 = .ok (.iaload, 1) := by decide +kernel
theorem dX12_walk_267 : decode cX12_walk 267 = .ok (.aload_n 0, 1) := by decide +kernel
theorem dX12_walk_268 : decode cX12_walk 268 = .ok (.getfield 140, 3) := by decide +kernel
theorem dX12_walk_271 : decode cX12_walk 271 = .ok (.bipush 48, 2) := by decide +kernel
theorem dX12_walk_273 : decode cX12_walk 273 = .ok (.iload 6, 2) := by decide +kernel
theorem dX12_walk_275 : decode cX12_walk 275 = .ok (.imul, 1) := by decide +kernel
theorem dX12_walk_276 : decode cX12_walk 276 = .ok (.iload 7, 2) := by decide +kernel
theorem dX12_walk_278 : decode cX12_walk 278 = .ok (.iadd, 1) := by decide +kernel
theorem dX12_walk_279 : decode cX12_walk 279 = .ok (.iaload, 1) := by decide +kernel
theorem dX12_walk_280 : decode cX12_walk 280 = .ok (.if_icmp .le 7, 3) := by decide +kernel
theorem dX12_walk_283 : decode cX12_walk 283 = .ok (.iload 8, 2) := by decide +kernel
theorem dX12_walk_285 : decode cX12_walk 285 = .ok (.istore 7, 2) := by decide +kernel
theorem dX12_walk_287 : decode cX12_walk 287 = .ok (.iinc 8 1, 3) := by decide +kernel
theorem dX12_walk_290 : decode cX12_walk 290 = .ok (.goto (-75), 3) := by decide +kernel
theorem dX12_walk_293 : decode cX12_walk 293 = .ok (.aload_n 0, 1) := by decide +kernel
theorem dX12_walk_294 : decode cX12_walk 294 = .ok (.getfield 143, 3) := by decide +kernel
theorem dX12_walk_297 : decode cX12_walk 297 = .ok (.iload 6, 2) := by decide +kernel
theorem dX12_walk_299 : decode cX12_walk 299 = .ok (.iload_n 1, 1) := by decide +kernel
theorem dX12_walk_300 : decode cX12_walk 300 = .ok (.isub, 1) := by decide +kernel
theorem dX12_walk_301 : decode cX12_walk 301 = .ok (.iload 7, 2) := by decide +kernel
theorem dX12_walk_303 : decode cX12_walk 303 = .ok (.iastore, 1) := by decide +kernel
theorem dX12_walk_304 : decode cX12_walk 304 = .ok (.iinc 6 1, 3) := by decide +kernel
theorem dX12_walk_307 : decode cX12_walk 307 = .ok (.goto (-104), 3) := by decide +kernel
theorem dX12_walk_310 : decode cX12_walk 310 = .ok (.aload_n 0, 1) := by decide +kernel
theorem dX12_walk_311 : decode cX12_walk 311 = .ok (.getfield 140, 3) := by decide +kernel
theorem dX12_walk_314 : decode cX12_walk 314 = .ok (.bipush 48, 2) := by decide +kernel
theorem dX12_walk_316 : decode cX12_walk 316 = .ok (.iload_n 1, 1) := by decide +kernel
theorem dX12_walk_317 : decode cX12_walk 317 = .ok (.imul, 1) := by decide +kernel
theorem dX12_walk_318 : decode cX12_walk 318 = .ok (.aload_n 0, 1) := by decide +kernel
theorem dX12_walk_319 : decode cX12_walk 319 = .ok (.getfield 143, 3) := by decide +kernel
theorem dX12_walk_322 : decode cX12_walk 322 = .ok (.iconst 0, 1) := by decide +kernel
theorem dX12_walk_323 : decode cX12_walk 323 = .ok (.iaload, 1) := by decide +kernel
theorem dX12_walk_324 : decode cX12_walk 324 = .ok (.iadd, 1) := by decide +kernel
theorem dX12_walk_325 : decode cX12_walk 325 = .ok (.iaload, 1) := by decide +kernel
theorem dX12_walk_326 : decode cX12_walk 326 = .ok (.ireturn, 1) := by decide +kernel
def M_walk_49 (K : Int32 → th_St → Prop) (u : th_St) : Prop :=
  K (-1 : Int32) u
set_option maxHeartbeats 4000000 in
set_option maxRecDepth 100000 in
theorem M_walk_49_w {K : Int32 → th_St → Prop} (C : th_Cx p s m args meth c cX12_walk RX12 10 (some .int) (dC, dI) (th_ty cs) th_E0 A) (u : th_St) (H : Heap) (locs : List Loc) (ls : Array Slot) (hf : M_walk_49 K u) (hw : th_wI (dC, dI) (wM cs q) A s.heap u H locs) (hl : lv_has ls 10 []) : W p l e (th_rm 3 0 0) s m args below meth c H locs 0 0 (MQ below (va_Qi K (th_Post (dC, dI) (wM cs q) A) A) args s 0 0 A) (F0 m 49 ls []) := by
  have hx := C.1
  have hb := C.2.1
  unfold M_walk_49 at hf
  refine lv_iconst (v := (-1 : Int32)) hx hb dX12_walk_49 (by decide) ?_
  exact th_iret C hw hf dX12_walk_50
def M_walk_146 (K : Int32 → th_St → Prop) (k62 : Int32 → Int32 → Int32 → Int32 → Int32 → th_St → Prop) (k71 : Int32 → Int32 → Int32 → Int32 → Int32 → Int32 → th_St → Prop) (k84 : Int32 → Int32 → Int32 → Int32 → Int32 → Int32 → Int32 → Int32 → th_St → Prop) (x1 : Int32) (x2 : Int32) (x3 : Int32) (x5 : Int32) (x6 : Int32) (x7 : Int32) (x8 : Int32) (x9 : Int32) (u : th_St) : Prop :=
  ∀ x9_1 : Int32, x9_1 = x9 + (1 : Int32) → k84 x1 x2 x3 x5 x6 x7 x8 x9_1 u
set_option maxHeartbeats 4000000 in
set_option maxRecDepth 100000 in
theorem M_walk_146_w {K : Int32 → th_St → Prop} {k62 : Int32 → Int32 → Int32 → Int32 → Int32 → th_St → Prop} {k71 : Int32 → Int32 → Int32 → Int32 → Int32 → Int32 → th_St → Prop} {k84 : Int32 → Int32 → Int32 → Int32 → Int32 → Int32 → Int32 → Int32 → th_St → Prop} (C : th_Cx p s m args meth c cX12_walk RX12 10 (some .int) (dC, dI) (th_ty cs) th_E0 A) (hk62 : ∀ (x1 : Int32) (x2 : Int32) (x3 : Int32) (x5 : Int32) (x6 : Int32) (u : th_St) (H : Heap) (locs : List Loc) (ls : Array Slot), k62 x1 x2 x3 x5 x6 u → th_wI (dC, dI) (wM cs q) A s.heap u H locs → lv_has ls 10 [(0, .ref (q 0)), (1, .int x1), (2, .int x2), (3, .int x3), (5, .int x5), (6, .int x6)] → W p l e (th_rm 3 0 0) s m args below meth c H locs 0 0 (MQ below (va_Qi K (th_Post (dC, dI) (wM cs q) A) A) args s 0 0 A) (F0 m 62 ls [])) (hk71 : ∀ (x1 : Int32) (x2 : Int32) (x3 : Int32) (x5 : Int32) (x6 : Int32) (x7 : Int32) (u : th_St) (H : Heap) (locs : List Loc) (ls : Array Slot), k71 x1 x2 x3 x5 x6 x7 u → th_wI (dC, dI) (wM cs q) A s.heap u H locs → lv_has ls 10 [(0, .ref (q 0)), (1, .int x1), (2, .int x2), (3, .int x3), (5, .int x5), (6, .int x6), (7, .int x7)] → W p l e (th_rm 3 0 0) s m args below meth c H locs 0 0 (MQ below (va_Qi K (th_Post (dC, dI) (wM cs q) A) A) args s 0 0 A) (F0 m 71 ls [])) (hk84 : ∀ (x1 : Int32) (x2 : Int32) (x3 : Int32) (x5 : Int32) (x6 : Int32) (x7 : Int32) (x8 : Int32) (x9 : Int32) (u : th_St) (H : Heap) (locs : List Loc) (ls : Array Slot), k84 x1 x2 x3 x5 x6 x7 x8 x9 u → th_wI (dC, dI) (wM cs q) A s.heap u H locs → lv_has ls 10 [(0, .ref (q 0)), (1, .int x1), (2, .int x2), (3, .int x3), (5, .int x5), (6, .int x6), (7, .int x7), (8, .int x8), (9, .int x9)] → W p l e (th_rm 3 0 0) s m args below meth c H locs 0 0 (MQ below (va_Qi K (th_Post (dC, dI) (wM cs q) A) A) args s 0 0 A) (F0 m 84 ls [])) (x1 : Int32) (x2 : Int32) (x3 : Int32) (x5 : Int32) (x6 : Int32) (x7 : Int32) (x8 : Int32) (x9 : Int32) (u : th_St) (H : Heap) (locs : List Loc) (ls : Array Slot) (hf : M_walk_146 K k62 k71 k84 x1 x2 x3 x5 x6 x7 x8 x9 u) (hw : th_wI (dC, dI) (wM cs q) A s.heap u H locs) (hl : lv_has ls 10 [(0, .ref (q 0)), (1, .int x1), (2, .int x2), (3, .int x3), (5, .int x5), (6, .int x6), (7, .int x7), (8, .int x8), (9, .int x9)]) : W p l e (th_rm 3 0 0) s m args below meth c H locs 0 0 (MQ below (va_Qi K (th_Post (dC, dI) (wM cs q) A) A) args s 0 0 A) (F0 m 146 ls []) := by
  have hx := C.1
  have hb := C.2.1
  unfold M_walk_146 at hf
  obtain ⟨x9_1, e9⟩ : ∃ y : Int32, y = x9 + (1 : Int32) := ⟨_, rfl⟩
  replace hf := hf x9_1 e9
  refine lv_iinc (v := x9_1) (lv' := [(9, .int x9_1), (0, .ref (q 0)), (1, .int x1), (2, .int x2), (3, .int x3), (5, .int x5), (6, .int x6), (7, .int x7), (8, .int x8)]) hx hb dX12_walk_146 hl (k := 8) rfl (by rw [e9]; rfl) (by decide) rfl (fun ls hl => ?_)
  clear e9
  refine lv_goto (tgt := 84) hx hb dX12_walk_149 (by decide) ?_
  exact hk84 x1 x2 x3 x5 x6 x7 x8 x9_1 u _ _ _ hf hw (lv_sub hl [1, 2, 3, 4, 5, 6, 7, 8, 0] rfl)
def M_walk_152 (K : Int32 → th_St → Prop) (k62 : Int32 → Int32 → Int32 → Int32 → Int32 → th_St → Prop) (k71 : Int32 → Int32 → Int32 → Int32 → Int32 → Int32 → th_St → Prop) (x1 : Int32) (x2 : Int32) (x3 : Int32) (x5 : Int32) (x6 : Int32) (x7 : Int32) (x8 : Int32) (u : th_St) : Prop :=
  M_change x7 x6 u (fun r_2 u_1 => M_plain r_2 u_1 (fun r_4 u_3 => (vp_in (((48 : Int32) * x6) + x7) 1920 ∧ ∀ u_5 : th_St, u_5 = th_sa u_3 57 (upd (u_3.2.2.1 57) ((((48 : Int32) * x6) + x7)).toNatClampNeg (x8 + r_4)) → ∀ x7_6 : Int32, x7_6 = x7 + (1 : Int32) → k71 x1 x2 x3 x5 x6 x7_6 u_5)))
set_option maxHeartbeats 4000000 in
set_option maxRecDepth 100000 in
theorem M_walk_152_w {K : Int32 → th_St → Prop} {k62 : Int32 → Int32 → Int32 → Int32 → Int32 → th_St → Prop} {k71 : Int32 → Int32 → Int32 → Int32 → Int32 → Int32 → th_St → Prop} (C : th_Cx p s m args meth c cX12_walk RX12 10 (some .int) (dC, dI) (th_ty cs) th_E0 A) (hk62 : ∀ (x1 : Int32) (x2 : Int32) (x3 : Int32) (x5 : Int32) (x6 : Int32) (u : th_St) (H : Heap) (locs : List Loc) (ls : Array Slot), k62 x1 x2 x3 x5 x6 u → th_wI (dC, dI) (wM cs q) A s.heap u H locs → lv_has ls 10 [(0, .ref (q 0)), (1, .int x1), (2, .int x2), (3, .int x3), (5, .int x5), (6, .int x6)] → W p l e (th_rm 3 0 0) s m args below meth c H locs 0 0 (MQ below (va_Qi K (th_Post (dC, dI) (wM cs q) A) A) args s 0 0 A) (F0 m 62 ls [])) (hk71 : ∀ (x1 : Int32) (x2 : Int32) (x3 : Int32) (x5 : Int32) (x6 : Int32) (x7 : Int32) (u : th_St) (H : Heap) (locs : List Loc) (ls : Array Slot), k71 x1 x2 x3 x5 x6 x7 u → th_wI (dC, dI) (wM cs q) A s.heap u H locs → lv_has ls 10 [(0, .ref (q 0)), (1, .int x1), (2, .int x2), (3, .int x3), (5, .int x5), (6, .int x6), (7, .int x7)] → W p l e (th_rm 3 0 0) s m args below meth c H locs 0 0 (MQ below (va_Qi K (th_Post (dC, dI) (wM cs q) A) A) args s 0 0 A) (F0 m 71 ls [])) (x1 : Int32) (x2 : Int32) (x3 : Int32) (x5 : Int32) (x6 : Int32) (x7 : Int32) (x8 : Int32) (u : th_St) (H : Heap) (locs : List Loc) (ls : Array Slot) (hf : M_walk_152 K k62 k71 x1 x2 x3 x5 x6 x7 x8 u) (hw : th_wI (dC, dI) (wM cs q) A s.heap u H locs) (hl : lv_has ls 10 [(0, .ref (q 0)), (1, .int x1), (2, .int x2), (3, .int x3), (5, .int x5), (6, .int x6), (7, .int x7), (8, .int x8)]) : W p l e (th_rm 3 0 0) s m args below meth c H locs 0 0 (MQ below (va_Qi K (th_Post (dC, dI) (wM cs q) A) A) args s 0 0 A) (F0 m 152 ls []) := by
  have hx := C.1
  have hb := C.2.1
  unfold M_walk_152 at hf
  refine lv_aload_n hx hb dX12_walk_152 rfl (lv_at hl 0 rfl) ?_
  refine mg_57 C hw dX12_walk_153 ?_
  refine lv_bipush (v := (48 : Int32)) hx hb dX12_walk_156 (by decide) ?_
  refine lv_iload hx hb dX12_walk_158 (lv_at hl 5 rfl) ?_
  refine lv_imul hx hb dX12_walk_160 ?_
  refine lv_iload hx hb dX12_walk_161 (lv_at hl 6 rfl) ?_
  refine lv_iadd hx hb dX12_walk_163 ?_
  refine lv_iload hx hb dX12_walk_164 (lv_at hl 7 rfl) ?_
  refine lv_aload_n hx hb dX12_walk_166 rfl (lv_at hl 0 rfl) ?_
  refine lv_iload hx hb dX12_walk_167 (lv_at hl 6 rfl) ?_
  refine lv_iload hx hb dX12_walk_169 (lv_at hl 5 rfl) ?_
  refine th_callVi (As := [.int x7, .int x6]) (rest := [.int x8, .int (((48 : Int32) * x6) + x7), .ref (q 57)]) C lkX12_347 (M_change_c hf) hw (mRc C hw) rfl rfl ⟨Nat.le_of_ble_eq_true rfl, Nat.le_of_ble_eq_true rfl⟩ hl.1 (Nat.le_of_ble_eq_true rfl) ⟨Nat.le_refl _, Nat.le_refl _⟩ dX12_walk_171 (fun r_2 u_1 H locs hf hw => ?_)
  refine th_callSi (As := [.int r_2]) (rest := [.int x8, .int (((48 : Int32) * x6) + x7), .ref (q 57)]) C lkX12_334 (M_plain_c hf) hw rfl rfl ⟨Nat.le_of_ble_eq_true rfl, Nat.le_of_ble_eq_true rfl⟩ hl.1 (Nat.le_of_ble_eq_true rfl) ⟨Nat.le_refl _, Nat.le_refl _⟩ dX12_walk_174 (fun r_4 u_3 H locs hf hw => ?_)
  refine lv_iadd hx hb dX12_walk_177 ?_
  refine ms_57 C hw hf.1 dX12_walk_178 (fun u_5 e9 H locs hw => ?_)
  replace hf := hf.2 u_5 e9
  clear e9
  obtain ⟨x7_6, e9⟩ : ∃ y : Int32, y = x7 + (1 : Int32) := ⟨_, rfl⟩
  replace hf := hf x7_6 e9
  refine lv_iinc (v := x7_6) (lv' := [(7, .int x7_6), (0, .ref (q 0)), (1, .int x1), (2, .int x2), (3, .int x3), (5, .int x5), (6, .int x6), (8, .int x8)]) hx hb dX12_walk_179 hl (k := 6) rfl (by rw [e9]; rfl) (by decide) rfl (fun ls hl => ?_)
  clear e9
  refine lv_goto (tgt := 71) hx hb dX12_walk_182 (by decide) ?_
  exact hk71 x1 x2 x3 x5 x6 x7_6 u_5 _ _ _ hf hw (lv_sub hl [1, 2, 3, 4, 5, 6, 0] rfl)
def M_walk_84 (K : Int32 → th_St → Prop) (k62 : Int32 → Int32 → Int32 → Int32 → Int32 → th_St → Prop) (k71 : Int32 → Int32 → Int32 → Int32 → Int32 → Int32 → th_St → Prop) (k84 : Int32 → Int32 → Int32 → Int32 → Int32 → Int32 → Int32 → Int32 → th_St → Prop) (x1 : Int32) (x2 : Int32) (x3 : Int32) (x5 : Int32) (x6 : Int32) (x7 : Int32) (x8 : Int32) (x9 : Int32) (u : th_St) : Prop :=
  ((x5 ≤ x9 → M_walk_152 K k62 k71 x1 x2 x3 x5 x6 x7 x8 u) ∧ (¬ x5 ≤ x9 → ((x2 ≤ x6 → M_walk_152 K k62 k71 x1 x2 x3 x5 x6 x7 x8 u) ∧ (¬ x2 ≤ x6 → M_plain (x7 - x9) u (fun r_2 u_1 => ((x3 < r_2 → M_walk_146 K k62 k71 k84 x1 x2 x3 x5 x6 x7 x8 x9 u_1) ∧ (¬ x3 < r_2 → (vp_in (((48 : Int32) * (x6 + (1 : Int32))) + x9) 1920 ∧ ∀ y_3 : Int32, y_3 = u_1.2.2.1 57 ((((48 : Int32) * (x6 + (1 : Int32))) + x9)).toNatClampNeg → ((y_3 ≤ x8 → M_walk_146 K k62 k71 k84 x1 x2 x3 x5 x6 x7 x8 x9 u_1) ∧ (¬ y_3 ≤ x8 → (vp_in (((48 : Int32) * (x6 + (1 : Int32))) + x9) 1920 ∧ ∀ y_4 : Int32, y_4 = u_1.2.2.1 57 ((((48 : Int32) * (x6 + (1 : Int32))) + x9)).toNatClampNeg → M_walk_146 K k62 k71 k84 x1 x2 x3 x5 x6 x7 y_4 x9 u_1)))))))))))
set_option maxHeartbeats 4000000 in
set_option maxRecDepth 100000 in
theorem M_walk_84_w {K : Int32 → th_St → Prop} {k62 : Int32 → Int32 → Int32 → Int32 → Int32 → th_St → Prop} {k71 : Int32 → Int32 → Int32 → Int32 → Int32 → Int32 → th_St → Prop} {k84 : Int32 → Int32 → Int32 → Int32 → Int32 → Int32 → Int32 → Int32 → th_St → Prop} (C : th_Cx p s m args meth c cX12_walk RX12 10 (some .int) (dC, dI) (th_ty cs) th_E0 A) (hk62 : ∀ (x1 : Int32) (x2 : Int32) (x3 : Int32) (x5 : Int32) (x6 : Int32) (u : th_St) (H : Heap) (locs : List Loc) (ls : Array Slot), k62 x1 x2 x3 x5 x6 u → th_wI (dC, dI) (wM cs q) A s.heap u H locs → lv_has ls 10 [(0, .ref (q 0)), (1, .int x1), (2, .int x2), (3, .int x3), (5, .int x5), (6, .int x6)] → W p l e (th_rm 3 0 0) s m args below meth c H locs 0 0 (MQ below (va_Qi K (th_Post (dC, dI) (wM cs q) A) A) args s 0 0 A) (F0 m 62 ls [])) (hk71 : ∀ (x1 : Int32) (x2 : Int32) (x3 : Int32) (x5 : Int32) (x6 : Int32) (x7 : Int32) (u : th_St) (H : Heap) (locs : List Loc) (ls : Array Slot), k71 x1 x2 x3 x5 x6 x7 u → th_wI (dC, dI) (wM cs q) A s.heap u H locs → lv_has ls 10 [(0, .ref (q 0)), (1, .int x1), (2, .int x2), (3, .int x3), (5, .int x5), (6, .int x6), (7, .int x7)] → W p l e (th_rm 3 0 0) s m args below meth c H locs 0 0 (MQ below (va_Qi K (th_Post (dC, dI) (wM cs q) A) A) args s 0 0 A) (F0 m 71 ls [])) (hk84 : ∀ (x1 : Int32) (x2 : Int32) (x3 : Int32) (x5 : Int32) (x6 : Int32) (x7 : Int32) (x8 : Int32) (x9 : Int32) (u : th_St) (H : Heap) (locs : List Loc) (ls : Array Slot), k84 x1 x2 x3 x5 x6 x7 x8 x9 u → th_wI (dC, dI) (wM cs q) A s.heap u H locs → lv_has ls 10 [(0, .ref (q 0)), (1, .int x1), (2, .int x2), (3, .int x3), (5, .int x5), (6, .int x6), (7, .int x7), (8, .int x8), (9, .int x9)] → W p l e (th_rm 3 0 0) s m args below meth c H locs 0 0 (MQ below (va_Qi K (th_Post (dC, dI) (wM cs q) A) A) args s 0 0 A) (F0 m 84 ls [])) (x1 : Int32) (x2 : Int32) (x3 : Int32) (x5 : Int32) (x6 : Int32) (x7 : Int32) (x8 : Int32) (x9 : Int32) (u : th_St) (H : Heap) (locs : List Loc) (ls : Array Slot) (hf : M_walk_84 K k62 k71 k84 x1 x2 x3 x5 x6 x7 x8 x9 u) (hw : th_wI (dC, dI) (wM cs q) A s.heap u H locs) (hl : lv_has ls 10 [(0, .ref (q 0)), (1, .int x1), (2, .int x2), (3, .int x3), (5, .int x5), (6, .int x6), (7, .int x7), (8, .int x8), (9, .int x9)]) : W p l e (th_rm 3 0 0) s m args below meth c H locs 0 0 (MQ below (va_Qi K (th_Post (dC, dI) (wM cs q) A) A) args s 0 0 A) (F0 m 84 ls []) := by
  have hx := C.1
  have hb := C.2.1
  unfold M_walk_84 at hf
  refine lv_iload hx hb dX12_walk_84 (lv_at hl 8 rfl) ?_
  refine lv_iload hx hb dX12_walk_86 (lv_at hl 4 rfl) ?_
  refine lv_icmp_ge (tgt := 152) hx hb dX12_walk_88 (by decide) (fun hc => ?_) (fun hc => ?_)
  · replace hf := hf.1 hc
    clear hc
    exact M_walk_152_w C hk62 hk71 x1 x2 x3 x5 x6 x7 x8 u _ _ _ hf hw (lv_sub hl [0, 1, 2, 3, 4, 5, 6, 7] rfl)
  · replace hf := hf.2 hc
    clear hc
    refine lv_iload hx hb dX12_walk_91 (lv_at hl 5 rfl) ?_
    refine lv_iload_n hx hb dX12_walk_93 rfl (lv_at hl 2 rfl) ?_
    refine lv_icmp_ge (tgt := 152) hx hb dX12_walk_94 (by decide) (fun hc => ?_) (fun hc => ?_)
    · replace hf := hf.1 hc
      clear hc
      exact M_walk_152_w C hk62 hk71 x1 x2 x3 x5 x6 x7 x8 u _ _ _ hf hw (lv_sub hl [0, 1, 2, 3, 4, 5, 6, 7] rfl)
    · replace hf := hf.2 hc
      clear hc
      refine lv_iload hx hb dX12_walk_97 (lv_at hl 6 rfl) ?_
      refine lv_iload hx hb dX12_walk_99 (lv_at hl 8 rfl) ?_
      refine lv_isub hx hb dX12_walk_101 ?_
      refine th_callSi (As := [.int (x7 - x9)]) (rest := []) C lkX12_334 (M_plain_c hf) hw rfl rfl ⟨Nat.le_of_ble_eq_true rfl, Nat.le_of_ble_eq_true rfl⟩ hl.1 (Nat.le_of_ble_eq_true rfl) ⟨Nat.le_refl _, Nat.le_refl _⟩ dX12_walk_102 (fun r_2 u_1 H locs hf hw => ?_)
      refine lv_iload_n hx hb dX12_walk_105 rfl (lv_at hl 3 rfl) ?_
      refine lv_icmp_gt (tgt := 146) hx hb dX12_walk_106 (by decide) (fun hc => ?_) (fun hc => ?_)
      · replace hf := hf.1 hc
        clear hc
        exact M_walk_146_w C hk62 hk71 hk84 x1 x2 x3 x5 x6 x7 x8 x9 u_1 _ _ _ hf hw (lv_sub hl [0, 1, 2, 3, 4, 5, 6, 7, 8] rfl)
      · replace hf := hf.2 hc
        clear hc
        refine lv_aload_n hx hb dX12_walk_109 rfl (lv_at hl 0 rfl) ?_
        refine mg_57 C hw dX12_walk_110 ?_
        refine lv_bipush (v := (48 : Int32)) hx hb dX12_walk_113 (by decide) ?_
        refine lv_iload hx hb dX12_walk_115 (lv_at hl 5 rfl) ?_
        refine lv_iconst (v := (1 : Int32)) hx hb dX12_walk_117 (by decide) ?_
        refine lv_iadd hx hb dX12_walk_118 ?_
        refine lv_imul hx hb dX12_walk_119 ?_
        refine lv_iload hx hb dX12_walk_120 (lv_at hl 8 rfl) ?_
        refine lv_iadd hx hb dX12_walk_122 ?_
        refine ml_57 C hw hf.1 dX12_walk_123 (fun y_3 e9 => ?_)
        replace hf := hf.2 y_3 e9
        clear e9
        refine lv_iload hx hb dX12_walk_124 (lv_at hl 7 rfl) ?_
        refine lv_icmp_le (tgt := 146) hx hb dX12_walk_126 (by decide) (fun hc => ?_) (fun hc => ?_)
        · replace hf := hf.1 hc
          clear hc
          exact M_walk_146_w C hk62 hk71 hk84 x1 x2 x3 x5 x6 x7 x8 x9 u_1 _ _ _ hf hw (lv_sub hl [0, 1, 2, 3, 4, 5, 6, 7, 8] rfl)
        · replace hf := hf.2 hc
          clear hc
          refine lv_aload_n hx hb dX12_walk_129 rfl (lv_at hl 0 rfl) ?_
          refine mg_57 C hw dX12_walk_130 ?_
          refine lv_bipush (v := (48 : Int32)) hx hb dX12_walk_133 (by decide) ?_
          refine lv_iload hx hb dX12_walk_135 (lv_at hl 5 rfl) ?_
          refine lv_iconst (v := (1 : Int32)) hx hb dX12_walk_137 (by decide) ?_
          refine lv_iadd hx hb dX12_walk_138 ?_
          refine lv_imul hx hb dX12_walk_139 ?_
          refine lv_iload hx hb dX12_walk_140 (lv_at hl 8 rfl) ?_
          refine lv_iadd hx hb dX12_walk_142 ?_
          refine ml_57 C hw hf.1 dX12_walk_143 (fun y_4 e9 => ?_)
          replace hf := hf.2 y_4 e9
          clear e9
          refine lv_istore (lv' := [(8, .int y_4), (0, .ref (q 0)), (1, .int x1), (2, .int x2), (3, .int x3), (5, .int x5), (6, .int x6), (7, .int x7), (9, .int x9)]) hx hb dX12_walk_144 hl (by decide) rfl (fun ls hl => ?_)
          exact M_walk_146_w C hk62 hk71 hk84 x1 x2 x3 x5 x6 x7 y_4 x9 u_1 _ _ _ hf hw (lv_sub hl [1, 2, 3, 4, 5, 6, 7, 0, 8] rfl)
def M_walk_84_lp (K : Int32 → th_St → Prop) (k62 : Int32 → Int32 → Int32 → Int32 → Int32 → th_St → Prop) (k71 : Int32 → Int32 → Int32 → Int32 → Int32 → Int32 → th_St → Prop) : Nat → Int32 → Int32 → Int32 → Int32 → Int32 → Int32 → Int32 → Int32 → th_St → Prop
  | 0, _, _, _, _, _, _, _, _, _ => False
  | n + 1, x1, x2, x3, x5, x6, x7, x8, x9, u => M_walk_84 K k62 k71 (M_walk_84_lp K k62 k71 n) x1 x2 x3 x5 x6 x7 x8 x9 u
set_option maxHeartbeats 4000000 in
set_option maxRecDepth 100000 in
theorem M_walk_84_lw {K : Int32 → th_St → Prop} {k62 : Int32 → Int32 → Int32 → Int32 → Int32 → th_St → Prop} {k71 : Int32 → Int32 → Int32 → Int32 → Int32 → Int32 → th_St → Prop} (C : th_Cx p s m args meth c cX12_walk RX12 10 (some .int) (dC, dI) (th_ty cs) th_E0 A) (hk62 : ∀ (x1 : Int32) (x2 : Int32) (x3 : Int32) (x5 : Int32) (x6 : Int32) (u : th_St) (H : Heap) (locs : List Loc) (ls : Array Slot), k62 x1 x2 x3 x5 x6 u → th_wI (dC, dI) (wM cs q) A s.heap u H locs → lv_has ls 10 [(0, .ref (q 0)), (1, .int x1), (2, .int x2), (3, .int x3), (5, .int x5), (6, .int x6)] → W p l e (th_rm 3 0 0) s m args below meth c H locs 0 0 (MQ below (va_Qi K (th_Post (dC, dI) (wM cs q) A) A) args s 0 0 A) (F0 m 62 ls [])) (hk71 : ∀ (x1 : Int32) (x2 : Int32) (x3 : Int32) (x5 : Int32) (x6 : Int32) (x7 : Int32) (u : th_St) (H : Heap) (locs : List Loc) (ls : Array Slot), k71 x1 x2 x3 x5 x6 x7 u → th_wI (dC, dI) (wM cs q) A s.heap u H locs → lv_has ls 10 [(0, .ref (q 0)), (1, .int x1), (2, .int x2), (3, .int x3), (5, .int x5), (6, .int x6), (7, .int x7)] → W p l e (th_rm 3 0 0) s m args below meth c H locs 0 0 (MQ below (va_Qi K (th_Post (dC, dI) (wM cs q) A) A) args s 0 0 A) (F0 m 71 ls [])) (n : Nat) : ∀ (x1 : Int32) (x2 : Int32) (x3 : Int32) (x5 : Int32) (x6 : Int32) (x7 : Int32) (x8 : Int32) (x9 : Int32) (u : th_St) (H : Heap) (locs : List Loc) (ls : Array Slot), M_walk_84_lp K k62 k71 n x1 x2 x3 x5 x6 x7 x8 x9 u → th_wI (dC, dI) (wM cs q) A s.heap u H locs → lv_has ls 10 [(0, .ref (q 0)), (1, .int x1), (2, .int x2), (3, .int x3), (5, .int x5), (6, .int x6), (7, .int x7), (8, .int x8), (9, .int x9)] → W p l e (th_rm 3 0 0) s m args below meth c H locs 0 0 (MQ below (va_Qi K (th_Post (dC, dI) (wM cs q) A) A) args s 0 0 A) (F0 m 84 ls []) := by
  induction n with
  | zero => intro x1 x2 x3 x5 x6 x7 x8 x9 u H locs ls hf; exact hf.elim
  | succ n ih =>
    intro x1 x2 x3 x5 x6 x7 x8 x9 u H locs ls hf hw hl
    exact M_walk_84_w C hk62 hk71 ih x1 x2 x3 x5 x6 x7 x8 x9 u H locs ls hf hw hl
def M_walk_71 (K : Int32 → th_St → Prop) (k62 : Int32 → Int32 → Int32 → Int32 → Int32 → th_St → Prop) (k71 : Int32 → Int32 → Int32 → Int32 → Int32 → Int32 → th_St → Prop) (x1 : Int32) (x2 : Int32) (x3 : Int32) (x5 : Int32) (x6 : Int32) (x7 : Int32) (u : th_St) : Prop :=
  ((x5 ≤ x7 → ∀ x6_1 : Int32, x6_1 = x6 + (-1 : Int32) → k62 x1 x2 x3 x5 x6_1 u) ∧ (¬ x5 ≤ x7 → ∃ n, M_walk_84_lp K k62 k71 n x1 x2 x3 x5 x6 x7 (0 : Int32) (0 : Int32) u))
set_option maxHeartbeats 4000000 in
set_option maxRecDepth 100000 in
theorem M_walk_71_w {K : Int32 → th_St → Prop} {k62 : Int32 → Int32 → Int32 → Int32 → Int32 → th_St → Prop} {k71 : Int32 → Int32 → Int32 → Int32 → Int32 → Int32 → th_St → Prop} (C : th_Cx p s m args meth c cX12_walk RX12 10 (some .int) (dC, dI) (th_ty cs) th_E0 A) (hk62 : ∀ (x1 : Int32) (x2 : Int32) (x3 : Int32) (x5 : Int32) (x6 : Int32) (u : th_St) (H : Heap) (locs : List Loc) (ls : Array Slot), k62 x1 x2 x3 x5 x6 u → th_wI (dC, dI) (wM cs q) A s.heap u H locs → lv_has ls 10 [(0, .ref (q 0)), (1, .int x1), (2, .int x2), (3, .int x3), (5, .int x5), (6, .int x6)] → W p l e (th_rm 3 0 0) s m args below meth c H locs 0 0 (MQ below (va_Qi K (th_Post (dC, dI) (wM cs q) A) A) args s 0 0 A) (F0 m 62 ls [])) (hk71 : ∀ (x1 : Int32) (x2 : Int32) (x3 : Int32) (x5 : Int32) (x6 : Int32) (x7 : Int32) (u : th_St) (H : Heap) (locs : List Loc) (ls : Array Slot), k71 x1 x2 x3 x5 x6 x7 u → th_wI (dC, dI) (wM cs q) A s.heap u H locs → lv_has ls 10 [(0, .ref (q 0)), (1, .int x1), (2, .int x2), (3, .int x3), (5, .int x5), (6, .int x6), (7, .int x7)] → W p l e (th_rm 3 0 0) s m args below meth c H locs 0 0 (MQ below (va_Qi K (th_Post (dC, dI) (wM cs q) A) A) args s 0 0 A) (F0 m 71 ls [])) (x1 : Int32) (x2 : Int32) (x3 : Int32) (x5 : Int32) (x6 : Int32) (x7 : Int32) (u : th_St) (H : Heap) (locs : List Loc) (ls : Array Slot) (hf : M_walk_71 K k62 k71 x1 x2 x3 x5 x6 x7 u) (hw : th_wI (dC, dI) (wM cs q) A s.heap u H locs) (hl : lv_has ls 10 [(0, .ref (q 0)), (1, .int x1), (2, .int x2), (3, .int x3), (5, .int x5), (6, .int x6), (7, .int x7)]) : W p l e (th_rm 3 0 0) s m args below meth c H locs 0 0 (MQ below (va_Qi K (th_Post (dC, dI) (wM cs q) A) A) args s 0 0 A) (F0 m 71 ls []) := by
  have hx := C.1
  have hb := C.2.1
  unfold M_walk_71 at hf
  refine lv_iload hx hb dX12_walk_71 (lv_at hl 6 rfl) ?_
  refine lv_iload hx hb dX12_walk_73 (lv_at hl 4 rfl) ?_
  refine lv_icmp_ge (tgt := 185) hx hb dX12_walk_75 (by decide) (fun hc => ?_) (fun hc => ?_)
  · replace hf := hf.1 hc
    clear hc
    obtain ⟨x6_1, e9⟩ : ∃ y : Int32, y = x6 + (-1 : Int32) := ⟨_, rfl⟩
    replace hf := hf x6_1 e9
    refine lv_iinc (v := x6_1) (lv' := [(6, .int x6_1), (0, .ref (q 0)), (1, .int x1), (2, .int x2), (3, .int x3), (5, .int x5), (7, .int x7)]) hx hb dX12_walk_185 hl (k := 5) rfl (by rw [e9]; rfl) (by decide) rfl (fun ls hl => ?_)
    clear e9
    refine lv_goto (tgt := 62) hx hb dX12_walk_188 (by decide) ?_
    exact hk62 x1 x2 x3 x5 x6_1 u _ _ _ hf hw (lv_sub hl [1, 2, 3, 4, 5, 0] rfl)
  · replace hf := hf.2 hc
    clear hc
    refine lv_iconst (v := (0 : Int32)) hx hb dX12_walk_78 (by decide) ?_
    refine lv_istore (lv' := [(8, .int (0 : Int32)), (0, .ref (q 0)), (1, .int x1), (2, .int x2), (3, .int x3), (5, .int x5), (6, .int x6), (7, .int x7)]) hx hb dX12_walk_79 hl (by decide) rfl (fun ls hl => ?_)
    refine lv_iconst (v := (0 : Int32)) hx hb dX12_walk_81 (by decide) ?_
    refine lv_istore (lv' := [(9, .int (0 : Int32)), (8, .int (0 : Int32)), (0, .ref (q 0)), (1, .int x1), (2, .int x2), (3, .int x3), (5, .int x5), (6, .int x6), (7, .int x7)]) hx hb dX12_walk_82 hl (by decide) rfl (fun ls hl => ?_)
    obtain ⟨n, hf⟩ := hf
    exact M_walk_84_lw C hk62 hk71 n x1 x2 x3 x5 x6 x7 (0 : Int32) (0 : Int32) u _ _ _ hf hw (lv_sub hl [2, 3, 4, 5, 6, 7, 8, 1, 0] rfl)
def M_walk_71_lp (K : Int32 → th_St → Prop) (k62 : Int32 → Int32 → Int32 → Int32 → Int32 → th_St → Prop) : Nat → Int32 → Int32 → Int32 → Int32 → Int32 → Int32 → th_St → Prop
  | 0, _, _, _, _, _, _, _ => False
  | n + 1, x1, x2, x3, x5, x6, x7, u => M_walk_71 K k62 (M_walk_71_lp K k62 n) x1 x2 x3 x5 x6 x7 u
set_option maxHeartbeats 4000000 in
set_option maxRecDepth 100000 in
theorem M_walk_71_lw {K : Int32 → th_St → Prop} {k62 : Int32 → Int32 → Int32 → Int32 → Int32 → th_St → Prop} (C : th_Cx p s m args meth c cX12_walk RX12 10 (some .int) (dC, dI) (th_ty cs) th_E0 A) (hk62 : ∀ (x1 : Int32) (x2 : Int32) (x3 : Int32) (x5 : Int32) (x6 : Int32) (u : th_St) (H : Heap) (locs : List Loc) (ls : Array Slot), k62 x1 x2 x3 x5 x6 u → th_wI (dC, dI) (wM cs q) A s.heap u H locs → lv_has ls 10 [(0, .ref (q 0)), (1, .int x1), (2, .int x2), (3, .int x3), (5, .int x5), (6, .int x6)] → W p l e (th_rm 3 0 0) s m args below meth c H locs 0 0 (MQ below (va_Qi K (th_Post (dC, dI) (wM cs q) A) A) args s 0 0 A) (F0 m 62 ls [])) (n : Nat) : ∀ (x1 : Int32) (x2 : Int32) (x3 : Int32) (x5 : Int32) (x6 : Int32) (x7 : Int32) (u : th_St) (H : Heap) (locs : List Loc) (ls : Array Slot), M_walk_71_lp K k62 n x1 x2 x3 x5 x6 x7 u → th_wI (dC, dI) (wM cs q) A s.heap u H locs → lv_has ls 10 [(0, .ref (q 0)), (1, .int x1), (2, .int x2), (3, .int x3), (5, .int x5), (6, .int x6), (7, .int x7)] → W p l e (th_rm 3 0 0) s m args below meth c H locs 0 0 (MQ below (va_Qi K (th_Post (dC, dI) (wM cs q) A) A) args s 0 0 A) (F0 m 71 ls []) := by
  induction n with
  | zero => intro x1 x2 x3 x5 x6 x7 u H locs ls hf; exact hf.elim
  | succ n ih =>
    intro x1 x2 x3 x5 x6 x7 u H locs ls hf hw hl
    exact M_walk_71_w C hk62 ih x1 x2 x3 x5 x6 x7 u H locs ls hf hw hl
def M_walk_287 (K : Int32 → th_St → Prop) (k203 : Int32 → Int32 → Int32 → Int32 → Int32 → th_St → Prop) (k215 : Int32 → Int32 → Int32 → Int32 → Int32 → Int32 → Int32 → th_St → Prop) (x1 : Int32) (x2 : Int32) (x3 : Int32) (x5 : Int32) (x6 : Int32) (x7 : Int32) (x8 : Int32) (u : th_St) : Prop :=
  ∀ x8_1 : Int32, x8_1 = x8 + (1 : Int32) → k215 x1 x2 x3 x5 x6 x7 x8_1 u
set_option maxHeartbeats 4000000 in
set_option maxRecDepth 100000 in
theorem M_walk_287_w {K : Int32 → th_St → Prop} {k203 : Int32 → Int32 → Int32 → Int32 → Int32 → th_St → Prop} {k215 : Int32 → Int32 → Int32 → Int32 → Int32 → Int32 → Int32 → th_St → Prop} (C : th_Cx p s m args meth c cX12_walk RX12 10 (some .int) (dC, dI) (th_ty cs) th_E0 A) (hk203 : ∀ (x1 : Int32) (x2 : Int32) (x3 : Int32) (x5 : Int32) (x6 : Int32) (u : th_St) (H : Heap) (locs : List Loc) (ls : Array Slot), k203 x1 x2 x3 x5 x6 u → th_wI (dC, dI) (wM cs q) A s.heap u H locs → lv_has ls 10 [(0, .ref (q 0)), (1, .int x1), (2, .int x2), (3, .int x3), (5, .int x5), (6, .int x6)] → W p l e (th_rm 3 0 0) s m args below meth c H locs 0 0 (MQ below (va_Qi K (th_Post (dC, dI) (wM cs q) A) A) args s 0 0 A) (F0 m 203 ls [])) (hk215 : ∀ (x1 : Int32) (x2 : Int32) (x3 : Int32) (x5 : Int32) (x6 : Int32) (x7 : Int32) (x8 : Int32) (u : th_St) (H : Heap) (locs : List Loc) (ls : Array Slot), k215 x1 x2 x3 x5 x6 x7 x8 u → th_wI (dC, dI) (wM cs q) A s.heap u H locs → lv_has ls 10 [(0, .ref (q 0)), (1, .int x1), (2, .int x2), (3, .int x3), (5, .int x5), (6, .int x6), (7, .int x7), (8, .int x8)] → W p l e (th_rm 3 0 0) s m args below meth c H locs 0 0 (MQ below (va_Qi K (th_Post (dC, dI) (wM cs q) A) A) args s 0 0 A) (F0 m 215 ls [])) (x1 : Int32) (x2 : Int32) (x3 : Int32) (x5 : Int32) (x6 : Int32) (x7 : Int32) (x8 : Int32) (u : th_St) (H : Heap) (locs : List Loc) (ls : Array Slot) (hf : M_walk_287 K k203 k215 x1 x2 x3 x5 x6 x7 x8 u) (hw : th_wI (dC, dI) (wM cs q) A s.heap u H locs) (hl : lv_has ls 10 [(0, .ref (q 0)), (1, .int x1), (2, .int x2), (3, .int x3), (5, .int x5), (6, .int x6), (7, .int x7), (8, .int x8)]) : W p l e (th_rm 3 0 0) s m args below meth c H locs 0 0 (MQ below (va_Qi K (th_Post (dC, dI) (wM cs q) A) A) args s 0 0 A) (F0 m 287 ls []) := by
  have hx := C.1
  have hb := C.2.1
  unfold M_walk_287 at hf
  obtain ⟨x8_1, e9⟩ : ∃ y : Int32, y = x8 + (1 : Int32) := ⟨_, rfl⟩
  replace hf := hf x8_1 e9
  refine lv_iinc (v := x8_1) (lv' := [(8, .int x8_1), (0, .ref (q 0)), (1, .int x1), (2, .int x2), (3, .int x3), (5, .int x5), (6, .int x6), (7, .int x7)]) hx hb dX12_walk_287 hl (k := 7) rfl (by rw [e9]; rfl) (by decide) rfl (fun ls hl => ?_)
  clear e9
  refine lv_goto (tgt := 215) hx hb dX12_walk_290 (by decide) ?_
  exact hk215 x1 x2 x3 x5 x6 x7 x8_1 u _ _ _ hf hw (lv_sub hl [1, 2, 3, 4, 5, 6, 7, 0] rfl)
def M_walk_283 (K : Int32 → th_St → Prop) (k203 : Int32 → Int32 → Int32 → Int32 → Int32 → th_St → Prop) (k215 : Int32 → Int32 → Int32 → Int32 → Int32 → Int32 → Int32 → th_St → Prop) (x1 : Int32) (x2 : Int32) (x3 : Int32) (x5 : Int32) (x6 : Int32) (x8 : Int32) (u : th_St) : Prop :=
  M_walk_287 K k203 k215 x1 x2 x3 x5 x6 x8 x8 u
set_option maxHeartbeats 4000000 in
set_option maxRecDepth 100000 in
theorem M_walk_283_w {K : Int32 → th_St → Prop} {k203 : Int32 → Int32 → Int32 → Int32 → Int32 → th_St → Prop} {k215 : Int32 → Int32 → Int32 → Int32 → Int32 → Int32 → Int32 → th_St → Prop} (C : th_Cx p s m args meth c cX12_walk RX12 10 (some .int) (dC, dI) (th_ty cs) th_E0 A) (hk203 : ∀ (x1 : Int32) (x2 : Int32) (x3 : Int32) (x5 : Int32) (x6 : Int32) (u : th_St) (H : Heap) (locs : List Loc) (ls : Array Slot), k203 x1 x2 x3 x5 x6 u → th_wI (dC, dI) (wM cs q) A s.heap u H locs → lv_has ls 10 [(0, .ref (q 0)), (1, .int x1), (2, .int x2), (3, .int x3), (5, .int x5), (6, .int x6)] → W p l e (th_rm 3 0 0) s m args below meth c H locs 0 0 (MQ below (va_Qi K (th_Post (dC, dI) (wM cs q) A) A) args s 0 0 A) (F0 m 203 ls [])) (hk215 : ∀ (x1 : Int32) (x2 : Int32) (x3 : Int32) (x5 : Int32) (x6 : Int32) (x7 : Int32) (x8 : Int32) (u : th_St) (H : Heap) (locs : List Loc) (ls : Array Slot), k215 x1 x2 x3 x5 x6 x7 x8 u → th_wI (dC, dI) (wM cs q) A s.heap u H locs → lv_has ls 10 [(0, .ref (q 0)), (1, .int x1), (2, .int x2), (3, .int x3), (5, .int x5), (6, .int x6), (7, .int x7), (8, .int x8)] → W p l e (th_rm 3 0 0) s m args below meth c H locs 0 0 (MQ below (va_Qi K (th_Post (dC, dI) (wM cs q) A) A) args s 0 0 A) (F0 m 215 ls [])) (x1 : Int32) (x2 : Int32) (x3 : Int32) (x5 : Int32) (x6 : Int32) (x8 : Int32) (u : th_St) (H : Heap) (locs : List Loc) (ls : Array Slot) (hf : M_walk_283 K k203 k215 x1 x2 x3 x5 x6 x8 u) (hw : th_wI (dC, dI) (wM cs q) A s.heap u H locs) (hl : lv_has ls 10 [(0, .ref (q 0)), (1, .int x1), (2, .int x2), (3, .int x3), (5, .int x5), (6, .int x6), (8, .int x8)]) : W p l e (th_rm 3 0 0) s m args below meth c H locs 0 0 (MQ below (va_Qi K (th_Post (dC, dI) (wM cs q) A) A) args s 0 0 A) (F0 m 283 ls []) := by
  have hx := C.1
  have hb := C.2.1
  unfold M_walk_283 at hf
  refine lv_iload hx hb dX12_walk_283 (lv_at hl 6 rfl) ?_
  refine lv_istore (lv' := [(7, .int x8), (0, .ref (q 0)), (1, .int x1), (2, .int x2), (3, .int x3), (5, .int x5), (6, .int x6), (8, .int x8)]) hx hb dX12_walk_285 hl (by decide) rfl (fun ls hl => ?_)
  exact M_walk_287_w C hk203 hk215 x1 x2 x3 x5 x6 x8 x8 u _ _ _ hf hw (lv_sub hl [1, 2, 3, 4, 5, 6, 0, 7] rfl)
def M_walk_249 (K : Int32 → th_St → Prop) (k203 : Int32 → Int32 → Int32 → Int32 → Int32 → th_St → Prop) (k215 : Int32 → Int32 → Int32 → Int32 → Int32 → Int32 → Int32 → th_St → Prop) (x1 : Int32) (x2 : Int32) (x3 : Int32) (x5 : Int32) (x6 : Int32) (x7 : Int32) (x8 : Int32) (u : th_St) : Prop :=
  ((x7 < 0 → M_walk_283 K k203 k215 x1 x2 x3 x5 x6 x8 u) ∧ (¬ x7 < 0 → (vp_in (((48 : Int32) * x6) + x8) 1920 ∧ ∀ y_1 : Int32, y_1 = u.2.2.1 57 ((((48 : Int32) * x6) + x8)).toNatClampNeg → (vp_in (((48 : Int32) * x6) + x7) 1920 ∧ ∀ y_2 : Int32, y_2 = u.2.2.1 57 ((((48 : Int32) * x6) + x7)).toNatClampNeg → ((y_1 ≤ y_2 → M_walk_287 K k203 k215 x1 x2 x3 x5 x6 x7 x8 u) ∧ (¬ y_1 ≤ y_2 → M_walk_283 K k203 k215 x1 x2 x3 x5 x6 x8 u))))))
set_option maxHeartbeats 4000000 in
set_option maxRecDepth 100000 in
theorem M_walk_249_w {K : Int32 → th_St → Prop} {k203 : Int32 → Int32 → Int32 → Int32 → Int32 → th_St → Prop} {k215 : Int32 → Int32 → Int32 → Int32 → Int32 → Int32 → Int32 → th_St → Prop} (C : th_Cx p s m args meth c cX12_walk RX12 10 (some .int) (dC, dI) (th_ty cs) th_E0 A) (hk203 : ∀ (x1 : Int32) (x2 : Int32) (x3 : Int32) (x5 : Int32) (x6 : Int32) (u : th_St) (H : Heap) (locs : List Loc) (ls : Array Slot), k203 x1 x2 x3 x5 x6 u → th_wI (dC, dI) (wM cs q) A s.heap u H locs → lv_has ls 10 [(0, .ref (q 0)), (1, .int x1), (2, .int x2), (3, .int x3), (5, .int x5), (6, .int x6)] → W p l e (th_rm 3 0 0) s m args below meth c H locs 0 0 (MQ below (va_Qi K (th_Post (dC, dI) (wM cs q) A) A) args s 0 0 A) (F0 m 203 ls [])) (hk215 : ∀ (x1 : Int32) (x2 : Int32) (x3 : Int32) (x5 : Int32) (x6 : Int32) (x7 : Int32) (x8 : Int32) (u : th_St) (H : Heap) (locs : List Loc) (ls : Array Slot), k215 x1 x2 x3 x5 x6 x7 x8 u → th_wI (dC, dI) (wM cs q) A s.heap u H locs → lv_has ls 10 [(0, .ref (q 0)), (1, .int x1), (2, .int x2), (3, .int x3), (5, .int x5), (6, .int x6), (7, .int x7), (8, .int x8)] → W p l e (th_rm 3 0 0) s m args below meth c H locs 0 0 (MQ below (va_Qi K (th_Post (dC, dI) (wM cs q) A) A) args s 0 0 A) (F0 m 215 ls [])) (x1 : Int32) (x2 : Int32) (x3 : Int32) (x5 : Int32) (x6 : Int32) (x7 : Int32) (x8 : Int32) (u : th_St) (H : Heap) (locs : List Loc) (ls : Array Slot) (hf : M_walk_249 K k203 k215 x1 x2 x3 x5 x6 x7 x8 u) (hw : th_wI (dC, dI) (wM cs q) A s.heap u H locs) (hl : lv_has ls 10 [(0, .ref (q 0)), (1, .int x1), (2, .int x2), (3, .int x3), (5, .int x5), (6, .int x6), (7, .int x7), (8, .int x8)]) : W p l e (th_rm 3 0 0) s m args below meth c H locs 0 0 (MQ below (va_Qi K (th_Post (dC, dI) (wM cs q) A) A) args s 0 0 A) (F0 m 249 ls []) := by
  have hx := C.1
  have hb := C.2.1
  unfold M_walk_249 at hf
  refine lv_iload hx hb dX12_walk_249 (lv_at hl 6 rfl) ?_
  refine lv_if_lt (tgt := 283) hx hb dX12_walk_251 (by decide) (fun hc => ?_) (fun hc => ?_)
  · replace hf := hf.1 hc
    clear hc
    exact M_walk_283_w C hk203 hk215 x1 x2 x3 x5 x6 x8 u _ _ _ hf hw (lv_sub hl [0, 1, 2, 3, 4, 5, 7] rfl)
  · replace hf := hf.2 hc
    clear hc
    refine lv_aload_n hx hb dX12_walk_254 rfl (lv_at hl 0 rfl) ?_
    refine mg_57 C hw dX12_walk_255 ?_
    refine lv_bipush (v := (48 : Int32)) hx hb dX12_walk_258 (by decide) ?_
    refine lv_iload hx hb dX12_walk_260 (lv_at hl 5 rfl) ?_
    refine lv_imul hx hb dX12_walk_262 ?_
    refine lv_iload hx hb dX12_walk_263 (lv_at hl 7 rfl) ?_
    refine lv_iadd hx hb dX12_walk_265 ?_
    refine ml_57 C hw hf.1 dX12_walk_266 (fun y_1 e9 => ?_)
    replace hf := hf.2 y_1 e9
    clear e9
    refine lv_aload_n hx hb dX12_walk_267 rfl (lv_at hl 0 rfl) ?_
    refine mg_57 C hw dX12_walk_268 ?_
    refine lv_bipush (v := (48 : Int32)) hx hb dX12_walk_271 (by decide) ?_
    refine lv_iload hx hb dX12_walk_273 (lv_at hl 5 rfl) ?_
    refine lv_imul hx hb dX12_walk_275 ?_
    refine lv_iload hx hb dX12_walk_276 (lv_at hl 6 rfl) ?_
    refine lv_iadd hx hb dX12_walk_278 ?_
    refine ml_57 C hw hf.1 dX12_walk_279 (fun y_2 e9 => ?_)
    replace hf := hf.2 y_2 e9
    clear e9
    refine lv_icmp_le (tgt := 287) hx hb dX12_walk_280 (by decide) (fun hc => ?_) (fun hc => ?_)
    · replace hf := hf.1 hc
      clear hc
      exact M_walk_287_w C hk203 hk215 x1 x2 x3 x5 x6 x7 x8 u _ _ _ hf hw (lv_sub hl [0, 1, 2, 3, 4, 5, 6, 7] rfl)
    · replace hf := hf.2 hc
      clear hc
      exact M_walk_283_w C hk203 hk215 x1 x2 x3 x5 x6 x8 u _ _ _ hf hw (lv_sub hl [0, 1, 2, 3, 4, 5, 7] rfl)
def M_walk_215 (K : Int32 → th_St → Prop) (k203 : Int32 → Int32 → Int32 → Int32 → Int32 → th_St → Prop) (k215 : Int32 → Int32 → Int32 → Int32 → Int32 → Int32 → Int32 → th_St → Prop) (x1 : Int32) (x2 : Int32) (x3 : Int32) (x5 : Int32) (x6 : Int32) (x7 : Int32) (x8 : Int32) (u : th_St) : Prop :=
  ((x5 ≤ x8 → (vp_in (x6 - x1) 40 ∧ ∀ u_1 : th_St, u_1 = th_sa u 58 (upd (u.2.2.1 58) ((x6 - x1)).toNatClampNeg x7) → ∀ x6_2 : Int32, x6_2 = x6 + (1 : Int32) → k203 x1 x2 x3 x5 x6_2 u_1)) ∧ (¬ x5 ≤ x8 → ((x6 = x1 → M_walk_249 K k203 k215 x1 x2 x3 x5 x6 x7 x8 u) ∧ (¬ x6 = x1 → (vp_in ((x6 - x1) - (1 : Int32)) 40 ∧ ∀ y_3 : Int32, y_3 = u.2.2.1 58 (((x6 - x1) - (1 : Int32))).toNatClampNeg → M_plain (x8 - y_3) u (fun r_5 u_4 => ((x3 < r_5 → M_walk_287 K k203 k215 x1 x2 x3 x5 x6 x7 x8 u_4) ∧ (¬ x3 < r_5 → M_walk_249 K k203 k215 x1 x2 x3 x5 x6 x7 x8 u_4))))))))
set_option maxHeartbeats 4000000 in
set_option maxRecDepth 100000 in
theorem M_walk_215_w {K : Int32 → th_St → Prop} {k203 : Int32 → Int32 → Int32 → Int32 → Int32 → th_St → Prop} {k215 : Int32 → Int32 → Int32 → Int32 → Int32 → Int32 → Int32 → th_St → Prop} (C : th_Cx p s m args meth c cX12_walk RX12 10 (some .int) (dC, dI) (th_ty cs) th_E0 A) (hk203 : ∀ (x1 : Int32) (x2 : Int32) (x3 : Int32) (x5 : Int32) (x6 : Int32) (u : th_St) (H : Heap) (locs : List Loc) (ls : Array Slot), k203 x1 x2 x3 x5 x6 u → th_wI (dC, dI) (wM cs q) A s.heap u H locs → lv_has ls 10 [(0, .ref (q 0)), (1, .int x1), (2, .int x2), (3, .int x3), (5, .int x5), (6, .int x6)] → W p l e (th_rm 3 0 0) s m args below meth c H locs 0 0 (MQ below (va_Qi K (th_Post (dC, dI) (wM cs q) A) A) args s 0 0 A) (F0 m 203 ls [])) (hk215 : ∀ (x1 : Int32) (x2 : Int32) (x3 : Int32) (x5 : Int32) (x6 : Int32) (x7 : Int32) (x8 : Int32) (u : th_St) (H : Heap) (locs : List Loc) (ls : Array Slot), k215 x1 x2 x3 x5 x6 x7 x8 u → th_wI (dC, dI) (wM cs q) A s.heap u H locs → lv_has ls 10 [(0, .ref (q 0)), (1, .int x1), (2, .int x2), (3, .int x3), (5, .int x5), (6, .int x6), (7, .int x7), (8, .int x8)] → W p l e (th_rm 3 0 0) s m args below meth c H locs 0 0 (MQ below (va_Qi K (th_Post (dC, dI) (wM cs q) A) A) args s 0 0 A) (F0 m 215 ls [])) (x1 : Int32) (x2 : Int32) (x3 : Int32) (x5 : Int32) (x6 : Int32) (x7 : Int32) (x8 : Int32) (u : th_St) (H : Heap) (locs : List Loc) (ls : Array Slot) (hf : M_walk_215 K k203 k215 x1 x2 x3 x5 x6 x7 x8 u) (hw : th_wI (dC, dI) (wM cs q) A s.heap u H locs) (hl : lv_has ls 10 [(0, .ref (q 0)), (1, .int x1), (2, .int x2), (3, .int x3), (5, .int x5), (6, .int x6), (7, .int x7), (8, .int x8)]) : W p l e (th_rm 3 0 0) s m args below meth c H locs 0 0 (MQ below (va_Qi K (th_Post (dC, dI) (wM cs q) A) A) args s 0 0 A) (F0 m 215 ls []) := by
  have hx := C.1
  have hb := C.2.1
  unfold M_walk_215 at hf
  refine lv_iload hx hb dX12_walk_215 (lv_at hl 7 rfl) ?_
  refine lv_iload hx hb dX12_walk_217 (lv_at hl 4 rfl) ?_
  refine lv_icmp_ge (tgt := 293) hx hb dX12_walk_219 (by decide) (fun hc => ?_) (fun hc => ?_)
  · replace hf := hf.1 hc
    clear hc
    refine lv_aload_n hx hb dX12_walk_293 rfl (lv_at hl 0 rfl) ?_
    refine mg_58 C hw dX12_walk_294 ?_
    refine lv_iload hx hb dX12_walk_297 (lv_at hl 5 rfl) ?_
    refine lv_iload_n hx hb dX12_walk_299 rfl (lv_at hl 1 rfl) ?_
    refine lv_isub hx hb dX12_walk_300 ?_
    refine lv_iload hx hb dX12_walk_301 (lv_at hl 6 rfl) ?_
    refine ms_58 C hw hf.1 dX12_walk_303 (fun u_1 e9 H locs hw => ?_)
    replace hf := hf.2 u_1 e9
    clear e9
    obtain ⟨x6_2, e9⟩ : ∃ y : Int32, y = x6 + (1 : Int32) := ⟨_, rfl⟩
    replace hf := hf x6_2 e9
    refine lv_iinc (v := x6_2) (lv' := [(6, .int x6_2), (0, .ref (q 0)), (1, .int x1), (2, .int x2), (3, .int x3), (5, .int x5), (7, .int x7), (8, .int x8)]) hx hb dX12_walk_304 hl (k := 5) rfl (by rw [e9]; rfl) (by decide) rfl (fun ls hl => ?_)
    clear e9
    refine lv_goto (tgt := 203) hx hb dX12_walk_307 (by decide) ?_
    exact hk203 x1 x2 x3 x5 x6_2 u_1 _ _ _ hf hw (lv_sub hl [1, 2, 3, 4, 5, 0] rfl)
  · replace hf := hf.2 hc
    clear hc
    refine lv_iload hx hb dX12_walk_222 (lv_at hl 5 rfl) ?_
    refine lv_iload_n hx hb dX12_walk_224 rfl (lv_at hl 1 rfl) ?_
    refine lv_icmp_eq (tgt := 249) hx hb dX12_walk_225 (by decide) (fun hc => ?_) (fun hc => ?_)
    · replace hf := hf.1 hc
      clear hc
      exact M_walk_249_w C hk203 hk215 x1 x2 x3 x5 x6 x7 x8 u _ _ _ hf hw (lv_sub hl [0, 1, 2, 3, 4, 5, 6, 7] rfl)
    · replace hf := hf.2 hc
      clear hc
      refine lv_iload hx hb dX12_walk_228 (lv_at hl 7 rfl) ?_
      refine lv_aload_n hx hb dX12_walk_230 rfl (lv_at hl 0 rfl) ?_
      refine mg_58 C hw dX12_walk_231 ?_
      refine lv_iload hx hb dX12_walk_234 (lv_at hl 5 rfl) ?_
      refine lv_iload_n hx hb dX12_walk_236 rfl (lv_at hl 1 rfl) ?_
      refine lv_isub hx hb dX12_walk_237 ?_
      refine lv_iconst (v := (1 : Int32)) hx hb dX12_walk_238 (by decide) ?_
      refine lv_isub hx hb dX12_walk_239 ?_
      refine ml_58 C hw hf.1 dX12_walk_240 (fun y_3 e9 => ?_)
      replace hf := hf.2 y_3 e9
      clear e9
      refine lv_isub hx hb dX12_walk_241 ?_
      refine th_callSi (As := [.int (x8 - y_3)]) (rest := []) C lkX12_334 (M_plain_c hf) hw rfl rfl ⟨Nat.le_of_ble_eq_true rfl, Nat.le_of_ble_eq_true rfl⟩ hl.1 (Nat.le_of_ble_eq_true rfl) ⟨Nat.le_refl _, Nat.le_refl _⟩ dX12_walk_242 (fun r_5 u_4 H locs hf hw => ?_)
      refine lv_iload_n hx hb dX12_walk_245 rfl (lv_at hl 3 rfl) ?_
      refine lv_icmp_gt (tgt := 287) hx hb dX12_walk_246 (by decide) (fun hc => ?_) (fun hc => ?_)
      · replace hf := hf.1 hc
        clear hc
        exact M_walk_287_w C hk203 hk215 x1 x2 x3 x5 x6 x7 x8 u_4 _ _ _ hf hw (lv_sub hl [0, 1, 2, 3, 4, 5, 6, 7] rfl)
      · replace hf := hf.2 hc
        clear hc
        exact M_walk_249_w C hk203 hk215 x1 x2 x3 x5 x6 x7 x8 u_4 _ _ _ hf hw (lv_sub hl [0, 1, 2, 3, 4, 5, 6, 7] rfl)
def M_walk_215_lp (K : Int32 → th_St → Prop) (k203 : Int32 → Int32 → Int32 → Int32 → Int32 → th_St → Prop) : Nat → Int32 → Int32 → Int32 → Int32 → Int32 → Int32 → Int32 → th_St → Prop
  | 0, _, _, _, _, _, _, _, _ => False
  | n + 1, x1, x2, x3, x5, x6, x7, x8, u => M_walk_215 K k203 (M_walk_215_lp K k203 n) x1 x2 x3 x5 x6 x7 x8 u
set_option maxHeartbeats 4000000 in
set_option maxRecDepth 100000 in
theorem M_walk_215_lw {K : Int32 → th_St → Prop} {k203 : Int32 → Int32 → Int32 → Int32 → Int32 → th_St → Prop} (C : th_Cx p s m args meth c cX12_walk RX12 10 (some .int) (dC, dI) (th_ty cs) th_E0 A) (hk203 : ∀ (x1 : Int32) (x2 : Int32) (x3 : Int32) (x5 : Int32) (x6 : Int32) (u : th_St) (H : Heap) (locs : List Loc) (ls : Array Slot), k203 x1 x2 x3 x5 x6 u → th_wI (dC, dI) (wM cs q) A s.heap u H locs → lv_has ls 10 [(0, .ref (q 0)), (1, .int x1), (2, .int x2), (3, .int x3), (5, .int x5), (6, .int x6)] → W p l e (th_rm 3 0 0) s m args below meth c H locs 0 0 (MQ below (va_Qi K (th_Post (dC, dI) (wM cs q) A) A) args s 0 0 A) (F0 m 203 ls [])) (n : Nat) : ∀ (x1 : Int32) (x2 : Int32) (x3 : Int32) (x5 : Int32) (x6 : Int32) (x7 : Int32) (x8 : Int32) (u : th_St) (H : Heap) (locs : List Loc) (ls : Array Slot), M_walk_215_lp K k203 n x1 x2 x3 x5 x6 x7 x8 u → th_wI (dC, dI) (wM cs q) A s.heap u H locs → lv_has ls 10 [(0, .ref (q 0)), (1, .int x1), (2, .int x2), (3, .int x3), (5, .int x5), (6, .int x6), (7, .int x7), (8, .int x8)] → W p l e (th_rm 3 0 0) s m args below meth c H locs 0 0 (MQ below (va_Qi K (th_Post (dC, dI) (wM cs q) A) A) args s 0 0 A) (F0 m 215 ls []) := by
  induction n with
  | zero => intro x1 x2 x3 x5 x6 x7 x8 u H locs ls hf; exact hf.elim
  | succ n ih =>
    intro x1 x2 x3 x5 x6 x7 x8 u H locs ls hf hw hl
    exact M_walk_215_w C hk203 ih x1 x2 x3 x5 x6 x7 x8 u H locs ls hf hw hl
def M_walk_203 (K : Int32 → th_St → Prop) (k203 : Int32 → Int32 → Int32 → Int32 → Int32 → th_St → Prop) (x1 : Int32) (x2 : Int32) (x3 : Int32) (x5 : Int32) (x6 : Int32) (u : th_St) : Prop :=
  ((x2 < x6 → (vp_in (0 : Int32) 40 ∧ ∀ y_1 : Int32, y_1 = u.2.2.1 58 ((0 : Int32)).toNatClampNeg → (vp_in (((48 : Int32) * x1) + y_1) 1920 ∧ ∀ y_2 : Int32, y_2 = u.2.2.1 57 ((((48 : Int32) * x1) + y_1)).toNatClampNeg → K y_2 u))) ∧ (¬ x2 < x6 → ∃ n, M_walk_215_lp K k203 n x1 x2 x3 x5 x6 (-1 : Int32) (0 : Int32) u))
set_option maxHeartbeats 4000000 in
set_option maxRecDepth 100000 in
theorem M_walk_203_w {K : Int32 → th_St → Prop} {k203 : Int32 → Int32 → Int32 → Int32 → Int32 → th_St → Prop} (C : th_Cx p s m args meth c cX12_walk RX12 10 (some .int) (dC, dI) (th_ty cs) th_E0 A) (hk203 : ∀ (x1 : Int32) (x2 : Int32) (x3 : Int32) (x5 : Int32) (x6 : Int32) (u : th_St) (H : Heap) (locs : List Loc) (ls : Array Slot), k203 x1 x2 x3 x5 x6 u → th_wI (dC, dI) (wM cs q) A s.heap u H locs → lv_has ls 10 [(0, .ref (q 0)), (1, .int x1), (2, .int x2), (3, .int x3), (5, .int x5), (6, .int x6)] → W p l e (th_rm 3 0 0) s m args below meth c H locs 0 0 (MQ below (va_Qi K (th_Post (dC, dI) (wM cs q) A) A) args s 0 0 A) (F0 m 203 ls [])) (x1 : Int32) (x2 : Int32) (x3 : Int32) (x5 : Int32) (x6 : Int32) (u : th_St) (H : Heap) (locs : List Loc) (ls : Array Slot) (hf : M_walk_203 K k203 x1 x2 x3 x5 x6 u) (hw : th_wI (dC, dI) (wM cs q) A s.heap u H locs) (hl : lv_has ls 10 [(0, .ref (q 0)), (1, .int x1), (2, .int x2), (3, .int x3), (5, .int x5), (6, .int x6)]) : W p l e (th_rm 3 0 0) s m args below meth c H locs 0 0 (MQ below (va_Qi K (th_Post (dC, dI) (wM cs q) A) A) args s 0 0 A) (F0 m 203 ls []) := by
  have hx := C.1
  have hb := C.2.1
  unfold M_walk_203 at hf
  refine lv_iload hx hb dX12_walk_203 (lv_at hl 5 rfl) ?_
  refine lv_iload_n hx hb dX12_walk_205 rfl (lv_at hl 2 rfl) ?_
  refine lv_icmp_gt (tgt := 310) hx hb dX12_walk_206 (by decide) (fun hc => ?_) (fun hc => ?_)
  · replace hf := hf.1 hc
    clear hc
    refine lv_aload_n hx hb dX12_walk_310 rfl (lv_at hl 0 rfl) ?_
    refine mg_57 C hw dX12_walk_311 ?_
    refine lv_bipush (v := (48 : Int32)) hx hb dX12_walk_314 (by decide) ?_
    refine lv_iload_n hx hb dX12_walk_316 rfl (lv_at hl 1 rfl) ?_
    refine lv_imul hx hb dX12_walk_317 ?_
    refine lv_aload_n hx hb dX12_walk_318 rfl (lv_at hl 0 rfl) ?_
    refine mg_58 C hw dX12_walk_319 ?_
    refine lv_iconst (v := (0 : Int32)) hx hb dX12_walk_322 (by decide) ?_
    refine ml_58 C hw hf.1 dX12_walk_323 (fun y_1 e9 => ?_)
    replace hf := hf.2 y_1 e9
    clear e9
    refine lv_iadd hx hb dX12_walk_324 ?_
    refine ml_57 C hw hf.1 dX12_walk_325 (fun y_2 e9 => ?_)
    replace hf := hf.2 y_2 e9
    clear e9
    exact th_iret C hw hf dX12_walk_326
  · replace hf := hf.2 hc
    clear hc
    refine lv_iconst (v := (-1 : Int32)) hx hb dX12_walk_209 (by decide) ?_
    refine lv_istore (lv' := [(7, .int (-1 : Int32)), (0, .ref (q 0)), (1, .int x1), (2, .int x2), (3, .int x3), (5, .int x5), (6, .int x6)]) hx hb dX12_walk_210 hl (by decide) rfl (fun ls hl => ?_)
    refine lv_iconst (v := (0 : Int32)) hx hb dX12_walk_212 (by decide) ?_
    refine lv_istore (lv' := [(8, .int (0 : Int32)), (7, .int (-1 : Int32)), (0, .ref (q 0)), (1, .int x1), (2, .int x2), (3, .int x3), (5, .int x5), (6, .int x6)]) hx hb dX12_walk_213 hl (by decide) rfl (fun ls hl => ?_)
    obtain ⟨n, hf⟩ := hf
    exact M_walk_215_lw C hk203 n x1 x2 x3 x5 x6 (-1 : Int32) (0 : Int32) u _ _ _ hf hw (lv_sub hl [2, 3, 4, 5, 6, 7, 1, 0] rfl)
def M_walk_203_lp (K : Int32 → th_St → Prop) : Nat → Int32 → Int32 → Int32 → Int32 → Int32 → th_St → Prop
  | 0, _, _, _, _, _, _ => False
  | n + 1, x1, x2, x3, x5, x6, u => M_walk_203 K (M_walk_203_lp K n) x1 x2 x3 x5 x6 u
set_option maxHeartbeats 4000000 in
set_option maxRecDepth 100000 in
theorem M_walk_203_lw {K : Int32 → th_St → Prop} (C : th_Cx p s m args meth c cX12_walk RX12 10 (some .int) (dC, dI) (th_ty cs) th_E0 A) (n : Nat) : ∀ (x1 : Int32) (x2 : Int32) (x3 : Int32) (x5 : Int32) (x6 : Int32) (u : th_St) (H : Heap) (locs : List Loc) (ls : Array Slot), M_walk_203_lp K n x1 x2 x3 x5 x6 u → th_wI (dC, dI) (wM cs q) A s.heap u H locs → lv_has ls 10 [(0, .ref (q 0)), (1, .int x1), (2, .int x2), (3, .int x3), (5, .int x5), (6, .int x6)] → W p l e (th_rm 3 0 0) s m args below meth c H locs 0 0 (MQ below (va_Qi K (th_Post (dC, dI) (wM cs q) A) A) args s 0 0 A) (F0 m 203 ls []) := by
  induction n with
  | zero => intro x1 x2 x3 x5 x6 u H locs ls hf; exact hf.elim
  | succ n ih =>
    intro x1 x2 x3 x5 x6 u H locs ls hf hw hl
    exact M_walk_203_w C ih x1 x2 x3 x5 x6 u H locs ls hf hw hl
def M_walk_62 (K : Int32 → th_St → Prop) (k62 : Int32 → Int32 → Int32 → Int32 → Int32 → th_St → Prop) (x1 : Int32) (x2 : Int32) (x3 : Int32) (x5 : Int32) (x6 : Int32) (u : th_St) : Prop :=
  ((x6 < x1 → ∀ u_1 : th_St, u_1 = th_si u 59 ((x2 - x1) + (1 : Int32)) → ∃ n, M_walk_203_lp K n x1 x2 x3 x5 x1 u_1) ∧ (¬ x6 < x1 → ∃ n, M_walk_71_lp K k62 n x1 x2 x3 x5 x6 (0 : Int32) u))
set_option maxHeartbeats 4000000 in
set_option maxRecDepth 100000 in
theorem M_walk_62_w {K : Int32 → th_St → Prop} {k62 : Int32 → Int32 → Int32 → Int32 → Int32 → th_St → Prop} (C : th_Cx p s m args meth c cX12_walk RX12 10 (some .int) (dC, dI) (th_ty cs) th_E0 A) (hk62 : ∀ (x1 : Int32) (x2 : Int32) (x3 : Int32) (x5 : Int32) (x6 : Int32) (u : th_St) (H : Heap) (locs : List Loc) (ls : Array Slot), k62 x1 x2 x3 x5 x6 u → th_wI (dC, dI) (wM cs q) A s.heap u H locs → lv_has ls 10 [(0, .ref (q 0)), (1, .int x1), (2, .int x2), (3, .int x3), (5, .int x5), (6, .int x6)] → W p l e (th_rm 3 0 0) s m args below meth c H locs 0 0 (MQ below (va_Qi K (th_Post (dC, dI) (wM cs q) A) A) args s 0 0 A) (F0 m 62 ls [])) (x1 : Int32) (x2 : Int32) (x3 : Int32) (x5 : Int32) (x6 : Int32) (u : th_St) (H : Heap) (locs : List Loc) (ls : Array Slot) (hf : M_walk_62 K k62 x1 x2 x3 x5 x6 u) (hw : th_wI (dC, dI) (wM cs q) A s.heap u H locs) (hl : lv_has ls 10 [(0, .ref (q 0)), (1, .int x1), (2, .int x2), (3, .int x3), (5, .int x5), (6, .int x6)]) : W p l e (th_rm 3 0 0) s m args below meth c H locs 0 0 (MQ below (va_Qi K (th_Post (dC, dI) (wM cs q) A) A) args s 0 0 A) (F0 m 62 ls []) := by
  have hx := C.1
  have hb := C.2.1
  unfold M_walk_62 at hf
  refine lv_iload hx hb dX12_walk_62 (lv_at hl 5 rfl) ?_
  refine lv_iload_n hx hb dX12_walk_64 rfl (lv_at hl 1 rfl) ?_
  refine lv_icmp_lt (tgt := 191) hx hb dX12_walk_65 (by decide) (fun hc => ?_) (fun hc => ?_)
  · replace hf := hf.1 hc
    clear hc
    refine lv_aload_n hx hb dX12_walk_191 rfl (lv_at hl 0 rfl) ?_
    refine lv_iload_n hx hb dX12_walk_192 rfl (lv_at hl 2 rfl) ?_
    refine lv_iload_n hx hb dX12_walk_193 rfl (lv_at hl 1 rfl) ?_
    refine lv_isub hx hb dX12_walk_194 ?_
    refine lv_iconst (v := (1 : Int32)) hx hb dX12_walk_195 (by decide) ?_
    refine lv_iadd hx hb dX12_walk_196 ?_
    refine mp_59 C hw dX12_walk_197 (fun u_1 e9 H locs hw => ?_)
    replace hf := hf u_1 e9
    clear e9
    refine lv_iload_n hx hb dX12_walk_200 rfl (lv_at hl 1 rfl) ?_
    refine lv_istore (lv' := [(6, .int x1), (0, .ref (q 0)), (1, .int x1), (2, .int x2), (3, .int x3), (5, .int x5)]) hx hb dX12_walk_201 hl (by decide) rfl (fun ls hl => ?_)
    obtain ⟨n, hf⟩ := hf
    exact M_walk_203_lw C n x1 x2 x3 x5 x1 u_1 _ _ _ hf hw (lv_sub hl [1, 2, 3, 4, 5, 0] rfl)
  · replace hf := hf.2 hc
    clear hc
    refine lv_iconst (v := (0 : Int32)) hx hb dX12_walk_68 (by decide) ?_
    refine lv_istore (lv' := [(7, .int (0 : Int32)), (0, .ref (q 0)), (1, .int x1), (2, .int x2), (3, .int x3), (5, .int x5), (6, .int x6)]) hx hb dX12_walk_69 hl (by decide) rfl (fun ls hl => ?_)
    obtain ⟨n, hf⟩ := hf
    exact M_walk_71_lw C hk62 n x1 x2 x3 x5 x6 (0 : Int32) u _ _ _ hf hw (lv_sub hl [1, 2, 3, 4, 5, 6, 0] rfl)
def M_walk_62_lp (K : Int32 → th_St → Prop) : Nat → Int32 → Int32 → Int32 → Int32 → Int32 → th_St → Prop
  | 0, _, _, _, _, _, _ => False
  | n + 1, x1, x2, x3, x5, x6, u => M_walk_62 K (M_walk_62_lp K n) x1 x2 x3 x5 x6 u
set_option maxHeartbeats 4000000 in
set_option maxRecDepth 100000 in
theorem M_walk_62_lw {K : Int32 → th_St → Prop} (C : th_Cx p s m args meth c cX12_walk RX12 10 (some .int) (dC, dI) (th_ty cs) th_E0 A) (n : Nat) : ∀ (x1 : Int32) (x2 : Int32) (x3 : Int32) (x5 : Int32) (x6 : Int32) (u : th_St) (H : Heap) (locs : List Loc) (ls : Array Slot), M_walk_62_lp K n x1 x2 x3 x5 x6 u → th_wI (dC, dI) (wM cs q) A s.heap u H locs → lv_has ls 10 [(0, .ref (q 0)), (1, .int x1), (2, .int x2), (3, .int x3), (5, .int x5), (6, .int x6)] → W p l e (th_rm 3 0 0) s m args below meth c H locs 0 0 (MQ below (va_Qi K (th_Post (dC, dI) (wM cs q) A) A) args s 0 0 A) (F0 m 62 ls []) := by
  induction n with
  | zero => intro x1 x2 x3 x5 x6 u H locs ls hf; exact hf.elim
  | succ n ih =>
    intro x1 x2 x3 x5 x6 u H locs ls hf hw hl
    exact M_walk_62_w C ih x1 x2 x3 x5 x6 u H locs ls hf hw hl
def M_walk (a1 : Int32) (a2 : Int32) (a3 : Int32) (a4 : Int32) (u : th_St) (K : Int32 → th_St → Prop) : Prop :=
  ∀ u_1 : th_St, u_1 = th_si u 0 (0 : Int32) → M_look a4 u_1 (fun u_2 => M_isIn a1 (0 : Int32) ((u_2.1 42) - (1 : Int32)) u_2 (fun r_5 u_4 => ((r_5 = 0 → M_walk_49 K u_4) ∧ (¬ r_5 = 0 → M_isIn a2 a1 ((u_4.1 42) - (1 : Int32)) u_4 (fun r_7 u_6 => ((r_7 = 0 → M_walk_49 K u_6) ∧ (¬ r_7 = 0 → M_isIn a3 (0 : Int32) (47 : Int32) u_6 (fun r_9 u_8 => ((¬ r_9 = 0 → (vp_in (0 : Int32) 2 ∧ ∀ y_10 : Int32, y_10 = u_8.2.2.1 11 ((0 : Int32)).toNatClampNeg → ∃ n, M_walk_62_lp K n a1 a2 a3 y_10 a2 u_8)) ∧ (r_9 = 0 → M_walk_49 K u_8))))))))))
set_option maxHeartbeats 4000000 in
set_option maxRecDepth 100000 in
theorem M_walk_c {l : Launch} {dC : Nat → ClassId} {dI : Nat → Nat → Nat} {cs : Nat → ClassId} {q : Nat → Nat} {a1 : Int32} {a2 : Int32} {a3 : Int32} {a4 : Int32} {u : th_St} {K : Int32 → th_St → Prop} (hf : M_walk a1 a2 a3 a4 u K) : th_Ci l yX12_walk cX12_walk 10 (some .int) 3 0 0 (dC, dI) (th_ty cs) th_E0 (wM cs q) [.ref (q 0), .int a1, .int a2, .int a3, .int a4] u K := by
  refine th_ofi (by decide) (Nat.le_of_ble_eq_true rfl) th_E0_ok ?_
  intro p e s m below meth c A ls C hw hl
  have C : th_Cx p s m _ meth c cX12_walk RX12 10 (some .int) (dC, dI) (th_ty cs) th_E0 A := C
  have hl : lv_has ls 10 [(0, .ref (q 0)), (1, .int a1), (2, .int a2), (3, .int a3), (4, .int a4)] := hl
  generalize (List.toArray _ : Array Value) = args at C ⊢
  have hx := C.1
  have hb := C.2.1
  unfold M_walk at hf
  refine lv_aload_n hx hb dX12_walk_0 rfl (lv_at hl 0 rfl) ?_
  refine lv_iconst (v := (0 : Int32)) hx hb dX12_walk_1 (by decide) ?_
  refine mp_0 C hw dX12_walk_2 (fun u_1 e9 H locs hw => ?_)
  replace hf := hf u_1 e9
  clear e9
  refine lv_aload_n hx hb dX12_walk_5 rfl (lv_at hl 0 rfl) ?_
  refine lv_iload hx hb dX12_walk_6 (lv_at hl 4 rfl) ?_
  refine th_callVv (As := [.int a4]) (rest := []) C lkX12_337 (M_look_c hf) hw (mRc C hw) rfl rfl ⟨Nat.le_of_ble_eq_true rfl, Nat.le_of_ble_eq_true rfl⟩ hl.1 (Nat.le_of_ble_eq_true rfl) ⟨Nat.le_refl _, Nat.le_refl _⟩ dX12_walk_8 (fun u_2 H locs hf hw => ?_)
  refine lv_iload_n hx hb dX12_walk_11 rfl (lv_at hl 1 rfl) ?_
  refine lv_iconst (v := (0 : Int32)) hx hb dX12_walk_12 (by decide) ?_
  refine lv_aload_n hx hb dX12_walk_13 rfl (lv_at hl 0 rfl) ?_
  refine mg_42 C hw dX12_walk_14 ?_
  refine lv_iconst (v := (1 : Int32)) hx hb dX12_walk_17 (by decide) ?_
  refine lv_isub hx hb dX12_walk_18 ?_
  refine th_callSi (As := [.int a1, .int (0 : Int32), .int ((u_2.1 42) - (1 : Int32))]) (rest := []) C lkX12_24 (M_isIn_c hf) hw rfl rfl ⟨Nat.le_of_ble_eq_true rfl, Nat.le_of_ble_eq_true rfl⟩ hl.1 (Nat.le_of_ble_eq_true rfl) ⟨Nat.le_refl _, Nat.le_refl _⟩ dX12_walk_19 (fun r_5 u_4 H locs hf hw => ?_)
  refine lv_if_eq (tgt := 49) hx hb dX12_walk_22 (by decide) (fun hc => ?_) (fun hc => ?_)
  · replace hf := hf.1 hc
    clear hc
    exact M_walk_49_w C  u_4 _ _ _ hf hw (lv_sub hl [] rfl)
  · replace hf := hf.2 hc
    clear hc
    refine lv_iload_n hx hb dX12_walk_25 rfl (lv_at hl 2 rfl) ?_
    refine lv_iload_n hx hb dX12_walk_26 rfl (lv_at hl 1 rfl) ?_
    refine lv_aload_n hx hb dX12_walk_27 rfl (lv_at hl 0 rfl) ?_
    refine mg_42 C hw dX12_walk_28 ?_
    refine lv_iconst (v := (1 : Int32)) hx hb dX12_walk_31 (by decide) ?_
    refine lv_isub hx hb dX12_walk_32 ?_
    refine th_callSi (As := [.int a2, .int a1, .int ((u_4.1 42) - (1 : Int32))]) (rest := []) C lkX12_24 (M_isIn_c hf) hw rfl rfl ⟨Nat.le_of_ble_eq_true rfl, Nat.le_of_ble_eq_true rfl⟩ hl.1 (Nat.le_of_ble_eq_true rfl) ⟨Nat.le_refl _, Nat.le_refl _⟩ dX12_walk_33 (fun r_7 u_6 H locs hf hw => ?_)
    refine lv_if_eq (tgt := 49) hx hb dX12_walk_36 (by decide) (fun hc => ?_) (fun hc => ?_)
    · replace hf := hf.1 hc
      clear hc
      exact M_walk_49_w C  u_6 _ _ _ hf hw (lv_sub hl [] rfl)
    · replace hf := hf.2 hc
      clear hc
      refine lv_iload_n hx hb dX12_walk_39 rfl (lv_at hl 3 rfl) ?_
      refine lv_iconst (v := (0 : Int32)) hx hb dX12_walk_40 (by decide) ?_
      refine lv_bipush (v := (47 : Int32)) hx hb dX12_walk_41 (by decide) ?_
      refine th_callSi (As := [.int a3, .int (0 : Int32), .int (47 : Int32)]) (rest := []) C lkX12_24 (M_isIn_c hf) hw rfl rfl ⟨Nat.le_of_ble_eq_true rfl, Nat.le_of_ble_eq_true rfl⟩ hl.1 (Nat.le_of_ble_eq_true rfl) ⟨Nat.le_refl _, Nat.le_refl _⟩ dX12_walk_43 (fun r_9 u_8 H locs hf hw => ?_)
      refine lv_if_ne (tgt := 51) hx hb dX12_walk_46 (by decide) (fun hc => ?_) (fun hc => ?_)
      · replace hf := hf.1 hc
        clear hc
        refine lv_aload_n hx hb dX12_walk_51 rfl (lv_at hl 0 rfl) ?_
        refine mg_11 C hw dX12_walk_52 ?_
        refine lv_iconst (v := (0 : Int32)) hx hb dX12_walk_55 (by decide) ?_
        refine ml_11 C hw hf.1 dX12_walk_56 (fun y_10 e9 => ?_)
        replace hf := hf.2 y_10 e9
        clear e9
        refine lv_istore (lv' := [(5, .int y_10), (0, .ref (q 0)), (1, .int a1), (2, .int a2), (3, .int a3), (4, .int a4)]) hx hb dX12_walk_57 hl (by decide) rfl (fun ls hl => ?_)
        refine lv_iload_n hx hb dX12_walk_59 rfl (lv_at hl 3 rfl) ?_
        refine lv_istore (lv' := [(6, .int a2), (5, .int y_10), (0, .ref (q 0)), (1, .int a1), (2, .int a2), (3, .int a3), (4, .int a4)]) hx hb dX12_walk_60 hl (by decide) rfl (fun ls hl => ?_)
        obtain ⟨n, hf⟩ := hf
        exact M_walk_62_lw C n a1 a2 a3 y_10 a2 u_8 _ _ _ hf hw (lv_sub hl [2, 3, 4, 5, 1, 0] rfl)
      · replace hf := hf.2 hc
        clear hc
        exact M_walk_49_w C  u_8 _ _ _ hf hw (lv_sub hl [] rfl)
/-! X12_cond -/
theorem dX12_cond_0 : decode cX12_cond 0 = .ok (.aload_n 0, 1) := by decide +kernel
theorem dX12_cond_1 : decode cX12_cond 1 = .ok (.iconst 0, 1) := by decide +kernel
theorem dX12_cond_2 : decode cX12_cond 2 = .ok (.putfield 278, 3) := by decide +kernel
theorem dX12_cond_5 : decode cX12_cond 5 = .ok (.aload_n 0, 1) := by decide +kernel
theorem dX12_cond_6 : decode cX12_cond 6 = .ok (.invokevirtual 289, 3) := by decide +kernel
theorem dX12_cond_9 : decode cX12_cond 9 = .ok (.ifCond .ne 5, 3) := by decide +kernel
theorem dX12_cond_12 : decode cX12_cond 12 = .ok (.iconst 0, 1) := by decide +kernel
theorem dX12_cond_13 : decode cX12_cond 13 = .ok (.ireturn, 1) := by decide +kernel
theorem dX12_cond_14 : decode cX12_cond 14 = .ok (.aload_n 0, 1) := by decide +kernel
theorem dX12_cond_15 : decode cX12_cond 15 = .ok (.bipush 41, 2) := by decide +kernel
theorem dX12_cond_17 : decode cX12_cond 17 = .ok (.invokevirtual 215, 3) := by decide +kernel
theorem dX12_cond_20 : decode cX12_cond 20 = .ok (.ifCond .eq 37, 3) := by decide +kernel
theorem dX12_cond_23 : decode cX12_cond 23 = .ok (.aload_n 0, 1) := by decide +kernel
theorem dX12_cond_24 : decode cX12_cond 24 = .ok (.invokevirtual 292, 3) := by decide +kernel
theorem dX12_cond_27 : decode cX12_cond 27 = .ok (.ifCond .eq 30, 3) := by decide +kernel
theorem dX12_cond_30 : decode cX12_cond 30 = .ok (.aload_n 0, 1) := by decide +kernel
theorem dX12_cond_31 : decode cX12_cond 31 = .ok (.iconst 1, 1) := by decide +kernel
theorem dX12_cond_32 : decode cX12_cond 32 = .ok (.invokevirtual 295, 3) := by decide +kernel
theorem dX12_cond_35 : decode cX12_cond 35 = .ok (.aload_n 0, 1) := by decide +kernel
theorem dX12_cond_36 : decode cX12_cond 36 = .ok (.dup, 1) := by decide +kernel
theorem dX12_cond_37 : decode cX12_cond 37 = .ok (.getfield 278, 3) := by decide +kernel
theorem dX12_cond_40 : decode cX12_cond 40 = .ok (.iconst 1, 1) := by decide +kernel
theorem dX12_cond_41 : decode cX12_cond 41 = .ok (.isub, 1) := by decide +kernel
theorem dX12_cond_42 : decode cX12_cond 42 = .ok (.putfield 278, 3) := by decide +kernel
theorem dX12_cond_45 : decode cX12_cond 45 = .ok (.aload_n 0, 1) := by decide +kernel
theorem dX12_cond_46 : decode cX12_cond 46 = .ok (.iconst 3, 1) := by decide +kernel
theorem dX12_cond_47 : decode cX12_cond 47 = .ok (.invokevirtual 295, 3) := by decide +kernel
theorem dX12_cond_50 : decode cX12_cond 50 = .ok (.aload_n 0, 1) := by decide +kernel
theorem dX12_cond_51 : decode cX12_cond 51 = .ok (.invokevirtual 179, 3) := by decide +kernel
theorem dX12_cond_54 : decode cX12_cond 54 = .ok (.goto (-40), 3) := by decide +kernel
theorem dX12_cond_57 : decode cX12_cond 57 = .ok (.aload_n 0, 1) := by decide +kernel
theorem dX12_cond_58 : decode cX12_cond 58 = .ok (.ldc2_w 298, 3) := by decide +kernel
theorem dX12_cond_61 : decode cX12_cond 61 = .ok (.invokevirtual 224, 3) := by decide +kernel
theorem dX12_cond_64 : decode cX12_cond 64 = .ok (.istore_n 1, 1) := by decide +kernel
theorem dX12_cond_65 : decode cX12_cond 65 = .ok (.iload_n 1, 1) := by decide +kernel
theorem dX12_cond_66 : decode cX12_cond 66 = .ok (.ifCond .ne 33, 3) := by decide +kernel
theorem dX12_cond_69 : decode cX12_cond 69 = .ok (.aload_n 0, 1) := by decide +kernel
theorem dX12_cond_70 : decode cX12_cond 70 = .ok (.ldc2_w 300, 3) := by decide +kernel
theorem dX12_cond_73 : decode cX12_cond 73 = .ok (.invokevirtual 224, 3) := by decide +kernel
theorem dX12_cond_76 : decode cX12_cond 76 = .ok (.ifCond .ne 23, 3) := by decide +kernel
theorem dX12_cond_79 : decode cX12_cond 79 = .ok (.aload_n 0, 1) := by decide +kernel
theorem dX12_cond_80 : decode cX12_cond 80 = .ok (.invokevirtual 292, 3) := by decide +kernel
theorem dX12_cond_83 : decode cX12_cond 83 = .ok (.ifCond .eq 9, 3) := by decide +kernel
theorem dX12_cond_86 : decode cX12_cond 86 = .ok (.aload_n 0, 1) := by decide +kernel
theorem dX12_cond_87 : decode cX12_cond 87 = .ok (.iconst 1, 1) := by decide +kernel
theorem dX12_cond_88 : decode cX12_cond 88 = .ok (.invokevirtual 218, 3) := by decide +kernel
theorem dX12_cond_91 : decode cX12_cond 91 = .ok (.ireturn, 1) := by decide +kernel
theorem dX12_cond_92 : decode cX12_cond 92 = .ok (.aload_n 0, 1) := by decide +kernel
theorem dX12_cond_93 : decode cX12_cond 93 = .ok (.iconst 1, 1) := by decide +kernel
theorem dX12_cond_94 : decode cX12_cond 94 = .ok (.invokevirtual 295, 3) := by decide +kernel
theorem dX12_cond_97 : decode cX12_cond 97 = .ok (.iconst 1, 1) := by decide +kernel
theorem dX12_cond_98 : decode cX12_cond 98 = .ok (.ireturn, 1) := by decide +kernel
theorem dX12_cond_99 : decode cX12_cond 99 = .ok (.aload_n 0, 1) := by decide +kernel
theorem dX12_cond_100 : decode cX12_cond 100 = .ok (.iload_n 1, 1) := by decide +kernel
theorem dX12_cond_101 : decode cX12_cond 101 = .ok (.ifCond .eq 7, 3) := by decide +kernel
theorem dX12_cond_104 : decode cX12_cond 104 = .ok (.iconst 2, 1) := by decide +kernel
theorem dX12_cond_105 : decode cX12_cond 105 = .ok (.goto 4, 3) := by decide +kernel
theorem dX12_cond_108 : decode cX12_cond 108 = .ok (.iconst 1, 1) := by decide +kernel
theorem dX12_cond_109 : decode cX12_cond 109 = .ok (.invokevirtual 295, 3) := by decide +kernel
theorem dX12_cond_112 : decode cX12_cond 112 = .ok (.aload_n 0, 1) := by decide +kernel
theorem dX12_cond_113 : decode cX12_cond 113 = .ok (.getfield 81, 3) := by decide +kernel
theorem dX12_cond_116 : decode cX12_cond 116 = .ok (.aload_n 0, 1) := by decide +kernel
theorem dX12_cond_117 : decode cX12_cond 117 = .ok (.getfield 278, 3) := by decide +kernel
theorem dX12_cond_120 : decode cX12_cond 120 = .ok (.iload_n 1, 1) := by decide +kernel
theorem dX12_cond_121 : decode cX12_cond 121 = .ok (.ifCond .eq 8, 3) := by decide +kernel
theorem dX12_cond_124 : decode cX12_cond 124 = .ok (.bipush 11, 2) := by decide +kernel
theorem dX12_cond_126 : decode cX12_cond 126 = .ok (.goto 5, 3) := by decide +kernel
theorem dX12_cond_129 : decode cX12_cond 129 = .ok (.bipush 12, 2) := by decide +kernel
theorem dX12_cond_131 : decode cX12_cond 131 = .ok (.iastore, 1) := by decide +kernel
theorem dX12_cond_132 : decode cX12_cond 132 = .ok (.aload_n 0, 1) := by decide +kernel
theorem dX12_cond_133 : decode cX12_cond 133 = .ok (.dup, 1) := by decide +kernel
theorem dX12_cond_134 : decode cX12_cond 134 = .ok (.getfield 278, 3) := by decide +kernel
theorem dX12_cond_137 : decode cX12_cond 137 = .ok (.iconst 1, 1) := by decide +kernel
theorem dX12_cond_138 : decode cX12_cond 138 = .ok (.iadd, 1) := by decide +kernel
theorem dX12_cond_139 : decode cX12_cond 139 = .ok (.putfield 278, 3) := by decide +kernel
theorem dX12_cond_142 : decode cX12_cond 142 = .ok (.aload_n 0, 1) := by decide +kernel
theorem dX12_cond_143 : decode cX12_cond 143 = .ok (.invokevirtual 179, 3) := by decide +kernel
theorem dX12_cond_146 : decode cX12_cond 146 = .ok (.goto (-141), 3) := by decide +kernel
def M_cond_131 (K : Int32 → th_St → Prop) (k5 : th_St → Prop) (z0 : Int32) (z1 : Int32) (u : th_St) : Prop :=
  (vp_in z1 100 ∧ ∀ u_1 : th_St, u_1 = th_sa u 20 (upd (u.2.2.1 20) (z1).toNatClampNeg z0) → ∀ u_2 : th_St, u_2 = th_si u_1 22 ((u_1.1 22) + (1 : Int32)) → M_next_ u_2 (fun u_3 => k5 u_3))
set_option maxHeartbeats 4000000 in
set_option maxRecDepth 100000 in
theorem M_cond_131_w {K : Int32 → th_St → Prop} {k5 : th_St → Prop} (C : th_Cx p s m args meth c cX12_cond RX12 2 (some .boolean) (dC, dI) (th_ty cs) th_E0 A) (hk5 : ∀ (u : th_St) (H : Heap) (locs : List Loc) (ls : Array Slot), k5 u → th_wI (dC, dI) (wM cs q) A s.heap u H locs → lv_has ls 2 [(0, .ref (q 0))] → W p l e (th_rm 4 0 0) s m args below meth c H locs 0 0 (MQ below (va_Qi K (th_Post (dC, dI) (wM cs q) A) A) args s 0 0 A) (F0 m 5 ls [])) (z0 : Int32) (z1 : Int32) (u : th_St) (H : Heap) (locs : List Loc) (ls : Array Slot) (hf : M_cond_131 K k5 z0 z1 u) (hw : th_wI (dC, dI) (wM cs q) A s.heap u H locs) (hl : lv_has ls 2 [(0, .ref (q 0))]) : W p l e (th_rm 4 0 0) s m args below meth c H locs 0 0 (MQ below (va_Qi K (th_Post (dC, dI) (wM cs q) A) A) args s 0 0 A) (F0 m 131 ls [.int z0, .int z1, .ref (q 20)]) := by
  have hx := C.1
  have hb := C.2.1
  unfold M_cond_131 at hf
  refine ms_20 C hw hf.1 dX12_cond_131 (fun u_1 e9 H locs hw => ?_)
  replace hf := hf.2 u_1 e9
  clear e9
  refine lv_aload_n hx hb dX12_cond_132 rfl (lv_at hl 0 rfl) ?_
  refine lv_dup hx hb dX12_cond_133 rfl ?_
  refine mg_22 C hw dX12_cond_134 ?_
  refine lv_iconst (v := (1 : Int32)) hx hb dX12_cond_137 (by decide) ?_
  refine lv_iadd hx hb dX12_cond_138 ?_
  refine mp_22 C hw dX12_cond_139 (fun u_2 e9 H locs hw => ?_)
  replace hf := hf u_2 e9
  clear e9
  refine lv_aload_n hx hb dX12_cond_142 rfl (lv_at hl 0 rfl) ?_
  refine th_callVv (As := []) (rest := []) C lkX12_179 (M_next__c hf) hw (mRc C hw) rfl rfl ⟨Nat.le_of_ble_eq_true rfl, Nat.le_of_ble_eq_true rfl⟩ hl.1 (Nat.le_of_ble_eq_true rfl) ⟨Nat.le_refl _, Nat.le_refl _⟩ dX12_cond_143 (fun u_3 H locs hf hw => ?_)
  refine lv_goto (tgt := 5) hx hb dX12_cond_146 (by decide) ?_
  exact hk5  u_3 _ _ _ hf hw (lv_sub hl [0] rfl)
def M_cond_109 (K : Int32 → th_St → Prop) (k5 : th_St → Prop) (x1 : Int32) (z0 : Int32) (u : th_St) : Prop :=
  M_writeDown z0 u (fun u_1 => ((x1 = 0 → M_cond_131 K k5 (12 : Int32) (u_1.1 22) u_1) ∧ (¬ x1 = 0 → M_cond_131 K k5 (11 : Int32) (u_1.1 22) u_1)))
set_option maxHeartbeats 4000000 in
set_option maxRecDepth 100000 in
theorem M_cond_109_w {K : Int32 → th_St → Prop} {k5 : th_St → Prop} (C : th_Cx p s m args meth c cX12_cond RX12 2 (some .boolean) (dC, dI) (th_ty cs) th_E0 A) (hk5 : ∀ (u : th_St) (H : Heap) (locs : List Loc) (ls : Array Slot), k5 u → th_wI (dC, dI) (wM cs q) A s.heap u H locs → lv_has ls 2 [(0, .ref (q 0))] → W p l e (th_rm 4 0 0) s m args below meth c H locs 0 0 (MQ below (va_Qi K (th_Post (dC, dI) (wM cs q) A) A) args s 0 0 A) (F0 m 5 ls [])) (x1 : Int32) (z0 : Int32) (u : th_St) (H : Heap) (locs : List Loc) (ls : Array Slot) (hf : M_cond_109 K k5 x1 z0 u) (hw : th_wI (dC, dI) (wM cs q) A s.heap u H locs) (hl : lv_has ls 2 [(0, .ref (q 0)), (1, .int x1)]) : W p l e (th_rm 4 0 0) s m args below meth c H locs 0 0 (MQ below (va_Qi K (th_Post (dC, dI) (wM cs q) A) A) args s 0 0 A) (F0 m 109 ls [.int z0, .ref (q 0)]) := by
  have hx := C.1
  have hb := C.2.1
  unfold M_cond_109 at hf
  refine th_callVv (As := [.int z0]) (rest := []) C lkX12_295 (M_writeDown_c hf) hw (mRc C hw) rfl rfl ⟨Nat.le_of_ble_eq_true rfl, Nat.le_of_ble_eq_true rfl⟩ hl.1 (Nat.le_of_ble_eq_true rfl) ⟨Nat.le_refl _, Nat.le_refl _⟩ dX12_cond_109 (fun u_1 H locs hf hw => ?_)
  refine lv_aload_n hx hb dX12_cond_112 rfl (lv_at hl 0 rfl) ?_
  refine mg_20 C hw dX12_cond_113 ?_
  refine lv_aload_n hx hb dX12_cond_116 rfl (lv_at hl 0 rfl) ?_
  refine mg_22 C hw dX12_cond_117 ?_
  refine lv_iload_n hx hb dX12_cond_120 rfl (lv_at hl 1 rfl) ?_
  refine lv_if_eq (tgt := 129) hx hb dX12_cond_121 (by decide) (fun hc => ?_) (fun hc => ?_)
  · replace hf := hf.1 hc
    clear hc
    refine lv_bipush (v := (12 : Int32)) hx hb dX12_cond_129 (by decide) ?_
    exact M_cond_131_w C hk5 (12 : Int32) (u_1.1 22) u_1 _ _ _ hf hw (lv_sub hl [0] rfl)
  · replace hf := hf.2 hc
    clear hc
    refine lv_bipush (v := (11 : Int32)) hx hb dX12_cond_124 (by decide) ?_
    refine lv_goto (tgt := 131) hx hb dX12_cond_126 (by decide) ?_
    exact M_cond_131_w C hk5 (11 : Int32) (u_1.1 22) u_1 _ _ _ hf hw (lv_sub hl [0] rfl)
def M_cond_99 (K : Int32 → th_St → Prop) (k5 : th_St → Prop) (x1 : Int32) (u : th_St) : Prop :=
  ((x1 = 0 → M_cond_109 K k5 x1 (1 : Int32) u) ∧ (¬ x1 = 0 → M_cond_109 K k5 x1 (2 : Int32) u))
set_option maxHeartbeats 4000000 in
set_option maxRecDepth 100000 in
theorem M_cond_99_w {K : Int32 → th_St → Prop} {k5 : th_St → Prop} (C : th_Cx p s m args meth c cX12_cond RX12 2 (some .boolean) (dC, dI) (th_ty cs) th_E0 A) (hk5 : ∀ (u : th_St) (H : Heap) (locs : List Loc) (ls : Array Slot), k5 u → th_wI (dC, dI) (wM cs q) A s.heap u H locs → lv_has ls 2 [(0, .ref (q 0))] → W p l e (th_rm 4 0 0) s m args below meth c H locs 0 0 (MQ below (va_Qi K (th_Post (dC, dI) (wM cs q) A) A) args s 0 0 A) (F0 m 5 ls [])) (x1 : Int32) (u : th_St) (H : Heap) (locs : List Loc) (ls : Array Slot) (hf : M_cond_99 K k5 x1 u) (hw : th_wI (dC, dI) (wM cs q) A s.heap u H locs) (hl : lv_has ls 2 [(0, .ref (q 0)), (1, .int x1)]) : W p l e (th_rm 4 0 0) s m args below meth c H locs 0 0 (MQ below (va_Qi K (th_Post (dC, dI) (wM cs q) A) A) args s 0 0 A) (F0 m 99 ls []) := by
  have hx := C.1
  have hb := C.2.1
  unfold M_cond_99 at hf
  refine lv_aload_n hx hb dX12_cond_99 rfl (lv_at hl 0 rfl) ?_
  refine lv_iload_n hx hb dX12_cond_100 rfl (lv_at hl 1 rfl) ?_
  refine lv_if_eq (tgt := 108) hx hb dX12_cond_101 (by decide) (fun hc => ?_) (fun hc => ?_)
  · replace hf := hf.1 hc
    clear hc
    refine lv_iconst (v := (1 : Int32)) hx hb dX12_cond_108 (by decide) ?_
    exact M_cond_109_w C hk5 x1 (1 : Int32) u _ _ _ hf hw (lv_sub hl [0, 1] rfl)
  · replace hf := hf.2 hc
    clear hc
    refine lv_iconst (v := (2 : Int32)) hx hb dX12_cond_104 (by decide) ?_
    refine lv_goto (tgt := 109) hx hb dX12_cond_105 (by decide) ?_
    exact M_cond_109_w C hk5 x1 (2 : Int32) u _ _ _ hf hw (lv_sub hl [0, 1] rfl)
def M_cond_57 (K : Int32 → th_St → Prop) (k5 : th_St → Prop) (u : th_St) : Prop :=
  M_isWord (6385252 : Int64) u (fun r_2 u_1 => ((¬ r_2 = 0 → M_cond_99 K k5 r_2 u_1) ∧ (r_2 = 0 → M_isWord (28530 : Int64) u_1 (fun r_4 u_3 => ((¬ r_4 = 0 → M_cond_99 K k5 r_2 u_3) ∧ (r_4 = 0 → M_isOpen u_3 (fun r_6 u_5 => ((r_6 = 0 → M_writeDown (1 : Int32) u_5 (fun u_7 => (((1 : Int32) = 0 ∨ (1 : Int32) = 1) ∧ K (1 : Int32) u_7))) ∧ (¬ r_6 = 0 → M_bad (1 : Int32) u_5 (fun r_10 u_9 => ((r_10 = 0 ∨ r_10 = 1) ∧ K r_10 u_9)))))))))))
set_option maxHeartbeats 4000000 in
set_option maxRecDepth 100000 in
theorem M_cond_57_w {K : Int32 → th_St → Prop} {k5 : th_St → Prop} (C : th_Cx p s m args meth c cX12_cond RX12 2 (some .boolean) (dC, dI) (th_ty cs) th_E0 A) (hk5 : ∀ (u : th_St) (H : Heap) (locs : List Loc) (ls : Array Slot), k5 u → th_wI (dC, dI) (wM cs q) A s.heap u H locs → lv_has ls 2 [(0, .ref (q 0))] → W p l e (th_rm 4 0 0) s m args below meth c H locs 0 0 (MQ below (va_Qi K (th_Post (dC, dI) (wM cs q) A) A) args s 0 0 A) (F0 m 5 ls [])) (u : th_St) (H : Heap) (locs : List Loc) (ls : Array Slot) (hf : M_cond_57 K k5 u) (hw : th_wI (dC, dI) (wM cs q) A s.heap u H locs) (hl : lv_has ls 2 [(0, .ref (q 0))]) : W p l e (th_rm 4 0 0) s m args below meth c H locs 0 0 (MQ below (va_Qi K (th_Post (dC, dI) (wM cs q) A) A) args s 0 0 A) (F0 m 57 ls []) := by
  have hx := C.1
  have hb := C.2.1
  unfold M_cond_57 at hf
  refine lv_aload_n hx hb dX12_cond_57 rfl (lv_at hl 0 rfl) ?_
  refine lv_ldc2 hx hb C.2.2.2.1 (C.2.2.2.2.1 _ hwK_X12_298) dX12_cond_58 ?_
  refine th_callVi (As := [.long (6385252 : Int64)]) (rest := []) C lkX12_224 (M_isWord_c hf) hw (mRc C hw) rfl rfl ⟨Nat.le_of_ble_eq_true rfl, Nat.le_of_ble_eq_true rfl⟩ hl.1 (Nat.le_of_ble_eq_true rfl) ⟨Nat.le_refl _, Nat.le_refl _⟩ dX12_cond_61 (fun r_2 u_1 H locs hf hw => ?_)
  refine lv_istore_n (lv' := [(1, .int r_2), (0, .ref (q 0))]) hx hb dX12_cond_64 rfl hl (by decide) rfl (fun ls hl => ?_)
  refine lv_iload_n hx hb dX12_cond_65 rfl (lv_at hl 0 rfl) ?_
  refine lv_if_ne (tgt := 99) hx hb dX12_cond_66 (by decide) (fun hc => ?_) (fun hc => ?_)
  · replace hf := hf.1 hc
    clear hc
    exact M_cond_99_w C hk5 r_2 u_1 _ _ _ hf hw (lv_sub hl [1, 0] rfl)
  · replace hf := hf.2 hc
    clear hc
    refine lv_aload_n hx hb dX12_cond_69 rfl (lv_at hl 1 rfl) ?_
    refine lv_ldc2 hx hb C.2.2.2.1 (C.2.2.2.2.1 _ hwK_X12_300) dX12_cond_70 ?_
    refine th_callVi (As := [.long (28530 : Int64)]) (rest := []) C lkX12_224 (M_isWord_c hf) hw (mRc C hw) rfl rfl ⟨Nat.le_of_ble_eq_true rfl, Nat.le_of_ble_eq_true rfl⟩ hl.1 (Nat.le_of_ble_eq_true rfl) ⟨Nat.le_refl _, Nat.le_refl _⟩ dX12_cond_73 (fun r_4 u_3 H locs hf hw => ?_)
    refine lv_if_ne (tgt := 99) hx hb dX12_cond_76 (by decide) (fun hc => ?_) (fun hc => ?_)
    · replace hf := hf.1 hc
      clear hc
      exact M_cond_99_w C hk5 r_2 u_3 _ _ _ hf hw (lv_sub hl [1, 0] rfl)
    · replace hf := hf.2 hc
      clear hc
      refine lv_aload_n hx hb dX12_cond_79 rfl (lv_at hl 1 rfl) ?_
      refine th_callVi (As := []) (rest := []) C lkX12_292 (M_isOpen_c hf) hw (mRc C hw) rfl rfl ⟨Nat.le_of_ble_eq_true rfl, Nat.le_of_ble_eq_true rfl⟩ hl.1 (Nat.le_of_ble_eq_true rfl) ⟨Nat.le_refl _, Nat.le_refl _⟩ dX12_cond_80 (fun r_6 u_5 H locs hf hw => ?_)
      refine lv_if_eq (tgt := 92) hx hb dX12_cond_83 (by decide) (fun hc => ?_) (fun hc => ?_)
      · replace hf := hf.1 hc
        clear hc
        refine lv_aload_n hx hb dX12_cond_92 rfl (lv_at hl 1 rfl) ?_
        refine lv_iconst (v := (1 : Int32)) hx hb dX12_cond_93 (by decide) ?_
        refine th_callVv (As := [.int (1 : Int32)]) (rest := []) C lkX12_295 (M_writeDown_c hf) hw (mRc C hw) rfl rfl ⟨Nat.le_of_ble_eq_true rfl, Nat.le_of_ble_eq_true rfl⟩ hl.1 (Nat.le_of_ble_eq_true rfl) ⟨Nat.le_refl _, Nat.le_refl _⟩ dX12_cond_94 (fun u_7 H locs hf hw => ?_)
        refine lv_iconst (v := (1 : Int32)) hx hb dX12_cond_97 (by decide) ?_
        exact th_zret C hw hf dX12_cond_98
      · replace hf := hf.2 hc
        clear hc
        refine lv_aload_n hx hb dX12_cond_86 rfl (lv_at hl 1 rfl) ?_
        refine lv_iconst (v := (1 : Int32)) hx hb dX12_cond_87 (by decide) ?_
        refine th_callVi (As := [.int (1 : Int32)]) (rest := []) C lkX12_218 (M_bad_c hf) hw (mRc C hw) rfl rfl ⟨Nat.le_of_ble_eq_true rfl, Nat.le_of_ble_eq_true rfl⟩ hl.1 (Nat.le_of_ble_eq_true rfl) ⟨Nat.le_refl _, Nat.le_refl _⟩ dX12_cond_88 (fun r_10 u_9 H locs hf hw => ?_)
        exact th_zret C hw hf dX12_cond_91
def M_cond_14 (K : Int32 → th_St → Prop) (k5 : th_St → Prop) (k14 : th_St → Prop) (u : th_St) : Prop :=
  M_isSign (41 : Int32) u (fun r_2 u_1 => ((r_2 = 0 → M_cond_57 K k5 u_1) ∧ (¬ r_2 = 0 → M_isOpen u_1 (fun r_4 u_3 => ((r_4 = 0 → M_cond_57 K k5 u_3) ∧ (¬ r_4 = 0 → M_writeDown (1 : Int32) u_3 (fun u_5 => ∀ u_7 : th_St, u_7 = th_si u_5 22 ((u_5.1 22) - (1 : Int32)) → M_writeDown (3 : Int32) u_7 (fun u_8 => M_next_ u_8 (fun u_10 => k14 u_10)))))))))
set_option maxHeartbeats 4000000 in
set_option maxRecDepth 100000 in
theorem M_cond_14_w {K : Int32 → th_St → Prop} {k5 : th_St → Prop} {k14 : th_St → Prop} (C : th_Cx p s m args meth c cX12_cond RX12 2 (some .boolean) (dC, dI) (th_ty cs) th_E0 A) (hk5 : ∀ (u : th_St) (H : Heap) (locs : List Loc) (ls : Array Slot), k5 u → th_wI (dC, dI) (wM cs q) A s.heap u H locs → lv_has ls 2 [(0, .ref (q 0))] → W p l e (th_rm 4 0 0) s m args below meth c H locs 0 0 (MQ below (va_Qi K (th_Post (dC, dI) (wM cs q) A) A) args s 0 0 A) (F0 m 5 ls [])) (hk14 : ∀ (u : th_St) (H : Heap) (locs : List Loc) (ls : Array Slot), k14 u → th_wI (dC, dI) (wM cs q) A s.heap u H locs → lv_has ls 2 [(0, .ref (q 0))] → W p l e (th_rm 4 0 0) s m args below meth c H locs 0 0 (MQ below (va_Qi K (th_Post (dC, dI) (wM cs q) A) A) args s 0 0 A) (F0 m 14 ls [])) (u : th_St) (H : Heap) (locs : List Loc) (ls : Array Slot) (hf : M_cond_14 K k5 k14 u) (hw : th_wI (dC, dI) (wM cs q) A s.heap u H locs) (hl : lv_has ls 2 [(0, .ref (q 0))]) : W p l e (th_rm 4 0 0) s m args below meth c H locs 0 0 (MQ below (va_Qi K (th_Post (dC, dI) (wM cs q) A) A) args s 0 0 A) (F0 m 14 ls []) := by
  have hx := C.1
  have hb := C.2.1
  unfold M_cond_14 at hf
  refine lv_aload_n hx hb dX12_cond_14 rfl (lv_at hl 0 rfl) ?_
  refine lv_bipush (v := (41 : Int32)) hx hb dX12_cond_15 (by decide) ?_
  refine th_callVi (As := [.int (41 : Int32)]) (rest := []) C lkX12_215 (M_isSign_c hf) hw (mRc C hw) rfl rfl ⟨Nat.le_of_ble_eq_true rfl, Nat.le_of_ble_eq_true rfl⟩ hl.1 (Nat.le_of_ble_eq_true rfl) ⟨Nat.le_refl _, Nat.le_refl _⟩ dX12_cond_17 (fun r_2 u_1 H locs hf hw => ?_)
  refine lv_if_eq (tgt := 57) hx hb dX12_cond_20 (by decide) (fun hc => ?_) (fun hc => ?_)
  · replace hf := hf.1 hc
    clear hc
    exact M_cond_57_w C hk5  u_1 _ _ _ hf hw (lv_sub hl [0] rfl)
  · replace hf := hf.2 hc
    clear hc
    refine lv_aload_n hx hb dX12_cond_23 rfl (lv_at hl 0 rfl) ?_
    refine th_callVi (As := []) (rest := []) C lkX12_292 (M_isOpen_c hf) hw (mRc C hw) rfl rfl ⟨Nat.le_of_ble_eq_true rfl, Nat.le_of_ble_eq_true rfl⟩ hl.1 (Nat.le_of_ble_eq_true rfl) ⟨Nat.le_refl _, Nat.le_refl _⟩ dX12_cond_24 (fun r_4 u_3 H locs hf hw => ?_)
    refine lv_if_eq (tgt := 57) hx hb dX12_cond_27 (by decide) (fun hc => ?_) (fun hc => ?_)
    · replace hf := hf.1 hc
      clear hc
      exact M_cond_57_w C hk5  u_3 _ _ _ hf hw (lv_sub hl [0] rfl)
    · replace hf := hf.2 hc
      clear hc
      refine lv_aload_n hx hb dX12_cond_30 rfl (lv_at hl 0 rfl) ?_
      refine lv_iconst (v := (1 : Int32)) hx hb dX12_cond_31 (by decide) ?_
      refine th_callVv (As := [.int (1 : Int32)]) (rest := []) C lkX12_295 (M_writeDown_c hf) hw (mRc C hw) rfl rfl ⟨Nat.le_of_ble_eq_true rfl, Nat.le_of_ble_eq_true rfl⟩ hl.1 (Nat.le_of_ble_eq_true rfl) ⟨Nat.le_refl _, Nat.le_refl _⟩ dX12_cond_32 (fun u_5 H locs hf hw => ?_)
      refine lv_aload_n hx hb dX12_cond_35 rfl (lv_at hl 0 rfl) ?_
      refine lv_dup hx hb dX12_cond_36 rfl ?_
      refine mg_22 C hw dX12_cond_37 ?_
      refine lv_iconst (v := (1 : Int32)) hx hb dX12_cond_40 (by decide) ?_
      refine lv_isub hx hb dX12_cond_41 ?_
      refine mp_22 C hw dX12_cond_42 (fun u_7 e9 H locs hw => ?_)
      replace hf := hf u_7 e9
      clear e9
      refine lv_aload_n hx hb dX12_cond_45 rfl (lv_at hl 0 rfl) ?_
      refine lv_iconst (v := (3 : Int32)) hx hb dX12_cond_46 (by decide) ?_
      refine th_callVv (As := [.int (3 : Int32)]) (rest := []) C lkX12_295 (M_writeDown_c hf) hw (mRc C hw) rfl rfl ⟨Nat.le_of_ble_eq_true rfl, Nat.le_of_ble_eq_true rfl⟩ hl.1 (Nat.le_of_ble_eq_true rfl) ⟨Nat.le_refl _, Nat.le_refl _⟩ dX12_cond_47 (fun u_8 H locs hf hw => ?_)
      refine lv_aload_n hx hb dX12_cond_50 rfl (lv_at hl 0 rfl) ?_
      refine th_callVv (As := []) (rest := []) C lkX12_179 (M_next__c hf) hw (mRc C hw) rfl rfl ⟨Nat.le_of_ble_eq_true rfl, Nat.le_of_ble_eq_true rfl⟩ hl.1 (Nat.le_of_ble_eq_true rfl) ⟨Nat.le_refl _, Nat.le_refl _⟩ dX12_cond_51 (fun u_10 H locs hf hw => ?_)
      refine lv_goto (tgt := 14) hx hb dX12_cond_54 (by decide) ?_
      exact hk14  u_10 _ _ _ hf hw (lv_sub hl [0] rfl)
def M_cond_14_lp (K : Int32 → th_St → Prop) (k5 : th_St → Prop) : Nat → th_St → Prop
  | 0, _ => False
  | n + 1, u => M_cond_14 K k5 (M_cond_14_lp K k5 n) u
set_option maxHeartbeats 4000000 in
set_option maxRecDepth 100000 in
theorem M_cond_14_lw {K : Int32 → th_St → Prop} {k5 : th_St → Prop} (C : th_Cx p s m args meth c cX12_cond RX12 2 (some .boolean) (dC, dI) (th_ty cs) th_E0 A) (hk5 : ∀ (u : th_St) (H : Heap) (locs : List Loc) (ls : Array Slot), k5 u → th_wI (dC, dI) (wM cs q) A s.heap u H locs → lv_has ls 2 [(0, .ref (q 0))] → W p l e (th_rm 4 0 0) s m args below meth c H locs 0 0 (MQ below (va_Qi K (th_Post (dC, dI) (wM cs q) A) A) args s 0 0 A) (F0 m 5 ls [])) (n : Nat) : ∀ (u : th_St) (H : Heap) (locs : List Loc) (ls : Array Slot), M_cond_14_lp K k5 n u → th_wI (dC, dI) (wM cs q) A s.heap u H locs → lv_has ls 2 [(0, .ref (q 0))] → W p l e (th_rm 4 0 0) s m args below meth c H locs 0 0 (MQ below (va_Qi K (th_Post (dC, dI) (wM cs q) A) A) args s 0 0 A) (F0 m 14 ls []) := by
  induction n with
  | zero => intro u H locs ls hf; exact hf.elim
  | succ n ih =>
    intro u H locs ls hf hw hl
    exact M_cond_14_w C hk5 ih u H locs ls hf hw hl
def M_cond_5 (K : Int32 → th_St → Prop) (k5 : th_St → Prop) (u : th_St) : Prop :=
  M_one u (fun r_2 u_1 => ((¬ r_2 = 0 → ∃ n, M_cond_14_lp K k5 n u_1) ∧ (r_2 = 0 → (((0 : Int32) = 0 ∨ (0 : Int32) = 1) ∧ K (0 : Int32) u_1))))
set_option maxHeartbeats 4000000 in
set_option maxRecDepth 100000 in
theorem M_cond_5_w {K : Int32 → th_St → Prop} {k5 : th_St → Prop} (C : th_Cx p s m args meth c cX12_cond RX12 2 (some .boolean) (dC, dI) (th_ty cs) th_E0 A) (hk5 : ∀ (u : th_St) (H : Heap) (locs : List Loc) (ls : Array Slot), k5 u → th_wI (dC, dI) (wM cs q) A s.heap u H locs → lv_has ls 2 [(0, .ref (q 0))] → W p l e (th_rm 4 0 0) s m args below meth c H locs 0 0 (MQ below (va_Qi K (th_Post (dC, dI) (wM cs q) A) A) args s 0 0 A) (F0 m 5 ls [])) (u : th_St) (H : Heap) (locs : List Loc) (ls : Array Slot) (hf : M_cond_5 K k5 u) (hw : th_wI (dC, dI) (wM cs q) A s.heap u H locs) (hl : lv_has ls 2 [(0, .ref (q 0))]) : W p l e (th_rm 4 0 0) s m args below meth c H locs 0 0 (MQ below (va_Qi K (th_Post (dC, dI) (wM cs q) A) A) args s 0 0 A) (F0 m 5 ls []) := by
  have hx := C.1
  have hb := C.2.1
  unfold M_cond_5 at hf
  refine lv_aload_n hx hb dX12_cond_5 rfl (lv_at hl 0 rfl) ?_
  refine th_callVi (As := []) (rest := []) C lkX12_289 (M_one_c hf) hw (mRc C hw) rfl rfl ⟨Nat.le_of_ble_eq_true rfl, Nat.le_of_ble_eq_true rfl⟩ hl.1 (Nat.le_of_ble_eq_true rfl) ⟨Nat.le_refl _, Nat.le_refl _⟩ dX12_cond_6 (fun r_2 u_1 H locs hf hw => ?_)
  refine lv_if_ne (tgt := 14) hx hb dX12_cond_9 (by decide) (fun hc => ?_) (fun hc => ?_)
  · replace hf := hf.1 hc
    clear hc
    obtain ⟨n, hf⟩ := hf
    exact M_cond_14_lw C hk5 n  u_1 _ _ _ hf hw (lv_sub hl [0] rfl)
  · replace hf := hf.2 hc
    clear hc
    refine lv_iconst (v := (0 : Int32)) hx hb dX12_cond_12 (by decide) ?_
    exact th_zret C hw hf dX12_cond_13
def M_cond_5_lp (K : Int32 → th_St → Prop) : Nat → th_St → Prop
  | 0, _ => False
  | n + 1, u => M_cond_5 K (M_cond_5_lp K n) u
set_option maxHeartbeats 4000000 in
set_option maxRecDepth 100000 in
theorem M_cond_5_lw {K : Int32 → th_St → Prop} (C : th_Cx p s m args meth c cX12_cond RX12 2 (some .boolean) (dC, dI) (th_ty cs) th_E0 A) (n : Nat) : ∀ (u : th_St) (H : Heap) (locs : List Loc) (ls : Array Slot), M_cond_5_lp K n u → th_wI (dC, dI) (wM cs q) A s.heap u H locs → lv_has ls 2 [(0, .ref (q 0))] → W p l e (th_rm 4 0 0) s m args below meth c H locs 0 0 (MQ below (va_Qi K (th_Post (dC, dI) (wM cs q) A) A) args s 0 0 A) (F0 m 5 ls []) := by
  induction n with
  | zero => intro u H locs ls hf; exact hf.elim
  | succ n ih =>
    intro u H locs ls hf hw hl
    exact M_cond_5_w C ih u H locs ls hf hw hl
def M_cond (u : th_St) (K : Int32 → th_St → Prop) : Prop :=
  ∀ u_1 : th_St, u_1 = th_si u 22 (0 : Int32) → ∃ n, M_cond_5_lp K n u_1
set_option maxHeartbeats 4000000 in
set_option maxRecDepth 100000 in
theorem M_cond_c {l : Launch} {dC : Nat → ClassId} {dI : Nat → Nat → Nat} {cs : Nat → ClassId} {q : Nat → Nat} {u : th_St} {K : Int32 → th_St → Prop} (hf : M_cond u K) : th_Ci l yX12_cond cX12_cond 2 (some .boolean) 4 0 0 (dC, dI) (th_ty cs) th_E0 (wM cs q) [.ref (q 0)] u K := by
  refine th_ofi (by decide) (Nat.le_of_ble_eq_true rfl) th_E0_ok ?_
  intro p e s m below meth c A ls C hw hl
  have C : th_Cx p s m _ meth c cX12_cond RX12 2 (some .boolean) (dC, dI) (th_ty cs) th_E0 A := C
  have hl : lv_has ls 2 [(0, .ref (q 0))] := hl
  generalize (List.toArray _ : Array Value) = args at C ⊢
  have hx := C.1
  have hb := C.2.1
  unfold M_cond at hf
  refine lv_aload_n hx hb dX12_cond_0 rfl (lv_at hl 0 rfl) ?_
  refine lv_iconst (v := (0 : Int32)) hx hb dX12_cond_1 (by decide) ?_
  refine mp_22 C hw dX12_cond_2 (fun u_1 e9 H locs hw => ?_)
  replace hf := hf u_1 e9
  clear e9
  obtain ⟨n, hf⟩ := hf
  exact M_cond_5_lw C n  u_1 _ _ _ hf hw (lv_sub hl [0] rfl)
end

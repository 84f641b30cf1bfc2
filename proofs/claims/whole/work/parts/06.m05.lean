section
variable {p : Program} {l : Launch} {e : Env} {s : State} {m : MethodId} {args : Array Value} {below : List Frame} {meth : Method} {c : Code} {dC : Nat → ClassId} {dI : Nat → Nat → Nat} {cs : Nat → ClassId} {q : Nat → Nat} {A : Nat → Prop}
/-! X12_spans -/
theorem dX12_spans_0 : decode cX12_spans 0 = .ok (.aload_n 0, 1) := by decide +kernel
theorem dX12_spans_1 : decode cX12_spans 1 = .ok (.iload_n 1, 1) := by decide +kernel
theorem dX12_spans_2 : decode cX12_spans 2 = .ok (.putfield 370, 3) := by decide +kernel
theorem dX12_spans_5 : decode cX12_spans 5 = .ok (.iconst 0, 1) := by decide +kernel
theorem dX12_spans_6 : decode cX12_spans 6 = .ok (.istore_n 2, 1) := by decide +kernel
theorem dX12_spans_7 : decode cX12_spans 7 = .ok (.iload_n 2, 1) := by decide +kernel
theorem dX12_spans_8 : decode cX12_spans 8 = .ok (.iload_n 1, 1) := by decide +kernel
theorem dX12_spans_9 : decode cX12_spans 9 = .ok (.if_icmp .ge 25, 3) := by decide +kernel
theorem dX12_spans_12 : decode cX12_spans 12 = .ok (.aload_n 0, 1) := by decide +kernel
theorem dX12_spans_13 : decode cX12_spans 13 = .ok (.getfield 113, 3) := by decide +kernel
theorem dX12_spans_16 : decode cX12_spans 16 = .ok (.iload_n 2, 1) := by decide +kernel
theorem dX12_spans_17 : decode cX12_spans 17 = .ok (.bipush 99, 2) := by decide +kernel
theorem dX12_spans_19 : decode cX12_spans 19 = .ok (.iastore, 1) := by decide +kernel
theorem dX12_spans_20 : decode cX12_spans 20 = .ok (.aload_n 0, 1) := by decide +kernel
theorem dX12_spans_21 : decode cX12_spans 21 = .ok (.getfield 116, 3) := by decide +kernel
theorem dX12_spans_24 : decode cX12_spans 24 = .ok (.iload_n 2, 1) := by decide +kernel
theorem dX12_spans_25 : decode cX12_spans 25 = .ok (.bipush (-99), 2) := by decide +kernel
theorem dX12_spans_27 : decode cX12_spans 27 = .ok (.iastore, 1) := by decide +kernel
theorem dX12_spans_28 : decode cX12_spans 28 = .ok (.iinc 2 1, 3) := by decide +kernel
theorem dX12_spans_31 : decode cX12_spans 31 = .ok (.goto (-24), 3) := by decide +kernel
theorem dX12_spans_34 : decode cX12_spans 34 = .ok (.iconst 0, 1) := by decide +kernel
theorem dX12_spans_35 : decode cX12_spans 35 = .ok (.istore_n 2, 1) := by decide +kernel
theorem dX12_spans_36 : decode cX12_spans 36 = .ok (.iload_n 2, 1) := by decide +kernel
theorem dX12_spans_37 : decode cX12_spans 37 = .ok (.iload_n 1, 1) := by decide +kernel
theorem dX12_spans_38 : decode cX12_spans 38 = .ok (.iconst 1, 1) := by decide +kernel
theorem dX12_spans_39 : decode cX12_spans 39 = .ok (.isub, 1) := by decide +kernel
theorem dX12_spans_40 : decode cX12_spans 40 = .ok (.if_icmp .ge 187, 3) := by decide +kernel
theorem dX12_spans_43 : decode cX12_spans 43 = .ok (.iconst 0, 1) := by decide +kernel
theorem dX12_spans_44 : decode cX12_spans 44 = .ok (.istore_n 3, 1) := by decide +kernel
theorem dX12_spans_45 : decode cX12_spans 45 = .ok (.iload_n 3, 1) := by decide +kernel
theorem dX12_spans_46 : decode cX12_spans 46 = .ok (.sipush 961, 3) := by decide +kernel
theorem dX12_spans_49 : decode cX12_spans 49 = .ok (.if_icmp .ge 47, 3) := by decide +kernel
theorem dX12_spans_52 : decode cX12_spans 52 = .ok (.aload_n 0, 1) := by decide +kernel
theorem dX12_spans_53 : decode cX12_spans 53 = .ok (.getfield 107, 3) := by decide +kernel
theorem dX12_spans_56 : decode cX12_spans 56 = .ok (.sipush 961, 3) := by decide +kernel
theorem dX12_spans_59 : decode cX12_spans 59 = .ok (.iload_n 2, 1) := by decide +kernel
theorem dX12_spans_60 : decode cX12_spans 60 = .ok (.imul, 1) := by decide +kernel
theorem dX12_spans_61 : decode cX12_spans 61 = .ok (.iload_n 3, 1) := by decide +kernel
theorem dX12_spans_62 : decode cX12_spans 62 = .ok (.iadd, 1) := by decide +kernel
theorem dX12_spans_63 : decode cX12_spans 63 = .ok (.baload, 1) := by decide +kernel
theorem dX12_spans_64 : decode cX12_spans 64 = .ok (.ifCond .eq 26, 3) := by decide +kernel
theorem dX12_spans_67 : decode cX12_spans 67 = .ok (.aload_n 0, 1) := by decide +kernel
theorem dX12_spans_68 : decode cX12_spans 68 = .ok (.getfield 103, 3) := by decide +kernel
theorem dX12_spans_71 : decode cX12_spans 71 = .ok (.sipush 961, 3) := by decide +kernel
theorem dX12_spans_74 : decode cX12_spans 74 = .ok (.iload_n 2, 1) := by decide +kernel
theorem dX12_spans_75 : decode cX12_spans 75 = .ok (.imul, 1) := by decide +kernel
theorem dX12_spans_76 : decode cX12_spans 76 = .ok (.iload_n 3, 1) := by decide +kernel
theorem dX12_spans_77 : decode cX12_spans 77 = .ok (.iadd, 1) := by decide +kernel
theorem dX12_spans_78 : decode cX12_spans 78 = .ok (.laload, 1) := by decide +kernel
theorem dX12_spans_79 : decode cX12_spans 79 = .ok (.lconst 0, 1) := by decide +kernel
theorem dX12_spans_80 : decode cX12_spans 80 = .ok (.lcmp, 1) := by decide +kernel
theorem dX12_spans_81 : decode cX12_spans 81 = .ok (.ifCond .le 9, 3) := by decide +kernel
theorem dX12_spans_84 : decode cX12_spans 84 = .ok (.aload_n 0, 1) := by decide +kernel
theorem dX12_spans_85 : decode cX12_spans 85 = .ok (.iload_n 2, 1) := by decide +kernel
theorem dX12_spans_86 : decode cX12_spans 86 = .ok (.iload_n 3, 1) := by decide +kernel
theorem dX12_spans_87 : decode cX12_spans 87 = .ok (.invokevirtual 373, 3) := by decide +kernel
theorem dX12_spans_90 : decode cX12_spans 90 = .ok (.iinc 3 1, 3) := by decide +kernel
theorem dX12_spans_93 : decode cX12_spans 93 = .ok (.goto (-48), 3) := by decide +kernel
theorem dX12_spans_96 : decode cX12_spans 96 = .ok (.iload_n 2, 1) := by decide +kernel
theorem dX12_spans_97 : decode cX12_spans 97 = .ok (.iload_n 1, 1) := by decide +kernel
theorem dX12_spans_98 : decode cX12_spans 98 = .ok (.iconst 2, 1) := by decide +kernel
theorem dX12_spans_99 : decode cX12_spans 99 = .ok (.isub, 1) := by decide +kernel
theorem dX12_spans_100 : decode cX12_spans 100 = .ok (.if_icmp .ne 6, 3) := by decide +kernel
theorem dX12_spans_103 : decode cX12_spans 103 = .ok (.goto 118, 3) := by decide +kernel
theorem dX12_spans_106 : decode cX12_spans 106 = .ok (.iconst 0, 1) := by decide +kernel
theorem dX12_spans_107 : decode cX12_spans 107 = .ok (.istore_n 3, 1) := by decide +kernel
theorem dX12_spans_108 : decode cX12_spans 108 = .ok (.iload_n 3, 1) := by decide +kernel
theorem dX12_spans_109 : decode cX12_spans 109 = .ok (.sipush 961, 3) := by decide +kernel
theorem dX12_spans_112 : decode cX12_spans 112 = .ok (.if_icmp .ge 109, 3) := by decide +kernel
theorem dX12_spans_115 : decode cX12_spans 115 = .ok (.iconst 0, 1) := by decide +kernel
theorem dX12_spans_116 : decode cX12_spans 116 = .ok (.istore 4, 2) := by decide +kernel
theorem dX12_spans_118 : decode cX12_spans 118 = .ok (.iconst 0, 1) := by decide +kernel
theorem dX12_spans_119 : decode cX12_spans 119 = .ok (.istore 5, 2) := by decide +kernel
theorem dX12_spans_121 : decode cX12_spans 121 = .ok (.iload 5, 2) := by decide +kernel
theorem dX12_spans_123 : decode cX12_spans 123 = .ok (.bipush 31, 2) := by decide +kernel
theorem dX12_spans_125 : decode cX12_spans 125 = .ok (.if_icmp .ge 74, 3) := by decide +kernel
theorem dX12_spans_128 : decode cX12_spans 128 = .ok (.iload 4, 2) := by decide +kernel
theorem dX12_spans_130 : decode cX12_spans 130 = .ok (.ifCond .ne 69, 3) := by decide +kernel
theorem dX12_spans_133 : decode cX12_spans 133 = .ok (.aload_n 0, 1) := by decide +kernel
theorem dX12_spans_134 : decode cX12_spans 134 = .ok (.getfield 107, 3) := by decide +kernel
theorem dX12_spans_137 : decode cX12_spans 137 = .ok (.sipush 961, 3) := by decide +kernel
theorem dX12_spans_140 : decode cX12_spans 140 = .ok (.iload_n 2, 1) := by decide +kernel
theorem dX12_spans_141 : decode cX12_spans 141 = .ok (.imul, 1) := by decide +kernel
theorem dX12_spans_142 : decode cX12_spans 142 = .ok (.bipush 31, 2) := by decide +kernel
theorem dX12_spans_144 : decode cX12_spans 144 = .ok (.iload 5, 2) := by decide +kernel
theorem dX12_spans_146 : decode cX12_spans 146 = .ok (.imul, 1) := by decide +kernel
theorem dX12_spans_147 : decode cX12_spans 147 = .ok (.iadd, 1) := by decide +kernel
theorem dX12_spans_148 : decode cX12_spans 148 = .ok (.iload_n 3, 1) := by decide +kernel
theorem dX12_spans_149 : decode cX12_spans 149 = .ok (.bipush 31, 2) := by decide +kernel
theorem dX12_spans_151 : decode cX12_spans 151 = .ok (.idiv, 1) := by decide +kernel
theorem dX12_spans_152 : decode cX12_spans 152 = .ok (.iadd, 1) := by decide +kernel
theorem dX12_spans_153 : decode cX12_spans 153 = .ok (.baload, 1) := by decide +kernel
theorem dX12_spans_154 : decode cX12_spans 154 = .ok (.ifCond .eq 36, 3) := by decide +kernel
theorem dX12_spans_157 : decode cX12_spans 157 = .ok (.aload_n 0, 1) := by decide +kernel
theorem dX12_spans_158 : decode cX12_spans 158 = .ok (.iload_n 2, 1) := by decide +kernel
theorem dX12_spans_159 : decode cX12_spans 159 = .ok (.iconst 1, 1) := by decide +kernel
theorem dX12_spans_160 : decode cX12_spans 160 = .ok (.iadd, 1) := by decide +kernel
theorem dX12_spans_161 : decode cX12_spans 161 = .ok (.iload 5, 2) := by decide +kernel
theorem dX12_spans_163 : decode cX12_spans 163 = .ok (.bipush 15, 2) := by decide +kernel
theorem dX12_spans_165 : decode cX12_spans 165 = .ok (.isub, 1) := by decide +kernel
theorem dX12_spans_166 : decode cX12_spans 166 = .ok (.iload_n 3, 1) := by decide +kernel
theorem dX12_spans_167 : decode cX12_spans 167 = .ok (.bipush 31, 2) := by decide +kernel
theorem dX12_spans_169 : decode cX12_spans 169 = .ok (.idiv, 1) := by decide +kernel
theorem dX12_spans_170 : decode cX12_spans 170 = .ok (.bipush 15, 2) := by decide +kernel
theorem dX12_spans_172 : decode cX12_spans 172 = .ok (.isub, 1) := by decide +kernel
theorem dX12_spans_173 : decode cX12_spans 173 = .ok (.iload_n 3, 1) := by decide +kernel
theorem dX12_spans_174 : decode cX12_spans 174 = .ok (.bipush 31, 2) := by decide +kernel
theorem dX12_spans_176 : decode cX12_spans 176 = .ok (.irem, 1) := by decide +kernel
theorem dX12_spans_177 : decode cX12_spans 177 = .ok (.bipush 15, 2) := by decide +kernel
theorem dX12_spans_179 : decode cX12_spans 179 = .ok (.isub, 1) := by decide +kernel
theorem dX12_spans_180 : decode cX12_spans 180 = .ok (.invokevirtual 361, 3) := by decide +kernel
theorem dX12_spans_183 : decode cX12_spans 183 = .ok (.ifCond .eq 7, 3) := by decide +kernel
theorem dX12_spans_186 : decode cX12_spans 186 = .ok (.iconst 1, 1) := by decide +kernel
theorem dX12_spans_187 : decode cX12_spans 187 = .ok (.goto 4, 3) := by decide +kernel
theorem dX12_spans_190 : decode cX12_spans 190 = .ok (.iconst 0, 1) := by decide +kernel
theorem dX12_spans_191 : decode cX12_spans 191 = .ok (.istore 4, 2) := by decide +kernel
theorem dX12_spans_193 : decode cX12_spans 193 = .ok (.iinc 5 1, 3) := by decide +kernel
theorem dX12_spans_196 : decode cX12_spans 196 = .ok (.goto (-75), 3) := by decide +kernel
theorem dX12_spans_199 : decode cX12_spans 199 = .ok (.aload_n 0, 1) := by decide +kernel
theorem dX12_spans_200 : decode cX12_spans 200 = .ok (.getfield 107, 3) := by decide +kernel
theorem dX12_spans_203 : decode cX12_spans 203 = .ok (.sipush 961, 3) := by decide +kernel
theorem dX12_spans_206 : decode cX12_spans 206 = .ok (.iload_n 2, 1) := by decide +kernel
theorem dX12_spans_207 : decode cX12_spans 207 = .ok (.iconst 1, 1) := by decide +kernel
theorem dX12_spans_208 : decode cX12_spans 208 = .ok (.iadd, 1) := by decide +kernel
theorem dX12_spans_209 : decode cX12_spans 209 = .ok (.imul, 1) := by decide +kernel
theorem dX12_spans_210 : decode cX12_spans 210 = .ok (.iload_n 3, 1) := by decide +kernel
theorem dX12_spans_211 : decode cX12_spans 211 = .ok (.iadd, 1) := by decide +kernel
theorem dX12_spans_212 : decode cX12_spans 212 = .ok (.iload 4, 2) := by decide +kernel
theorem dX12_spans_214 : decode cX12_spans 214 = .ok (.bastore, 1) := by decide +kernel
theorem dX12_spans_215 : decode cX12_spans 215 = .ok (.iinc 3 1, 3) := by decide +kernel
theorem dX12_spans_218 : decode cX12_spans 218 = .ok (.goto (-110), 3) := by decide +kernel
theorem dX12_spans_221 : decode cX12_spans 221 = .ok (.iinc 2 1, 3) := by decide +kernel
theorem dX12_spans_224 : decode cX12_spans 224 = .ok (.goto (-188), 3) := by decide +kernel
theorem dX12_spans_227 : decode cX12_spans 227 = .ok (.return_, 1) := by decide +kernel
def M_spans_90 (K : th_St → Prop) (k36 : Int32 → Int32 → th_St → Prop) (k45 : Int32 → Int32 → Int32 → th_St → Prop) (x1 : Int32) (x2 : Int32) (x3 : Int32) (u : th_St) : Prop :=
  ∀ x3_1 : Int32, x3_1 = x3 + (1 : Int32) → k45 x1 x2 x3_1 u
set_option maxHeartbeats 4000000 in
set_option maxRecDepth 100000 in
theorem M_spans_90_w {K : th_St → Prop} {k36 : Int32 → Int32 → th_St → Prop} {k45 : Int32 → Int32 → Int32 → th_St → Prop} (C : th_Cx p s m args meth c cX12_spans RX12 6 (none) (dC, dI) (th_ty cs) th_E0 A) (hk36 : ∀ (x1 : Int32) (x2 : Int32) (u : th_St) (H : Heap) (locs : List Loc) (ls : Array Slot), k36 x1 x2 u → th_wI (dC, dI) (wM cs q) A s.heap u H locs → lv_has ls 6 [(0, .ref (q 0)), (1, .int x1), (2, .int x2)] → W p l e (th_rm 2 0 0) s m args below meth c H locs 0 0 (MQ below (va_Qv K (th_Post (dC, dI) (wM cs q) A) A) args s 0 0 A) (F0 m 36 ls [])) (hk45 : ∀ (x1 : Int32) (x2 : Int32) (x3 : Int32) (u : th_St) (H : Heap) (locs : List Loc) (ls : Array Slot), k45 x1 x2 x3 u → th_wI (dC, dI) (wM cs q) A s.heap u H locs → lv_has ls 6 [(0, .ref (q 0)), (1, .int x1), (2, .int x2), (3, .int x3)] → W p l e (th_rm 2 0 0) s m args below meth c H locs 0 0 (MQ below (va_Qv K (th_Post (dC, dI) (wM cs q) A) A) args s 0 0 A) (F0 m 45 ls [])) (x1 : Int32) (x2 : Int32) (x3 : Int32) (u : th_St) (H : Heap) (locs : List Loc) (ls : Array Slot) (hf : M_spans_90 K k36 k45 x1 x2 x3 u) (hw : th_wI (dC, dI) (wM cs q) A s.heap u H locs) (hl : lv_has ls 6 [(0, .ref (q 0)), (1, .int x1), (2, .int x2), (3, .int x3)]) : W p l e (th_rm 2 0 0) s m args below meth c H locs 0 0 (MQ below (va_Qv K (th_Post (dC, dI) (wM cs q) A) A) args s 0 0 A) (F0 m 90 ls []) := by
  have hx := C.1
  have hb := C.2.1
  unfold M_spans_90 at hf
  obtain ⟨x3_1, e9⟩ : ∃ y : Int32, y = x3 + (1 : Int32) := ⟨_, rfl⟩
  replace hf := hf x3_1 e9
  refine lv_iinc (v := x3_1) (lv' := [(3, .int x3_1), (0, .ref (q 0)), (1, .int x1), (2, .int x2)]) hx hb dX12_spans_90 hl (k := 3) rfl (by rw [e9]; rfl) (by decide) rfl (fun ls hl => ?_)
  clear e9
  refine lv_goto (tgt := 45) hx hb dX12_spans_93 (by decide) ?_
  exact hk45 x1 x2 x3_1 u _ _ _ hf hw (lv_sub hl [1, 2, 3, 0] rfl)
def M_spans_191 (K : th_St → Prop) (k36 : Int32 → Int32 → th_St → Prop) (k108 : Int32 → Int32 → Int32 → th_St → Prop) (k121 : Int32 → Int32 → Int32 → Int32 → Int32 → th_St → Prop) (x1 : Int32) (x2 : Int32) (x3 : Int32) (x5 : Int32) (z0 : Int32) (u : th_St) : Prop :=
  ∀ x5_1 : Int32, x5_1 = x5 + (1 : Int32) → k121 x1 x2 x3 z0 x5_1 u
set_option maxHeartbeats 4000000 in
set_option maxRecDepth 100000 in
theorem M_spans_191_w {K : th_St → Prop} {k36 : Int32 → Int32 → th_St → Prop} {k108 : Int32 → Int32 → Int32 → th_St → Prop} {k121 : Int32 → Int32 → Int32 → Int32 → Int32 → th_St → Prop} (C : th_Cx p s m args meth c cX12_spans RX12 6 (none) (dC, dI) (th_ty cs) th_E0 A) (hk36 : ∀ (x1 : Int32) (x2 : Int32) (u : th_St) (H : Heap) (locs : List Loc) (ls : Array Slot), k36 x1 x2 u → th_wI (dC, dI) (wM cs q) A s.heap u H locs → lv_has ls 6 [(0, .ref (q 0)), (1, .int x1), (2, .int x2)] → W p l e (th_rm 2 0 0) s m args below meth c H locs 0 0 (MQ below (va_Qv K (th_Post (dC, dI) (wM cs q) A) A) args s 0 0 A) (F0 m 36 ls [])) (hk108 : ∀ (x1 : Int32) (x2 : Int32) (x3 : Int32) (u : th_St) (H : Heap) (locs : List Loc) (ls : Array Slot), k108 x1 x2 x3 u → th_wI (dC, dI) (wM cs q) A s.heap u H locs → lv_has ls 6 [(0, .ref (q 0)), (1, .int x1), (2, .int x2), (3, .int x3)] → W p l e (th_rm 2 0 0) s m args below meth c H locs 0 0 (MQ below (va_Qv K (th_Post (dC, dI) (wM cs q) A) A) args s 0 0 A) (F0 m 108 ls [])) (hk121 : ∀ (x1 : Int32) (x2 : Int32) (x3 : Int32) (x4 : Int32) (x5 : Int32) (u : th_St) (H : Heap) (locs : List Loc) (ls : Array Slot), k121 x1 x2 x3 x4 x5 u → th_wI (dC, dI) (wM cs q) A s.heap u H locs → lv_has ls 6 [(0, .ref (q 0)), (1, .int x1), (2, .int x2), (3, .int x3), (4, .int x4), (5, .int x5)] → W p l e (th_rm 2 0 0) s m args below meth c H locs 0 0 (MQ below (va_Qv K (th_Post (dC, dI) (wM cs q) A) A) args s 0 0 A) (F0 m 121 ls [])) (x1 : Int32) (x2 : Int32) (x3 : Int32) (x5 : Int32) (z0 : Int32) (u : th_St) (H : Heap) (locs : List Loc) (ls : Array Slot) (hf : M_spans_191 K k36 k108 k121 x1 x2 x3 x5 z0 u) (hw : th_wI (dC, dI) (wM cs q) A s.heap u H locs) (hl : lv_has ls 6 [(0, .ref (q 0)), (1, .int x1), (2, .int x2), (3, .int x3), (5, .int x5)]) : W p l e (th_rm 2 0 0) s m args below meth c H locs 0 0 (MQ below (va_Qv K (th_Post (dC, dI) (wM cs q) A) A) args s 0 0 A) (F0 m 191 ls [.int z0]) := by
  have hx := C.1
  have hb := C.2.1
  unfold M_spans_191 at hf
  refine lv_istore (lv' := [(4, .int z0), (0, .ref (q 0)), (1, .int x1), (2, .int x2), (3, .int x3), (5, .int x5)]) hx hb dX12_spans_191 hl (by decide) rfl (fun ls hl => ?_)
  obtain ⟨x5_1, e9⟩ : ∃ y : Int32, y = x5 + (1 : Int32) := ⟨_, rfl⟩
  replace hf := hf x5_1 e9
  refine lv_iinc (v := x5_1) (lv' := [(5, .int x5_1), (4, .int z0), (0, .ref (q 0)), (1, .int x1), (2, .int x2), (3, .int x3)]) hx hb dX12_spans_193 hl (k := 5) rfl (by rw [e9]; rfl) (by decide) rfl (fun ls hl => ?_)
  clear e9
  refine lv_goto (tgt := 121) hx hb dX12_spans_196 (by decide) ?_
  exact hk121 x1 x2 x3 z0 x5_1 u _ _ _ hf hw (lv_sub hl [2, 3, 4, 5, 1, 0] rfl)
def M_spans_190 (K : th_St → Prop) (k36 : Int32 → Int32 → th_St → Prop) (k108 : Int32 → Int32 → Int32 → th_St → Prop) (k121 : Int32 → Int32 → Int32 → Int32 → Int32 → th_St → Prop) (x1 : Int32) (x2 : Int32) (x3 : Int32) (x5 : Int32) (u : th_St) : Prop :=
  M_spans_191 K k36 k108 k121 x1 x2 x3 x5 (0 : Int32) u
set_option maxHeartbeats 4000000 in
set_option maxRecDepth 100000 in
theorem M_spans_190_w {K : th_St → Prop} {k36 : Int32 → Int32 → th_St → Prop} {k108 : Int32 → Int32 → Int32 → th_St → Prop} {k121 : Int32 → Int32 → Int32 → Int32 → Int32 → th_St → Prop} (C : th_Cx p s m args meth c cX12_spans RX12 6 (none) (dC, dI) (th_ty cs) th_E0 A) (hk36 : ∀ (x1 : Int32) (x2 : Int32) (u : th_St) (H : Heap) (locs : List Loc) (ls : Array Slot), k36 x1 x2 u → th_wI (dC, dI) (wM cs q) A s.heap u H locs → lv_has ls 6 [(0, .ref (q 0)), (1, .int x1), (2, .int x2)] → W p l e (th_rm 2 0 0) s m args below meth c H locs 0 0 (MQ below (va_Qv K (th_Post (dC, dI) (wM cs q) A) A) args s 0 0 A) (F0 m 36 ls [])) (hk108 : ∀ (x1 : Int32) (x2 : Int32) (x3 : Int32) (u : th_St) (H : Heap) (locs : List Loc) (ls : Array Slot), k108 x1 x2 x3 u → th_wI (dC, dI) (wM cs q) A s.heap u H locs → lv_has ls 6 [(0, .ref (q 0)), (1, .int x1), (2, .int x2), (3, .int x3)] → W p l e (th_rm 2 0 0) s m args below meth c H locs 0 0 (MQ below (va_Qv K (th_Post (dC, dI) (wM cs q) A) A) args s 0 0 A) (F0 m 108 ls [])) (hk121 : ∀ (x1 : Int32) (x2 : Int32) (x3 : Int32) (x4 : Int32) (x5 : Int32) (u : th_St) (H : Heap) (locs : List Loc) (ls : Array Slot), k121 x1 x2 x3 x4 x5 u → th_wI (dC, dI) (wM cs q) A s.heap u H locs → lv_has ls 6 [(0, .ref (q 0)), (1, .int x1), (2, .int x2), (3, .int x3), (4, .int x4), (5, .int x5)] → W p l e (th_rm 2 0 0) s m args below meth c H locs 0 0 (MQ below (va_Qv K (th_Post (dC, dI) (wM cs q) A) A) args s 0 0 A) (F0 m 121 ls [])) (x1 : Int32) (x2 : Int32) (x3 : Int32) (x5 : Int32) (u : th_St) (H : Heap) (locs : List Loc) (ls : Array Slot) (hf : M_spans_190 K k36 k108 k121 x1 x2 x3 x5 u) (hw : th_wI (dC, dI) (wM cs q) A s.heap u H locs) (hl : lv_has ls 6 [(0, .ref (q 0)), (1, .int x1), (2, .int x2), (3, .int x3), (5, .int x5)]) : W p l e (th_rm 2 0 0) s m args below meth c H locs 0 0 (MQ below (va_Qv K (th_Post (dC, dI) (wM cs q) A) A) args s 0 0 A) (F0 m 190 ls []) := by
  have hx := C.1
  have hb := C.2.1
  unfold M_spans_190 at hf
  refine lv_iconst (v := (0 : Int32)) hx hb dX12_spans_190 (by decide) ?_
  exact M_spans_191_w C hk36 hk108 hk121 x1 x2 x3 x5 (0 : Int32) u _ _ _ hf hw (lv_sub hl [0, 1, 2, 3, 4] rfl)
def M_spans_199 (K : th_St → Prop) (k36 : Int32 → Int32 → th_St → Prop) (k108 : Int32 → Int32 → Int32 → th_St → Prop) (x1 : Int32) (x2 : Int32) (x3 : Int32) (x4 : Int32) (u : th_St) : Prop :=
  (vp_in (((961 : Int32) * (x2 + (1 : Int32))) + x3) 45167 ∧ ∀ u_1 : th_St, u_1 = th_sa u 44 (upd (u.2.2.1 44) ((((961 : Int32) * (x2 + (1 : Int32))) + x3)).toNatClampNeg (vp_nar .boolean x4)) → ∀ x3_2 : Int32, x3_2 = x3 + (1 : Int32) → k108 x1 x2 x3_2 u_1)
set_option maxHeartbeats 4000000 in
set_option maxRecDepth 100000 in
theorem M_spans_199_w {K : th_St → Prop} {k36 : Int32 → Int32 → th_St → Prop} {k108 : Int32 → Int32 → Int32 → th_St → Prop} (C : th_Cx p s m args meth c cX12_spans RX12 6 (none) (dC, dI) (th_ty cs) th_E0 A) (hk36 : ∀ (x1 : Int32) (x2 : Int32) (u : th_St) (H : Heap) (locs : List Loc) (ls : Array Slot), k36 x1 x2 u → th_wI (dC, dI) (wM cs q) A s.heap u H locs → lv_has ls 6 [(0, .ref (q 0)), (1, .int x1), (2, .int x2)] → W p l e (th_rm 2 0 0) s m args below meth c H locs 0 0 (MQ below (va_Qv K (th_Post (dC, dI) (wM cs q) A) A) args s 0 0 A) (F0 m 36 ls [])) (hk108 : ∀ (x1 : Int32) (x2 : Int32) (x3 : Int32) (u : th_St) (H : Heap) (locs : List Loc) (ls : Array Slot), k108 x1 x2 x3 u → th_wI (dC, dI) (wM cs q) A s.heap u H locs → lv_has ls 6 [(0, .ref (q 0)), (1, .int x1), (2, .int x2), (3, .int x3)] → W p l e (th_rm 2 0 0) s m args below meth c H locs 0 0 (MQ below (va_Qv K (th_Post (dC, dI) (wM cs q) A) A) args s 0 0 A) (F0 m 108 ls [])) (x1 : Int32) (x2 : Int32) (x3 : Int32) (x4 : Int32) (u : th_St) (H : Heap) (locs : List Loc) (ls : Array Slot) (hf : M_spans_199 K k36 k108 x1 x2 x3 x4 u) (hw : th_wI (dC, dI) (wM cs q) A s.heap u H locs) (hl : lv_has ls 6 [(0, .ref (q 0)), (1, .int x1), (2, .int x2), (3, .int x3), (4, .int x4)]) : W p l e (th_rm 2 0 0) s m args below meth c H locs 0 0 (MQ below (va_Qv K (th_Post (dC, dI) (wM cs q) A) A) args s 0 0 A) (F0 m 199 ls []) := by
  have hx := C.1
  have hb := C.2.1
  unfold M_spans_199 at hf
  refine lv_aload_n hx hb dX12_spans_199 rfl (lv_at hl 0 rfl) ?_
  refine mg_44 C hw dX12_spans_200 ?_
  refine lv_sipush (v := (961 : Int32)) hx hb dX12_spans_203 (by decide) ?_
  refine lv_iload_n hx hb dX12_spans_206 rfl (lv_at hl 2 rfl) ?_
  refine lv_iconst (v := (1 : Int32)) hx hb dX12_spans_207 (by decide) ?_
  refine lv_iadd hx hb dX12_spans_208 ?_
  refine lv_imul hx hb dX12_spans_209 ?_
  refine lv_iload_n hx hb dX12_spans_210 rfl (lv_at hl 3 rfl) ?_
  refine lv_iadd hx hb dX12_spans_211 ?_
  refine lv_iload hx hb dX12_spans_212 (lv_at hl 4 rfl) ?_
  refine ms_44 C hw hf.1 dX12_spans_214 (fun u_1 e9 H locs hw => ?_)
  replace hf := hf.2 u_1 e9
  clear e9
  obtain ⟨x3_2, e9⟩ : ∃ y : Int32, y = x3 + (1 : Int32) := ⟨_, rfl⟩
  replace hf := hf x3_2 e9
  refine lv_iinc (v := x3_2) (lv' := [(3, .int x3_2), (0, .ref (q 0)), (1, .int x1), (2, .int x2), (4, .int x4)]) hx hb dX12_spans_215 hl (k := 3) rfl (by rw [e9]; rfl) (by decide) rfl (fun ls hl => ?_)
  clear e9
  refine lv_goto (tgt := 108) hx hb dX12_spans_218 (by decide) ?_
  exact hk108 x1 x2 x3_2 u_1 _ _ _ hf hw (lv_sub hl [1, 2, 3, 0] rfl)
def M_spans_121 (K : th_St → Prop) (k36 : Int32 → Int32 → th_St → Prop) (k108 : Int32 → Int32 → Int32 → th_St → Prop) (k121 : Int32 → Int32 → Int32 → Int32 → Int32 → th_St → Prop) (x1 : Int32) (x2 : Int32) (x3 : Int32) (x4 : Int32) (x5 : Int32) (u : th_St) : Prop :=
  (((31 : Int32) ≤ x5 → M_spans_199 K k36 k108 x1 x2 x3 x4 u) ∧ (¬ (31 : Int32) ≤ x5 → ((¬ x4 = 0 → M_spans_199 K k36 k108 x1 x2 x3 x4 u) ∧ (x4 = 0 → (¬ (31 : Int32) = 0 ∧ (vp_in ((((961 : Int32) * x2) + ((31 : Int32) * x5)) + (x3 / (31 : Int32))) 45167 ∧ ∀ y_1 : Int32, y_1 = u.2.2.1 44 (((((961 : Int32) * x2) + ((31 : Int32) * x5)) + (x3 / (31 : Int32)))).toNatClampNeg → ((y_1 = 0 → M_spans_190 K k36 k108 k121 x1 x2 x3 x5 u) ∧ (¬ y_1 = 0 → (¬ (31 : Int32) = 0 ∧ (¬ (31 : Int32) = 0 ∧ M_fits (x2 + (1 : Int32)) (x5 - (15 : Int32)) ((x3 / (31 : Int32)) - (15 : Int32)) ((x3 - x3 / (31 : Int32) * (31 : Int32)) - (15 : Int32)) u (fun r_3 u_2 => ((r_3 = 0 → M_spans_190 K k36 k108 k121 x1 x2 x3 x5 u_2) ∧ (¬ r_3 = 0 → M_spans_191 K k36 k108 k121 x1 x2 x3 x5 (1 : Int32) u_2)))))))))))))
set_option maxHeartbeats 4000000 in
set_option maxRecDepth 100000 in
theorem M_spans_121_w {K : th_St → Prop} {k36 : Int32 → Int32 → th_St → Prop} {k108 : Int32 → Int32 → Int32 → th_St → Prop} {k121 : Int32 → Int32 → Int32 → Int32 → Int32 → th_St → Prop} (C : th_Cx p s m args meth c cX12_spans RX12 6 (none) (dC, dI) (th_ty cs) th_E0 A) (hk36 : ∀ (x1 : Int32) (x2 : Int32) (u : th_St) (H : Heap) (locs : List Loc) (ls : Array Slot), k36 x1 x2 u → th_wI (dC, dI) (wM cs q) A s.heap u H locs → lv_has ls 6 [(0, .ref (q 0)), (1, .int x1), (2, .int x2)] → W p l e (th_rm 2 0 0) s m args below meth c H locs 0 0 (MQ below (va_Qv K (th_Post (dC, dI) (wM cs q) A) A) args s 0 0 A) (F0 m 36 ls [])) (hk108 : ∀ (x1 : Int32) (x2 : Int32) (x3 : Int32) (u : th_St) (H : Heap) (locs : List Loc) (ls : Array Slot), k108 x1 x2 x3 u → th_wI (dC, dI) (wM cs q) A s.heap u H locs → lv_has ls 6 [(0, .ref (q 0)), (1, .int x1), (2, .int x2), (3, .int x3)] → W p l e (th_rm 2 0 0) s m args below meth c H locs 0 0 (MQ below (va_Qv K (th_Post (dC, dI) (wM cs q) A) A) args s 0 0 A) (F0 m 108 ls [])) (hk121 : ∀ (x1 : Int32) (x2 : Int32) (x3 : Int32) (x4 : Int32) (x5 : Int32) (u : th_St) (H : Heap) (locs : List Loc) (ls : Array Slot), k121 x1 x2 x3 x4 x5 u → th_wI (dC, dI) (wM cs q) A s.heap u H locs → lv_has ls 6 [(0, .ref (q 0)), (1, .int x1), (2, .int x2), (3, .int x3), (4, .int x4), (5, .int x5)] → W p l e (th_rm 2 0 0) s m args below meth c H locs 0 0 (MQ below (va_Qv K (th_Post (dC, dI) (wM cs q) A) A) args s 0 0 A) (F0 m 121 ls [])) (x1 : Int32) (x2 : Int32) (x3 : Int32) (x4 : Int32) (x5 : Int32) (u : th_St) (H : Heap) (locs : List Loc) (ls : Array Slot) (hf : M_spans_121 K k36 k108 k121 x1 x2 x3 x4 x5 u) (hw : th_wI (dC, dI) (wM cs q) A s.heap u H locs) (hl : lv_has ls 6 [(0, .ref (q 0)), (1, .int x1), (2, .int x2), (3, .int x3), (4, .int x4), (5, .int x5)]) : W p l e (th_rm 2 0 0) s m args below meth c H locs 0 0 (MQ below (va_Qv K (th_Post (dC, dI) (wM cs q) A) A) args s 0 0 A) (F0 m 121 ls []) := by
  have hx := C.1
  have hb := C.2.1
  unfold M_spans_121 at hf
  refine lv_iload hx hb dX12_spans_121 (lv_at hl 5 rfl) ?_
  refine lv_bipush (v := (31 : Int32)) hx hb dX12_spans_123 (by decide) ?_
  refine lv_icmp_ge (tgt := 199) hx hb dX12_spans_125 (by decide) (fun hc => ?_) (fun hc => ?_)
  · replace hf := hf.1 hc
    clear hc
    exact M_spans_199_w C hk36 hk108 x1 x2 x3 x4 u _ _ _ hf hw (lv_sub hl [0, 1, 2, 3, 4] rfl)
  · replace hf := hf.2 hc
    clear hc
    refine lv_iload hx hb dX12_spans_128 (lv_at hl 4 rfl) ?_
    refine lv_if_ne (tgt := 199) hx hb dX12_spans_130 (by decide) (fun hc => ?_) (fun hc => ?_)
    · replace hf := hf.1 hc
      clear hc
      exact M_spans_199_w C hk36 hk108 x1 x2 x3 x4 u _ _ _ hf hw (lv_sub hl [0, 1, 2, 3, 4] rfl)
    · replace hf := hf.2 hc
      clear hc
      refine lv_aload_n hx hb dX12_spans_133 rfl (lv_at hl 0 rfl) ?_
      refine mg_44 C hw dX12_spans_134 ?_
      refine lv_sipush (v := (961 : Int32)) hx hb dX12_spans_137 (by decide) ?_
      refine lv_iload_n hx hb dX12_spans_140 rfl (lv_at hl 2 rfl) ?_
      refine lv_imul hx hb dX12_spans_141 ?_
      refine lv_bipush (v := (31 : Int32)) hx hb dX12_spans_142 (by decide) ?_
      refine lv_iload hx hb dX12_spans_144 (lv_at hl 5 rfl) ?_
      refine lv_imul hx hb dX12_spans_146 ?_
      refine lv_iadd hx hb dX12_spans_147 ?_
      refine lv_iload_n hx hb dX12_spans_148 rfl (lv_at hl 3 rfl) ?_
      refine lv_bipush (v := (31 : Int32)) hx hb dX12_spans_149 (by decide) ?_
      refine lv_idiv hx hb dX12_spans_151 hf.1 ?_
      replace hf := hf.2
      refine lv_iadd hx hb dX12_spans_152 ?_
      refine ml_44 C hw hf.1 dX12_spans_153 (fun y_1 e9 => ?_)
      replace hf := hf.2 y_1 e9
      clear e9
      refine lv_if_eq (tgt := 190) hx hb dX12_spans_154 (by decide) (fun hc => ?_) (fun hc => ?_)
      · replace hf := hf.1 hc
        clear hc
        exact M_spans_190_w C hk36 hk108 hk121 x1 x2 x3 x5 u _ _ _ hf hw (lv_sub hl [0, 1, 2, 3, 5] rfl)
      · replace hf := hf.2 hc
        clear hc
        refine lv_aload_n hx hb dX12_spans_157 rfl (lv_at hl 0 rfl) ?_
        refine lv_iload_n hx hb dX12_spans_158 rfl (lv_at hl 2 rfl) ?_
        refine lv_iconst (v := (1 : Int32)) hx hb dX12_spans_159 (by decide) ?_
        refine lv_iadd hx hb dX12_spans_160 ?_
        refine lv_iload hx hb dX12_spans_161 (lv_at hl 5 rfl) ?_
        refine lv_bipush (v := (15 : Int32)) hx hb dX12_spans_163 (by decide) ?_
        refine lv_isub hx hb dX12_spans_165 ?_
        refine lv_iload_n hx hb dX12_spans_166 rfl (lv_at hl 3 rfl) ?_
        refine lv_bipush (v := (31 : Int32)) hx hb dX12_spans_167 (by decide) ?_
        refine lv_idiv hx hb dX12_spans_169 hf.1 ?_
        replace hf := hf.2
        refine lv_bipush (v := (15 : Int32)) hx hb dX12_spans_170 (by decide) ?_
        refine lv_isub hx hb dX12_spans_172 ?_
        refine lv_iload_n hx hb dX12_spans_173 rfl (lv_at hl 3 rfl) ?_
        refine lv_bipush (v := (31 : Int32)) hx hb dX12_spans_174 (by decide) ?_
        refine lv_irem hx hb dX12_spans_176 hf.1 ?_
        replace hf := hf.2
        refine lv_bipush (v := (15 : Int32)) hx hb dX12_spans_177 (by decide) ?_
        refine lv_isub hx hb dX12_spans_179 ?_
        refine th_callVi (As := [.int (x2 + (1 : Int32)), .int (x5 - (15 : Int32)), .int ((x3 / (31 : Int32)) - (15 : Int32)), .int ((x3 - x3 / (31 : Int32) * (31 : Int32)) - (15 : Int32))]) (rest := []) C lkX12_361 (M_fits_c hf) hw (mRc C hw) rfl rfl ⟨Nat.le_of_ble_eq_true rfl, Nat.le_of_ble_eq_true rfl⟩ hl.1 (Nat.le_of_ble_eq_true rfl) ⟨Nat.le_refl _, Nat.le_refl _⟩ dX12_spans_180 (fun r_3 u_2 H locs hf hw => ?_)
        refine lv_if_eq (tgt := 190) hx hb dX12_spans_183 (by decide) (fun hc => ?_) (fun hc => ?_)
        · replace hf := hf.1 hc
          clear hc
          exact M_spans_190_w C hk36 hk108 hk121 x1 x2 x3 x5 u_2 _ _ _ hf hw (lv_sub hl [0, 1, 2, 3, 5] rfl)
        · replace hf := hf.2 hc
          clear hc
          refine lv_iconst (v := (1 : Int32)) hx hb dX12_spans_186 (by decide) ?_
          refine lv_goto (tgt := 191) hx hb dX12_spans_187 (by decide) ?_
          exact M_spans_191_w C hk36 hk108 hk121 x1 x2 x3 x5 (1 : Int32) u_2 _ _ _ hf hw (lv_sub hl [0, 1, 2, 3, 5] rfl)
def M_spans_121_lp (K : th_St → Prop) (k36 : Int32 → Int32 → th_St → Prop) (k108 : Int32 → Int32 → Int32 → th_St → Prop) : Nat → Int32 → Int32 → Int32 → Int32 → Int32 → th_St → Prop
  | 0, _, _, _, _, _, _ => False
  | n + 1, x1, x2, x3, x4, x5, u => M_spans_121 K k36 k108 (M_spans_121_lp K k36 k108 n) x1 x2 x3 x4 x5 u
set_option maxHeartbeats 4000000 in
set_option maxRecDepth 100000 in
theorem M_spans_121_lw {K : th_St → Prop} {k36 : Int32 → Int32 → th_St → Prop} {k108 : Int32 → Int32 → Int32 → th_St → Prop} (C : th_Cx p s m args meth c cX12_spans RX12 6 (none) (dC, dI) (th_ty cs) th_E0 A) (hk36 : ∀ (x1 : Int32) (x2 : Int32) (u : th_St) (H : Heap) (locs : List Loc) (ls : Array Slot), k36 x1 x2 u → th_wI (dC, dI) (wM cs q) A s.heap u H locs → lv_has ls 6 [(0, .ref (q 0)), (1, .int x1), (2, .int x2)] → W p l e (th_rm 2 0 0) s m args below meth c H locs 0 0 (MQ below (va_Qv K (th_Post (dC, dI) (wM cs q) A) A) args s 0 0 A) (F0 m 36 ls [])) (hk108 : ∀ (x1 : Int32) (x2 : Int32) (x3 : Int32) (u : th_St) (H : Heap) (locs : List Loc) (ls : Array Slot), k108 x1 x2 x3 u → th_wI (dC, dI) (wM cs q) A s.heap u H locs → lv_has ls 6 [(0, .ref (q 0)), (1, .int x1), (2, .int x2), (3, .int x3)] → W p l e (th_rm 2 0 0) s m args below meth c H locs 0 0 (MQ below (va_Qv K (th_Post (dC, dI) (wM cs q) A) A) args s 0 0 A) (F0 m 108 ls [])) (n : Nat) : ∀ (x1 : Int32) (x2 : Int32) (x3 : Int32) (x4 : Int32) (x5 : Int32) (u : th_St) (H : Heap) (locs : List Loc) (ls : Array Slot), M_spans_121_lp K k36 k108 n x1 x2 x3 x4 x5 u → th_wI (dC, dI) (wM cs q) A s.heap u H locs → lv_has ls 6 [(0, .ref (q 0)), (1, .int x1), (2, .int x2), (3, .int x3), (4, .int x4), (5, .int x5)] → W p l e (th_rm 2 0 0) s m args below meth c H locs 0 0 (MQ below (va_Qv K (th_Post (dC, dI) (wM cs q) A) A) args s 0 0 A) (F0 m 121 ls []) := by
  induction n with
  | zero => intro x1 x2 x3 x4 x5 u H locs ls hf; exact hf.elim
  | succ n ih =>
    intro x1 x2 x3 x4 x5 u H locs ls hf hw hl
    exact M_spans_121_w C hk36 hk108 ih x1 x2 x3 x4 x5 u H locs ls hf hw hl
def M_spans_221 (K : th_St → Prop) (k36 : Int32 → Int32 → th_St → Prop) (x1 : Int32) (x2 : Int32) (u : th_St) : Prop :=
  ∀ x2_1 : Int32, x2_1 = x2 + (1 : Int32) → k36 x1 x2_1 u
set_option maxHeartbeats 4000000 in
set_option maxRecDepth 100000 in
theorem M_spans_221_w {K : th_St → Prop} {k36 : Int32 → Int32 → th_St → Prop} (C : th_Cx p s m args meth c cX12_spans RX12 6 (none) (dC, dI) (th_ty cs) th_E0 A) (hk36 : ∀ (x1 : Int32) (x2 : Int32) (u : th_St) (H : Heap) (locs : List Loc) (ls : Array Slot), k36 x1 x2 u → th_wI (dC, dI) (wM cs q) A s.heap u H locs → lv_has ls 6 [(0, .ref (q 0)), (1, .int x1), (2, .int x2)] → W p l e (th_rm 2 0 0) s m args below meth c H locs 0 0 (MQ below (va_Qv K (th_Post (dC, dI) (wM cs q) A) A) args s 0 0 A) (F0 m 36 ls [])) (x1 : Int32) (x2 : Int32) (u : th_St) (H : Heap) (locs : List Loc) (ls : Array Slot) (hf : M_spans_221 K k36 x1 x2 u) (hw : th_wI (dC, dI) (wM cs q) A s.heap u H locs) (hl : lv_has ls 6 [(0, .ref (q 0)), (1, .int x1), (2, .int x2)]) : W p l e (th_rm 2 0 0) s m args below meth c H locs 0 0 (MQ below (va_Qv K (th_Post (dC, dI) (wM cs q) A) A) args s 0 0 A) (F0 m 221 ls []) := by
  have hx := C.1
  have hb := C.2.1
  unfold M_spans_221 at hf
  obtain ⟨x2_1, e9⟩ : ∃ y : Int32, y = x2 + (1 : Int32) := ⟨_, rfl⟩
  replace hf := hf x2_1 e9
  refine lv_iinc (v := x2_1) (lv' := [(2, .int x2_1), (0, .ref (q 0)), (1, .int x1)]) hx hb dX12_spans_221 hl (k := 2) rfl (by rw [e9]; rfl) (by decide) rfl (fun ls hl => ?_)
  clear e9
  refine lv_goto (tgt := 36) hx hb dX12_spans_224 (by decide) ?_
  exact hk36 x1 x2_1 u _ _ _ hf hw (lv_sub hl [1, 2, 0] rfl)
def M_spans_108 (K : th_St → Prop) (k36 : Int32 → Int32 → th_St → Prop) (k108 : Int32 → Int32 → Int32 → th_St → Prop) (x1 : Int32) (x2 : Int32) (x3 : Int32) (u : th_St) : Prop :=
  (((961 : Int32) ≤ x3 → M_spans_221 K k36 x1 x2 u) ∧ (¬ (961 : Int32) ≤ x3 → ∃ n, M_spans_121_lp K k36 k108 n x1 x2 x3 (0 : Int32) (0 : Int32) u))
set_option maxHeartbeats 4000000 in
set_option maxRecDepth 100000 in
theorem M_spans_108_w {K : th_St → Prop} {k36 : Int32 → Int32 → th_St → Prop} {k108 : Int32 → Int32 → Int32 → th_St → Prop} (C : th_Cx p s m args meth c cX12_spans RX12 6 (none) (dC, dI) (th_ty cs) th_E0 A) (hk36 : ∀ (x1 : Int32) (x2 : Int32) (u : th_St) (H : Heap) (locs : List Loc) (ls : Array Slot), k36 x1 x2 u → th_wI (dC, dI) (wM cs q) A s.heap u H locs → lv_has ls 6 [(0, .ref (q 0)), (1, .int x1), (2, .int x2)] → W p l e (th_rm 2 0 0) s m args below meth c H locs 0 0 (MQ below (va_Qv K (th_Post (dC, dI) (wM cs q) A) A) args s 0 0 A) (F0 m 36 ls [])) (hk108 : ∀ (x1 : Int32) (x2 : Int32) (x3 : Int32) (u : th_St) (H : Heap) (locs : List Loc) (ls : Array Slot), k108 x1 x2 x3 u → th_wI (dC, dI) (wM cs q) A s.heap u H locs → lv_has ls 6 [(0, .ref (q 0)), (1, .int x1), (2, .int x2), (3, .int x3)] → W p l e (th_rm 2 0 0) s m args below meth c H locs 0 0 (MQ below (va_Qv K (th_Post (dC, dI) (wM cs q) A) A) args s 0 0 A) (F0 m 108 ls [])) (x1 : Int32) (x2 : Int32) (x3 : Int32) (u : th_St) (H : Heap) (locs : List Loc) (ls : Array Slot) (hf : M_spans_108 K k36 k108 x1 x2 x3 u) (hw : th_wI (dC, dI) (wM cs q) A s.heap u H locs) (hl : lv_has ls 6 [(0, .ref (q 0)), (1, .int x1), (2, .int x2), (3, .int x3)]) : W p l e (th_rm 2 0 0) s m args below meth c H locs 0 0 (MQ below (va_Qv K (th_Post (dC, dI) (wM cs q) A) A) args s 0 0 A) (F0 m 108 ls []) := by
  have hx := C.1
  have hb := C.2.1
  unfold M_spans_108 at hf
  refine lv_iload_n hx hb dX12_spans_108 rfl (lv_at hl 3 rfl) ?_
  refine lv_sipush (v := (961 : Int32)) hx hb dX12_spans_109 (by decide) ?_
  refine lv_icmp_ge (tgt := 221) hx hb dX12_spans_112 (by decide) (fun hc => ?_) (fun hc => ?_)
  · replace hf := hf.1 hc
    clear hc
    exact M_spans_221_w C hk36 x1 x2 u _ _ _ hf hw (lv_sub hl [0, 1, 2] rfl)
  · replace hf := hf.2 hc
    clear hc
    refine lv_iconst (v := (0 : Int32)) hx hb dX12_spans_115 (by decide) ?_
    refine lv_istore (lv' := [(4, .int (0 : Int32)), (0, .ref (q 0)), (1, .int x1), (2, .int x2), (3, .int x3)]) hx hb dX12_spans_116 hl (by decide) rfl (fun ls hl => ?_)
    refine lv_iconst (v := (0 : Int32)) hx hb dX12_spans_118 (by decide) ?_
    refine lv_istore (lv' := [(5, .int (0 : Int32)), (4, .int (0 : Int32)), (0, .ref (q 0)), (1, .int x1), (2, .int x2), (3, .int x3)]) hx hb dX12_spans_119 hl (by decide) rfl (fun ls hl => ?_)
    obtain ⟨n, hf⟩ := hf
    exact M_spans_121_lw C hk36 hk108 n x1 x2 x3 (0 : Int32) (0 : Int32) u _ _ _ hf hw (lv_sub hl [2, 3, 4, 5, 1, 0] rfl)
def M_spans_108_lp (K : th_St → Prop) (k36 : Int32 → Int32 → th_St → Prop) : Nat → Int32 → Int32 → Int32 → th_St → Prop
  | 0, _, _, _, _ => False
  | n + 1, x1, x2, x3, u => M_spans_108 K k36 (M_spans_108_lp K k36 n) x1 x2 x3 u
set_option maxHeartbeats 4000000 in
set_option maxRecDepth 100000 in
theorem M_spans_108_lw {K : th_St → Prop} {k36 : Int32 → Int32 → th_St → Prop} (C : th_Cx p s m args meth c cX12_spans RX12 6 (none) (dC, dI) (th_ty cs) th_E0 A) (hk36 : ∀ (x1 : Int32) (x2 : Int32) (u : th_St) (H : Heap) (locs : List Loc) (ls : Array Slot), k36 x1 x2 u → th_wI (dC, dI) (wM cs q) A s.heap u H locs → lv_has ls 6 [(0, .ref (q 0)), (1, .int x1), (2, .int x2)] → W p l e (th_rm 2 0 0) s m args below meth c H locs 0 0 (MQ below (va_Qv K (th_Post (dC, dI) (wM cs q) A) A) args s 0 0 A) (F0 m 36 ls [])) (n : Nat) : ∀ (x1 : Int32) (x2 : Int32) (x3 : Int32) (u : th_St) (H : Heap) (locs : List Loc) (ls : Array Slot), M_spans_108_lp K k36 n x1 x2 x3 u → th_wI (dC, dI) (wM cs q) A s.heap u H locs → lv_has ls 6 [(0, .ref (q 0)), (1, .int x1), (2, .int x2), (3, .int x3)] → W p l e (th_rm 2 0 0) s m args below meth c H locs 0 0 (MQ below (va_Qv K (th_Post (dC, dI) (wM cs q) A) A) args s 0 0 A) (F0 m 108 ls []) := by
  induction n with
  | zero => intro x1 x2 x3 u H locs ls hf; exact hf.elim
  | succ n ih =>
    intro x1 x2 x3 u H locs ls hf hw hl
    exact M_spans_108_w C hk36 ih x1 x2 x3 u H locs ls hf hw hl
def M_spans_45 (K : th_St → Prop) (k36 : Int32 → Int32 → th_St → Prop) (k45 : Int32 → Int32 → Int32 → th_St → Prop) (x1 : Int32) (x2 : Int32) (x3 : Int32) (u : th_St) : Prop :=
  (((961 : Int32) ≤ x3 → ((¬ x2 = (x1 - (2 : Int32)) → ∃ n, M_spans_108_lp K k36 n x1 x2 (0 : Int32) u) ∧ (x2 = (x1 - (2 : Int32)) → M_spans_221 K k36 x1 x2 u))) ∧ (¬ (961 : Int32) ≤ x3 → (vp_in (((961 : Int32) * x2) + x3) 45167 ∧ ∀ y_1 : Int32, y_1 = u.2.2.1 44 ((((961 : Int32) * x2) + x3)).toNatClampNeg → ((y_1 = 0 → M_spans_90 K k36 k45 x1 x2 x3 u) ∧ (¬ y_1 = 0 → (vp_in (((961 : Int32) * x2) + x3) 45167 ∧ ∀ y_2 : Int64, y_2 = u.2.2.2 43 ((((961 : Int32) * x2) + x3)).toNatClampNeg → (((lg_cmp y_2 (0 : Int64)) ≤ 0 → M_spans_90 K k36 k45 x1 x2 x3 u) ∧ (¬ (lg_cmp y_2 (0 : Int64)) ≤ 0 → M_both x2 x3 u (fun u_3 => M_spans_90 K k36 k45 x1 x2 x3 u_3)))))))))
set_option maxHeartbeats 4000000 in
set_option maxRecDepth 100000 in
theorem M_spans_45_w {K : th_St → Prop} {k36 : Int32 → Int32 → th_St → Prop} {k45 : Int32 → Int32 → Int32 → th_St → Prop} (C : th_Cx p s m args meth c cX12_spans RX12 6 (none) (dC, dI) (th_ty cs) th_E0 A) (hk36 : ∀ (x1 : Int32) (x2 : Int32) (u : th_St) (H : Heap) (locs : List Loc) (ls : Array Slot), k36 x1 x2 u → th_wI (dC, dI) (wM cs q) A s.heap u H locs → lv_has ls 6 [(0, .ref (q 0)), (1, .int x1), (2, .int x2)] → W p l e (th_rm 2 0 0) s m args below meth c H locs 0 0 (MQ below (va_Qv K (th_Post (dC, dI) (wM cs q) A) A) args s 0 0 A) (F0 m 36 ls [])) (hk45 : ∀ (x1 : Int32) (x2 : Int32) (x3 : Int32) (u : th_St) (H : Heap) (locs : List Loc) (ls : Array Slot), k45 x1 x2 x3 u → th_wI (dC, dI) (wM cs q) A s.heap u H locs → lv_has ls 6 [(0, .ref (q 0)), (1, .int x1), (2, .int x2), (3, .int x3)] → W p l e (th_rm 2 0 0) s m args below meth c H locs 0 0 (MQ below (va_Qv K (th_Post (dC, dI) (wM cs q) A) A) args s 0 0 A) (F0 m 45 ls [])) (x1 : Int32) (x2 : Int32) (x3 : Int32) (u : th_St) (H : Heap) (locs : List Loc) (ls : Array Slot) (hf : M_spans_45 K k36 k45 x1 x2 x3 u) (hw : th_wI (dC, dI) (wM cs q) A s.heap u H locs) (hl : lv_has ls 6 [(0, .ref (q 0)), (1, .int x1), (2, .int x2), (3, .int x3)]) : W p l e (th_rm 2 0 0) s m args below meth c H locs 0 0 (MQ below (va_Qv K (th_Post (dC, dI) (wM cs q) A) A) args s 0 0 A) (F0 m 45 ls []) := by
  have hx := C.1
  have hb := C.2.1
  unfold M_spans_45 at hf
  refine lv_iload_n hx hb dX12_spans_45 rfl (lv_at hl 3 rfl) ?_
  refine lv_sipush (v := (961 : Int32)) hx hb dX12_spans_46 (by decide) ?_
  refine lv_icmp_ge (tgt := 96) hx hb dX12_spans_49 (by decide) (fun hc => ?_) (fun hc => ?_)
  · replace hf := hf.1 hc
    clear hc
    refine lv_iload_n hx hb dX12_spans_96 rfl (lv_at hl 2 rfl) ?_
    refine lv_iload_n hx hb dX12_spans_97 rfl (lv_at hl 1 rfl) ?_
    refine lv_iconst (v := (2 : Int32)) hx hb dX12_spans_98 (by decide) ?_
    refine lv_isub hx hb dX12_spans_99 ?_
    refine lv_icmp_ne (tgt := 106) hx hb dX12_spans_100 (by decide) (fun hc => ?_) (fun hc => ?_)
    · replace hf := hf.1 hc
      clear hc
      refine lv_iconst (v := (0 : Int32)) hx hb dX12_spans_106 (by decide) ?_
      refine lv_istore_n (lv' := [(3, .int (0 : Int32)), (0, .ref (q 0)), (1, .int x1), (2, .int x2)]) hx hb dX12_spans_107 rfl hl (by decide) rfl (fun ls hl => ?_)
      obtain ⟨n, hf⟩ := hf
      exact M_spans_108_lw C hk36 n x1 x2 (0 : Int32) u _ _ _ hf hw (lv_sub hl [1, 2, 3, 0] rfl)
    · replace hf := hf.2 hc
      clear hc
      refine lv_goto (tgt := 221) hx hb dX12_spans_103 (by decide) ?_
      exact M_spans_221_w C hk36 x1 x2 u _ _ _ hf hw (lv_sub hl [0, 1, 2] rfl)
  · replace hf := hf.2 hc
    clear hc
    refine lv_aload_n hx hb dX12_spans_52 rfl (lv_at hl 0 rfl) ?_
    refine mg_44 C hw dX12_spans_53 ?_
    refine lv_sipush (v := (961 : Int32)) hx hb dX12_spans_56 (by decide) ?_
    refine lv_iload_n hx hb dX12_spans_59 rfl (lv_at hl 2 rfl) ?_
    refine lv_imul hx hb dX12_spans_60 ?_
    refine lv_iload_n hx hb dX12_spans_61 rfl (lv_at hl 3 rfl) ?_
    refine lv_iadd hx hb dX12_spans_62 ?_
    refine ml_44 C hw hf.1 dX12_spans_63 (fun y_1 e9 => ?_)
    replace hf := hf.2 y_1 e9
    clear e9
    refine lv_if_eq (tgt := 90) hx hb dX12_spans_64 (by decide) (fun hc => ?_) (fun hc => ?_)
    · replace hf := hf.1 hc
      clear hc
      exact M_spans_90_w C hk36 hk45 x1 x2 x3 u _ _ _ hf hw (lv_sub hl [0, 1, 2, 3] rfl)
    · replace hf := hf.2 hc
      clear hc
      refine lv_aload_n hx hb dX12_spans_67 rfl (lv_at hl 0 rfl) ?_
      refine mg_43 C hw dX12_spans_68 ?_
      refine lv_sipush (v := (961 : Int32)) hx hb dX12_spans_71 (by decide) ?_
      refine lv_iload_n hx hb dX12_spans_74 rfl (lv_at hl 2 rfl) ?_
      refine lv_imul hx hb dX12_spans_75 ?_
      refine lv_iload_n hx hb dX12_spans_76 rfl (lv_at hl 3 rfl) ?_
      refine lv_iadd hx hb dX12_spans_77 ?_
      refine ml_43 C hw hf.1 dX12_spans_78 (fun y_2 e9 => ?_)
      replace hf := hf.2 y_2 e9
      clear e9
      refine lv_lconst (v := (0 : Int64)) hx hb dX12_spans_79 (by decide) ?_
      refine W.lcmp hx hb dX12_spans_80 ?_
      refine lv_if_le (tgt := 90) hx hb dX12_spans_81 (by decide) (fun hc => ?_) (fun hc => ?_)
      · replace hf := hf.1 hc
        clear hc
        exact M_spans_90_w C hk36 hk45 x1 x2 x3 u _ _ _ hf hw (lv_sub hl [0, 1, 2, 3] rfl)
      · replace hf := hf.2 hc
        clear hc
        refine lv_aload_n hx hb dX12_spans_84 rfl (lv_at hl 0 rfl) ?_
        refine lv_iload_n hx hb dX12_spans_85 rfl (lv_at hl 2 rfl) ?_
        refine lv_iload_n hx hb dX12_spans_86 rfl (lv_at hl 3 rfl) ?_
        refine th_callVv (As := [.int x2, .int x3]) (rest := []) C lkX12_373 (M_both_c hf) hw (mRc C hw) rfl rfl ⟨Nat.le_of_ble_eq_true rfl, Nat.le_of_ble_eq_true rfl⟩ hl.1 (Nat.le_of_ble_eq_true rfl) ⟨Nat.le_refl _, Nat.le_refl _⟩ dX12_spans_87 (fun u_3 H locs hf hw => ?_)
        exact M_spans_90_w C hk36 hk45 x1 x2 x3 u_3 _ _ _ hf hw (lv_sub hl [0, 1, 2, 3] rfl)
def M_spans_45_lp (K : th_St → Prop) (k36 : Int32 → Int32 → th_St → Prop) : Nat → Int32 → Int32 → Int32 → th_St → Prop
  | 0, _, _, _, _ => False
  | n + 1, x1, x2, x3, u => M_spans_45 K k36 (M_spans_45_lp K k36 n) x1 x2 x3 u
set_option maxHeartbeats 4000000 in
set_option maxRecDepth 100000 in
theorem M_spans_45_lw {K : th_St → Prop} {k36 : Int32 → Int32 → th_St → Prop} (C : th_Cx p s m args meth c cX12_spans RX12 6 (none) (dC, dI) (th_ty cs) th_E0 A) (hk36 : ∀ (x1 : Int32) (x2 : Int32) (u : th_St) (H : Heap) (locs : List Loc) (ls : Array Slot), k36 x1 x2 u → th_wI (dC, dI) (wM cs q) A s.heap u H locs → lv_has ls 6 [(0, .ref (q 0)), (1, .int x1), (2, .int x2)] → W p l e (th_rm 2 0 0) s m args below meth c H locs 0 0 (MQ below (va_Qv K (th_Post (dC, dI) (wM cs q) A) A) args s 0 0 A) (F0 m 36 ls [])) (n : Nat) : ∀ (x1 : Int32) (x2 : Int32) (x3 : Int32) (u : th_St) (H : Heap) (locs : List Loc) (ls : Array Slot), M_spans_45_lp K k36 n x1 x2 x3 u → th_wI (dC, dI) (wM cs q) A s.heap u H locs → lv_has ls 6 [(0, .ref (q 0)), (1, .int x1), (2, .int x2), (3, .int x3)] → W p l e (th_rm 2 0 0) s m args below meth c H locs 0 0 (MQ below (va_Qv K (th_Post (dC, dI) (wM cs q) A) A) args s 0 0 A) (F0 m 45 ls []) := by
  induction n with
  | zero => intro x1 x2 x3 u H locs ls hf; exact hf.elim
  | succ n ih =>
    intro x1 x2 x3 u H locs ls hf hw hl
    exact M_spans_45_w C hk36 ih x1 x2 x3 u H locs ls hf hw hl
def M_spans_36 (K : th_St → Prop) (k36 : Int32 → Int32 → th_St → Prop) (x1 : Int32) (x2 : Int32) (u : th_St) : Prop :=
  (((x1 - (1 : Int32)) ≤ x2 → K u) ∧ (¬ (x1 - (1 : Int32)) ≤ x2 → ∃ n, M_spans_45_lp K k36 n x1 x2 (0 : Int32) u))
set_option maxHeartbeats 4000000 in
set_option maxRecDepth 100000 in
theorem M_spans_36_w {K : th_St → Prop} {k36 : Int32 → Int32 → th_St → Prop} (C : th_Cx p s m args meth c cX12_spans RX12 6 (none) (dC, dI) (th_ty cs) th_E0 A) (hk36 : ∀ (x1 : Int32) (x2 : Int32) (u : th_St) (H : Heap) (locs : List Loc) (ls : Array Slot), k36 x1 x2 u → th_wI (dC, dI) (wM cs q) A s.heap u H locs → lv_has ls 6 [(0, .ref (q 0)), (1, .int x1), (2, .int x2)] → W p l e (th_rm 2 0 0) s m args below meth c H locs 0 0 (MQ below (va_Qv K (th_Post (dC, dI) (wM cs q) A) A) args s 0 0 A) (F0 m 36 ls [])) (x1 : Int32) (x2 : Int32) (u : th_St) (H : Heap) (locs : List Loc) (ls : Array Slot) (hf : M_spans_36 K k36 x1 x2 u) (hw : th_wI (dC, dI) (wM cs q) A s.heap u H locs) (hl : lv_has ls 6 [(0, .ref (q 0)), (1, .int x1), (2, .int x2)]) : W p l e (th_rm 2 0 0) s m args below meth c H locs 0 0 (MQ below (va_Qv K (th_Post (dC, dI) (wM cs q) A) A) args s 0 0 A) (F0 m 36 ls []) := by
  have hx := C.1
  have hb := C.2.1
  unfold M_spans_36 at hf
  refine lv_iload_n hx hb dX12_spans_36 rfl (lv_at hl 2 rfl) ?_
  refine lv_iload_n hx hb dX12_spans_37 rfl (lv_at hl 1 rfl) ?_
  refine lv_iconst (v := (1 : Int32)) hx hb dX12_spans_38 (by decide) ?_
  refine lv_isub hx hb dX12_spans_39 ?_
  refine lv_icmp_ge (tgt := 227) hx hb dX12_spans_40 (by decide) (fun hc => ?_) (fun hc => ?_)
  · replace hf := hf.1 hc
    clear hc
    exact th_vret C hw hf dX12_spans_227
  · replace hf := hf.2 hc
    clear hc
    refine lv_iconst (v := (0 : Int32)) hx hb dX12_spans_43 (by decide) ?_
    refine lv_istore_n (lv' := [(3, .int (0 : Int32)), (0, .ref (q 0)), (1, .int x1), (2, .int x2)]) hx hb dX12_spans_44 rfl hl (by decide) rfl (fun ls hl => ?_)
    obtain ⟨n, hf⟩ := hf
    exact M_spans_45_lw C hk36 n x1 x2 (0 : Int32) u _ _ _ hf hw (lv_sub hl [1, 2, 3, 0] rfl)
def M_spans_36_lp (K : th_St → Prop) : Nat → Int32 → Int32 → th_St → Prop
  | 0, _, _, _ => False
  | n + 1, x1, x2, u => M_spans_36 K (M_spans_36_lp K n) x1 x2 u
set_option maxHeartbeats 4000000 in
set_option maxRecDepth 100000 in
theorem M_spans_36_lw {K : th_St → Prop} (C : th_Cx p s m args meth c cX12_spans RX12 6 (none) (dC, dI) (th_ty cs) th_E0 A) (n : Nat) : ∀ (x1 : Int32) (x2 : Int32) (u : th_St) (H : Heap) (locs : List Loc) (ls : Array Slot), M_spans_36_lp K n x1 x2 u → th_wI (dC, dI) (wM cs q) A s.heap u H locs → lv_has ls 6 [(0, .ref (q 0)), (1, .int x1), (2, .int x2)] → W p l e (th_rm 2 0 0) s m args below meth c H locs 0 0 (MQ below (va_Qv K (th_Post (dC, dI) (wM cs q) A) A) args s 0 0 A) (F0 m 36 ls []) := by
  induction n with
  | zero => intro x1 x2 u H locs ls hf; exact hf.elim
  | succ n ih =>
    intro x1 x2 u H locs ls hf hw hl
    exact M_spans_36_w C ih x1 x2 u H locs ls hf hw hl
def M_spans_7 (K : th_St → Prop) (k7 : Int32 → Int32 → th_St → Prop) (x1 : Int32) (x2 : Int32) (u : th_St) : Prop :=
  ((x1 ≤ x2 → ∃ n, M_spans_36_lp K n x1 (0 : Int32) u) ∧ (¬ x1 ≤ x2 → (vp_in x2 48 ∧ ∀ u_1 : th_St, u_1 = th_sa u 46 (upd (u.2.2.1 46) (x2).toNatClampNeg (99 : Int32)) → (vp_in x2 48 ∧ ∀ u_2 : th_St, u_2 = th_sa u_1 47 (upd (u_1.2.2.1 47) (x2).toNatClampNeg (-99 : Int32)) → ∀ x2_3 : Int32, x2_3 = x2 + (1 : Int32) → k7 x1 x2_3 u_2))))
set_option maxHeartbeats 4000000 in
set_option maxRecDepth 100000 in
theorem M_spans_7_w {K : th_St → Prop} {k7 : Int32 → Int32 → th_St → Prop} (C : th_Cx p s m args meth c cX12_spans RX12 6 (none) (dC, dI) (th_ty cs) th_E0 A) (hk7 : ∀ (x1 : Int32) (x2 : Int32) (u : th_St) (H : Heap) (locs : List Loc) (ls : Array Slot), k7 x1 x2 u → th_wI (dC, dI) (wM cs q) A s.heap u H locs → lv_has ls 6 [(0, .ref (q 0)), (1, .int x1), (2, .int x2)] → W p l e (th_rm 2 0 0) s m args below meth c H locs 0 0 (MQ below (va_Qv K (th_Post (dC, dI) (wM cs q) A) A) args s 0 0 A) (F0 m 7 ls [])) (x1 : Int32) (x2 : Int32) (u : th_St) (H : Heap) (locs : List Loc) (ls : Array Slot) (hf : M_spans_7 K k7 x1 x2 u) (hw : th_wI (dC, dI) (wM cs q) A s.heap u H locs) (hl : lv_has ls 6 [(0, .ref (q 0)), (1, .int x1), (2, .int x2)]) : W p l e (th_rm 2 0 0) s m args below meth c H locs 0 0 (MQ below (va_Qv K (th_Post (dC, dI) (wM cs q) A) A) args s 0 0 A) (F0 m 7 ls []) := by
  have hx := C.1
  have hb := C.2.1
  unfold M_spans_7 at hf
  refine lv_iload_n hx hb dX12_spans_7 rfl (lv_at hl 2 rfl) ?_
  refine lv_iload_n hx hb dX12_spans_8 rfl (lv_at hl 1 rfl) ?_
  refine lv_icmp_ge (tgt := 34) hx hb dX12_spans_9 (by decide) (fun hc => ?_) (fun hc => ?_)
  · replace hf := hf.1 hc
    clear hc
    refine lv_iconst (v := (0 : Int32)) hx hb dX12_spans_34 (by decide) ?_
    refine lv_istore_n (lv' := [(2, .int (0 : Int32)), (0, .ref (q 0)), (1, .int x1)]) hx hb dX12_spans_35 rfl hl (by decide) rfl (fun ls hl => ?_)
    obtain ⟨n, hf⟩ := hf
    exact M_spans_36_lw C n x1 (0 : Int32) u _ _ _ hf hw (lv_sub hl [1, 2, 0] rfl)
  · replace hf := hf.2 hc
    clear hc
    refine lv_aload_n hx hb dX12_spans_12 rfl (lv_at hl 0 rfl) ?_
    refine mg_46 C hw dX12_spans_13 ?_
    refine lv_iload_n hx hb dX12_spans_16 rfl (lv_at hl 2 rfl) ?_
    refine lv_bipush (v := (99 : Int32)) hx hb dX12_spans_17 (by decide) ?_
    refine ms_46 C hw hf.1 dX12_spans_19 (fun u_1 e9 H locs hw => ?_)
    replace hf := hf.2 u_1 e9
    clear e9
    refine lv_aload_n hx hb dX12_spans_20 rfl (lv_at hl 0 rfl) ?_
    refine mg_47 C hw dX12_spans_21 ?_
    refine lv_iload_n hx hb dX12_spans_24 rfl (lv_at hl 2 rfl) ?_
    refine lv_bipush (v := (-99 : Int32)) hx hb dX12_spans_25 (by decide) ?_
    refine ms_47 C hw hf.1 dX12_spans_27 (fun u_2 e9 H locs hw => ?_)
    replace hf := hf.2 u_2 e9
    clear e9
    obtain ⟨x2_3, e9⟩ : ∃ y : Int32, y = x2 + (1 : Int32) := ⟨_, rfl⟩
    replace hf := hf x2_3 e9
    refine lv_iinc (v := x2_3) (lv' := [(2, .int x2_3), (0, .ref (q 0)), (1, .int x1)]) hx hb dX12_spans_28 hl (k := 2) rfl (by rw [e9]; rfl) (by decide) rfl (fun ls hl => ?_)
    clear e9
    refine lv_goto (tgt := 7) hx hb dX12_spans_31 (by decide) ?_
    exact hk7 x1 x2_3 u_2 _ _ _ hf hw (lv_sub hl [1, 2, 0] rfl)
def M_spans_7_lp (K : th_St → Prop) : Nat → Int32 → Int32 → th_St → Prop
  | 0, _, _, _ => False
  | n + 1, x1, x2, u => M_spans_7 K (M_spans_7_lp K n) x1 x2 u
set_option maxHeartbeats 4000000 in
set_option maxRecDepth 100000 in
theorem M_spans_7_lw {K : th_St → Prop} (C : th_Cx p s m args meth c cX12_spans RX12 6 (none) (dC, dI) (th_ty cs) th_E0 A) (n : Nat) : ∀ (x1 : Int32) (x2 : Int32) (u : th_St) (H : Heap) (locs : List Loc) (ls : Array Slot), M_spans_7_lp K n x1 x2 u → th_wI (dC, dI) (wM cs q) A s.heap u H locs → lv_has ls 6 [(0, .ref (q 0)), (1, .int x1), (2, .int x2)] → W p l e (th_rm 2 0 0) s m args below meth c H locs 0 0 (MQ below (va_Qv K (th_Post (dC, dI) (wM cs q) A) A) args s 0 0 A) (F0 m 7 ls []) := by
  induction n with
  | zero => intro x1 x2 u H locs ls hf; exact hf.elim
  | succ n ih =>
    intro x1 x2 u H locs ls hf hw hl
    exact M_spans_7_w C ih x1 x2 u H locs ls hf hw hl
def M_spans (a1 : Int32) (u : th_St) (K : th_St → Prop) : Prop :=
  ∀ u_1 : th_St, u_1 = th_si u 48 a1 → ∃ n, M_spans_7_lp K n a1 (0 : Int32) u_1
set_option maxHeartbeats 4000000 in
set_option maxRecDepth 100000 in
theorem M_spans_c {l : Launch} {dC : Nat → ClassId} {dI : Nat → Nat → Nat} {cs : Nat → ClassId} {q : Nat → Nat} {a1 : Int32} {u : th_St} {K : th_St → Prop} (hf : M_spans a1 u K) : th_Cv l yX12_spans cX12_spans 6 (none) 2 0 0 (dC, dI) (th_ty cs) th_E0 (wM cs q) [.ref (q 0), .int a1] u K := by
  refine th_ofv (by decide) (Nat.le_of_ble_eq_true rfl) th_E0_ok ?_
  intro p e s m below meth c A ls C hw hl
  have C : th_Cx p s m _ meth c cX12_spans RX12 6 (none) (dC, dI) (th_ty cs) th_E0 A := C
  have hl : lv_has ls 6 [(0, .ref (q 0)), (1, .int a1)] := hl
  generalize (List.toArray _ : Array Value) = args at C ⊢
  have hx := C.1
  have hb := C.2.1
  unfold M_spans at hf
  refine lv_aload_n hx hb dX12_spans_0 rfl (lv_at hl 0 rfl) ?_
  refine lv_iload_n hx hb dX12_spans_1 rfl (lv_at hl 1 rfl) ?_
  refine mp_48 C hw dX12_spans_2 (fun u_1 e9 H locs hw => ?_)
  replace hf := hf u_1 e9
  clear e9
  refine lv_iconst (v := (0 : Int32)) hx hb dX12_spans_5 (by decide) ?_
  refine lv_istore_n (lv' := [(2, .int (0 : Int32)), (0, .ref (q 0)), (1, .int a1)]) hx hb dX12_spans_6 rfl hl (by decide) rfl (fun ls hl => ?_)
  obtain ⟨n, hf⟩ := hf
  exact M_spans_7_lw C n a1 (0 : Int32) u_1 _ _ _ hf hw (lv_sub hl [1, 2, 0] rfl)
/-! X12_lay -/
theorem dX12_lay_0 : decode cX12_lay 0 = .ok (.iconst 0, 1) := by decide +kernel
theorem dX12_lay_1 : decode cX12_lay 1 = .ok (.istore_n 3, 1) := by decide +kernel
theorem dX12_lay_2 : decode cX12_lay 2 = .ok (.iload_n 3, 1) := by decide +kernel
theorem dX12_lay_3 : decode cX12_lay 3 = .ok (.bipush 6, 2) := by decide +kernel
theorem dX12_lay_5 : decode cX12_lay 5 = .ok (.if_icmp .ge 113, 3) := by decide +kernel
theorem dX12_lay_8 : decode cX12_lay 8 = .ok (.iconst 1, 1) := by decide +kernel
theorem dX12_lay_9 : decode cX12_lay 9 = .ok (.istore 4, 2) := by decide +kernel
theorem dX12_lay_11 : decode cX12_lay 11 = .ok (.iload 4, 2) := by decide +kernel
theorem dX12_lay_13 : decode cX12_lay 13 = .ok (.iconst 5, 1) := by decide +kernel
theorem dX12_lay_14 : decode cX12_lay 14 = .ok (.if_icmp .gt 98, 3) := by decide +kernel
theorem dX12_lay_17 : decode cX12_lay 17 = .ok (.aload_n 0, 1) := by decide +kernel
theorem dX12_lay_18 : decode cX12_lay 18 = .ok (.iload_n 3, 1) := by decide +kernel
theorem dX12_lay_19 : decode cX12_lay 19 = .ok (.iload_n 1, 1) := by decide +kernel
theorem dX12_lay_20 : decode cX12_lay 20 = .ok (.iload 4, 2) := by decide +kernel
theorem dX12_lay_22 : decode cX12_lay 22 = .ok (.iload_n 2, 1) := by decide +kernel
theorem dX12_lay_23 : decode cX12_lay 23 = .ok (.invokevirtual 380, 3) := by decide +kernel
theorem dX12_lay_26 : decode cX12_lay 26 = .ok (.ifCond .eq 80, 3) := by decide +kernel
theorem dX12_lay_29 : decode cX12_lay 29 = .ok (.aload_n 0, 1) := by decide +kernel
theorem dX12_lay_30 : decode cX12_lay 30 = .ok (.getfield 128, 3) := by decide +kernel
theorem dX12_lay_33 : decode cX12_lay 33 = .ok (.iload_n 1, 1) := by decide +kernel
theorem dX12_lay_34 : decode cX12_lay 34 = .ok (.aload_n 0, 1) := by decide +kernel
theorem dX12_lay_35 : decode cX12_lay 35 = .ok (.getfield 122, 3) := by decide +kernel
theorem dX12_lay_38 : decode cX12_lay 38 = .ok (.iload_n 3, 1) := by decide +kernel
theorem dX12_lay_39 : decode cX12_lay 39 = .ok (.iaload, 1) := by decide +kernel
theorem dX12_lay_40 : decode cX12_lay 40 = .ok (.iadd, 1) := by decide +kernel
theorem dX12_lay_41 : decode cX12_lay 41 = .ok (.iaload, 1) := by decide +kernel
theorem dX12_lay_42 : decode cX12_lay 42 = .ok (.iconst 1, 1) := by decide +kernel
theorem dX12_lay_43 : decode cX12_lay 43 = .ok (.iadd, 1) := by decide +kernel
theorem dX12_lay_44 : decode cX12_lay 44 = .ok (.aload_n 0, 1) := by decide +kernel
theorem dX12_lay_45 : decode cX12_lay 45 = .ok (.getfield 128, 3) := by decide +kernel
theorem dX12_lay_48 : decode cX12_lay 48 = .ok (.iload_n 1, 1) := by decide +kernel
theorem dX12_lay_49 : decode cX12_lay 49 = .ok (.iaload, 1) := by decide +kernel
theorem dX12_lay_50 : decode cX12_lay 50 = .ok (.if_icmp .eq 6, 3) := by decide +kernel
theorem dX12_lay_53 : decode cX12_lay 53 = .ok (.goto 53, 3) := by decide +kernel
theorem dX12_lay_56 : decode cX12_lay 56 = .ok (.aload_n 0, 1) := by decide +kernel
theorem dX12_lay_57 : decode cX12_lay 57 = .ok (.getfield 131, 3) := by decide +kernel
theorem dX12_lay_60 : decode cX12_lay 60 = .ok (.aload_n 0, 1) := by decide +kernel
theorem dX12_lay_61 : decode cX12_lay 61 = .ok (.getfield 383, 3) := by decide +kernel
theorem dX12_lay_64 : decode cX12_lay 64 = .ok (.iload_n 3, 1) := by decide +kernel
theorem dX12_lay_65 : decode cX12_lay 65 = .ok (.iastore, 1) := by decide +kernel
theorem dX12_lay_66 : decode cX12_lay 66 = .ok (.aload_n 0, 1) := by decide +kernel
theorem dX12_lay_67 : decode cX12_lay 67 = .ok (.getfield 134, 3) := by decide +kernel
theorem dX12_lay_70 : decode cX12_lay 70 = .ok (.aload_n 0, 1) := by decide +kernel
theorem dX12_lay_71 : decode cX12_lay 71 = .ok (.getfield 383, 3) := by decide +kernel
theorem dX12_lay_74 : decode cX12_lay 74 = .ok (.iload_n 1, 1) := by decide +kernel
theorem dX12_lay_75 : decode cX12_lay 75 = .ok (.iastore, 1) := by decide +kernel
theorem dX12_lay_76 : decode cX12_lay 76 = .ok (.aload_n 0, 1) := by decide +kernel
theorem dX12_lay_77 : decode cX12_lay 77 = .ok (.getfield 137, 3) := by decide +kernel
theorem dX12_lay_80 : decode cX12_lay 80 = .ok (.aload_n 0, 1) := by decide +kernel
theorem dX12_lay_81 : decode cX12_lay 81 = .ok (.getfield 383, 3) := by decide +kernel
theorem dX12_lay_84 : decode cX12_lay 84 = .ok (.iload 4, 2) := by decide +kernel
theorem dX12_lay_86 : decode cX12_lay 86 = .ok (.iastore, 1) := by decide +kernel
theorem dX12_lay_87 : decode cX12_lay 87 = .ok (.aload_n 0, 1) := by decide +kernel
theorem dX12_lay_88 : decode cX12_lay 88 = .ok (.dup, 1) := by decide +kernel
theorem dX12_lay_89 : decode cX12_lay 89 = .ok (.getfield 383, 3) := by decide +kernel
theorem dX12_lay_92 : decode cX12_lay 92 = .ok (.iconst 1, 1) := by decide +kernel
theorem dX12_lay_93 : decode cX12_lay 93 = .ok (.iadd, 1) := by decide +kernel
theorem dX12_lay_94 : decode cX12_lay 94 = .ok (.putfield 383, 3) := by decide +kernel
theorem dX12_lay_97 : decode cX12_lay 97 = .ok (.iload_n 1, 1) := by decide +kernel
theorem dX12_lay_98 : decode cX12_lay 98 = .ok (.aload_n 0, 1) := by decide +kernel
theorem dX12_lay_99 : decode cX12_lay 99 = .ok (.getfield 122, 3) := by decide +kernel
theorem dX12_lay_102 : decode cX12_lay 102 = .ok (.iload_n 3, 1) := by decide +kernel
theorem dX12_lay_103 : decode cX12_lay 103 = .ok (.iaload, 1) := by decide +kernel
theorem dX12_lay_104 : decode cX12_lay 104 = .ok (.iadd, 1) := by decide +kernel
theorem dX12_lay_105 : decode cX12_lay 105 = .ok (.ireturn, 1) := by decide +kernel
theorem dX12_lay_106 : decode cX12_lay 106 = .ok (.iinc 4 1, 3) := by decide +kernel
theorem dX12_lay_109 : decode cX12_lay 109 = .ok (.goto (-98), 3) := by decide +kernel
theorem dX12_lay_112 : decode cX12_lay 112 = .ok (.iinc 3 1, 3) := by decide +kernel
theorem dX12_lay_115 : decode cX12_lay 115 = .ok (.goto (-113), 3) := by decide +kernel
theorem dX12_lay_118 : decode cX12_lay 118 = .ok (.iload_n 2, 1) := by decide +kernel
theorem dX12_lay_119 : decode cX12_lay 119 = .ok (.ireturn, 1) := by decide +kernel
def M_lay_106 (K : Int32 → th_St → Prop) (k2 : Int32 → Int32 → Int32 → th_St → Prop) (k11 : Int32 → Int32 → Int32 → Int32 → th_St → Prop) (x1 : Int32) (x2 : Int32) (x3 : Int32) (x4 : Int32) (u : th_St) : Prop :=
  ∀ x4_1 : Int32, x4_1 = x4 + (1 : Int32) → k11 x1 x2 x3 x4_1 u
set_option maxHeartbeats 4000000 in
set_option maxRecDepth 100000 in
theorem M_lay_106_w {K : Int32 → th_St → Prop} {k2 : Int32 → Int32 → Int32 → th_St → Prop} {k11 : Int32 → Int32 → Int32 → Int32 → th_St → Prop} (C : th_Cx p s m args meth c cX12_lay RX12 5 (some .int) (dC, dI) (th_ty cs) th_E0 A) (hk2 : ∀ (x1 : Int32) (x2 : Int32) (x3 : Int32) (u : th_St) (H : Heap) (locs : List Loc) (ls : Array Slot), k2 x1 x2 x3 u → th_wI (dC, dI) (wM cs q) A s.heap u H locs → lv_has ls 5 [(0, .ref (q 0)), (1, .int x1), (2, .int x2), (3, .int x3)] → W p l e (th_rm 2 0 0) s m args below meth c H locs 0 0 (MQ below (va_Qi K (th_Post (dC, dI) (wM cs q) A) A) args s 0 0 A) (F0 m 2 ls [])) (hk11 : ∀ (x1 : Int32) (x2 : Int32) (x3 : Int32) (x4 : Int32) (u : th_St) (H : Heap) (locs : List Loc) (ls : Array Slot), k11 x1 x2 x3 x4 u → th_wI (dC, dI) (wM cs q) A s.heap u H locs → lv_has ls 5 [(0, .ref (q 0)), (1, .int x1), (2, .int x2), (3, .int x3), (4, .int x4)] → W p l e (th_rm 2 0 0) s m args below meth c H locs 0 0 (MQ below (va_Qi K (th_Post (dC, dI) (wM cs q) A) A) args s 0 0 A) (F0 m 11 ls [])) (x1 : Int32) (x2 : Int32) (x3 : Int32) (x4 : Int32) (u : th_St) (H : Heap) (locs : List Loc) (ls : Array Slot) (hf : M_lay_106 K k2 k11 x1 x2 x3 x4 u) (hw : th_wI (dC, dI) (wM cs q) A s.heap u H locs) (hl : lv_has ls 5 [(0, .ref (q 0)), (1, .int x1), (2, .int x2), (3, .int x3), (4, .int x4)]) : W p l e (th_rm 2 0 0) s m args below meth c H locs 0 0 (MQ below (va_Qi K (th_Post (dC, dI) (wM cs q) A) A) args s 0 0 A) (F0 m 106 ls []) := by
  have hx := C.1
  have hb := C.2.1
  unfold M_lay_106 at hf
  obtain ⟨x4_1, e9⟩ : ∃ y : Int32, y = x4 + (1 : Int32) := ⟨_, rfl⟩
  replace hf := hf x4_1 e9
  refine lv_iinc (v := x4_1) (lv' := [(4, .int x4_1), (0, .ref (q 0)), (1, .int x1), (2, .int x2), (3, .int x3)]) hx hb dX12_lay_106 hl (k := 4) rfl (by rw [e9]; rfl) (by decide) rfl (fun ls hl => ?_)
  clear e9
  refine lv_goto (tgt := 11) hx hb dX12_lay_109 (by decide) ?_
  exact hk11 x1 x2 x3 x4_1 u _ _ _ hf hw (lv_sub hl [1, 2, 3, 4, 0] rfl)
def M_lay_11 (K : Int32 → th_St → Prop) (k2 : Int32 → Int32 → Int32 → th_St → Prop) (k11 : Int32 → Int32 → Int32 → Int32 → th_St → Prop) (x1 : Int32) (x2 : Int32) (x3 : Int32) (x4 : Int32) (u : th_St) : Prop :=
  (((5 : Int32) < x4 → ∀ x3_1 : Int32, x3_1 = x3 + (1 : Int32) → k2 x1 x2 x3_1 u) ∧ (¬ (5 : Int32) < x4 → M_lies x3 x1 x4 x2 u (fun r_3 u_2 => ((r_3 = 0 → M_lay_106 K k2 k11 x1 x2 x3 x4 u_2) ∧ (¬ r_3 = 0 → (vp_in x3 6 ∧ ∀ y_4 : Int32, y_4 = u_2.2.2.1 50 (x3).toNatClampNeg → (vp_in (x1 + y_4) 49 ∧ ∀ y_5 : Int32, y_5 = u_2.2.2.1 52 ((x1 + y_4)).toNatClampNeg → (vp_in x1 49 ∧ ∀ y_6 : Int32, y_6 = u_2.2.2.1 52 (x1).toNatClampNeg → (((y_5 + (1 : Int32)) = y_6 → (vp_in (u_2.1 56) 48 ∧ ∀ u_7 : th_St, u_7 = th_sa u_2 53 (upd (u_2.2.2.1 53) ((u_2.1 56)).toNatClampNeg x3) → (vp_in (u_7.1 56) 48 ∧ ∀ u_8 : th_St, u_8 = th_sa u_7 54 (upd (u_7.2.2.1 54) ((u_7.1 56)).toNatClampNeg x1) → (vp_in (u_8.1 56) 48 ∧ ∀ u_9 : th_St, u_9 = th_sa u_8 55 (upd (u_8.2.2.1 55) ((u_8.1 56)).toNatClampNeg x4) → ∀ u_10 : th_St, u_10 = th_si u_9 56 ((u_9.1 56) + (1 : Int32)) → (vp_in x3 6 ∧ ∀ y_11 : Int32, y_11 = u_10.2.2.1 50 (x3).toNatClampNeg → K (x1 + y_11) u_10))))) ∧ (¬ (y_5 + (1 : Int32)) = y_6 → M_lay_106 K k2 k11 x1 x2 x3 x4 u_2))))))))))
set_option maxHeartbeats 4000000 in
set_option maxRecDepth 100000 in
theorem M_lay_11_w {K : Int32 → th_St → Prop} {k2 : Int32 → Int32 → Int32 → th_St → Prop} {k11 : Int32 → Int32 → Int32 → Int32 → th_St → Prop} (C : th_Cx p s m args meth c cX12_lay RX12 5 (some .int) (dC, dI) (th_ty cs) th_E0 A) (hk2 : ∀ (x1 : Int32) (x2 : Int32) (x3 : Int32) (u : th_St) (H : Heap) (locs : List Loc) (ls : Array Slot), k2 x1 x2 x3 u → th_wI (dC, dI) (wM cs q) A s.heap u H locs → lv_has ls 5 [(0, .ref (q 0)), (1, .int x1), (2, .int x2), (3, .int x3)] → W p l e (th_rm 2 0 0) s m args below meth c H locs 0 0 (MQ below (va_Qi K (th_Post (dC, dI) (wM cs q) A) A) args s 0 0 A) (F0 m 2 ls [])) (hk11 : ∀ (x1 : Int32) (x2 : Int32) (x3 : Int32) (x4 : Int32) (u : th_St) (H : Heap) (locs : List Loc) (ls : Array Slot), k11 x1 x2 x3 x4 u → th_wI (dC, dI) (wM cs q) A s.heap u H locs → lv_has ls 5 [(0, .ref (q 0)), (1, .int x1), (2, .int x2), (3, .int x3), (4, .int x4)] → W p l e (th_rm 2 0 0) s m args below meth c H locs 0 0 (MQ below (va_Qi K (th_Post (dC, dI) (wM cs q) A) A) args s 0 0 A) (F0 m 11 ls [])) (x1 : Int32) (x2 : Int32) (x3 : Int32) (x4 : Int32) (u : th_St) (H : Heap) (locs : List Loc) (ls : Array Slot) (hf : M_lay_11 K k2 k11 x1 x2 x3 x4 u) (hw : th_wI (dC, dI) (wM cs q) A s.heap u H locs) (hl : lv_has ls 5 [(0, .ref (q 0)), (1, .int x1), (2, .int x2), (3, .int x3), (4, .int x4)]) : W p l e (th_rm 2 0 0) s m args below meth c H locs 0 0 (MQ below (va_Qi K (th_Post (dC, dI) (wM cs q) A) A) args s 0 0 A) (F0 m 11 ls []) := by
  have hx := C.1
  have hb := C.2.1
  unfold M_lay_11 at hf
  refine lv_iload hx hb dX12_lay_11 (lv_at hl 4 rfl) ?_
  refine lv_iconst (v := (5 : Int32)) hx hb dX12_lay_13 (by decide) ?_
  refine lv_icmp_gt (tgt := 112) hx hb dX12_lay_14 (by decide) (fun hc => ?_) (fun hc => ?_)
  · replace hf := hf.1 hc
    clear hc
    obtain ⟨x3_1, e9⟩ : ∃ y : Int32, y = x3 + (1 : Int32) := ⟨_, rfl⟩
    replace hf := hf x3_1 e9
    refine lv_iinc (v := x3_1) (lv' := [(3, .int x3_1), (0, .ref (q 0)), (1, .int x1), (2, .int x2), (4, .int x4)]) hx hb dX12_lay_112 hl (k := 3) rfl (by rw [e9]; rfl) (by decide) rfl (fun ls hl => ?_)
    clear e9
    refine lv_goto (tgt := 2) hx hb dX12_lay_115 (by decide) ?_
    exact hk2 x1 x2 x3_1 u _ _ _ hf hw (lv_sub hl [1, 2, 3, 0] rfl)
  · replace hf := hf.2 hc
    clear hc
    refine lv_aload_n hx hb dX12_lay_17 rfl (lv_at hl 0 rfl) ?_
    refine lv_iload_n hx hb dX12_lay_18 rfl (lv_at hl 3 rfl) ?_
    refine lv_iload_n hx hb dX12_lay_19 rfl (lv_at hl 1 rfl) ?_
    refine lv_iload hx hb dX12_lay_20 (lv_at hl 4 rfl) ?_
    refine lv_iload_n hx hb dX12_lay_22 rfl (lv_at hl 2 rfl) ?_
    refine th_callVi (As := [.int x3, .int x1, .int x4, .int x2]) (rest := []) C lkX12_380 (M_lies_c hf) hw (mRc C hw) rfl rfl ⟨Nat.le_of_ble_eq_true rfl, Nat.le_of_ble_eq_true rfl⟩ hl.1 (Nat.le_of_ble_eq_true rfl) ⟨Nat.le_refl _, Nat.le_refl _⟩ dX12_lay_23 (fun r_3 u_2 H locs hf hw => ?_)
    refine lv_if_eq (tgt := 106) hx hb dX12_lay_26 (by decide) (fun hc => ?_) (fun hc => ?_)
    · replace hf := hf.1 hc
      clear hc
      exact M_lay_106_w C hk2 hk11 x1 x2 x3 x4 u_2 _ _ _ hf hw (lv_sub hl [0, 1, 2, 3, 4] rfl)
    · replace hf := hf.2 hc
      clear hc
      refine lv_aload_n hx hb dX12_lay_29 rfl (lv_at hl 0 rfl) ?_
      refine mg_52 C hw dX12_lay_30 ?_
      refine lv_iload_n hx hb dX12_lay_33 rfl (lv_at hl 1 rfl) ?_
      refine lv_aload_n hx hb dX12_lay_34 rfl (lv_at hl 0 rfl) ?_
      refine mg_50 C hw dX12_lay_35 ?_
      refine lv_iload_n hx hb dX12_lay_38 rfl (lv_at hl 3 rfl) ?_
      refine ml_50 C hw hf.1 dX12_lay_39 (fun y_4 e9 => ?_)
      replace hf := hf.2 y_4 e9
      clear e9
      refine lv_iadd hx hb dX12_lay_40 ?_
      refine ml_52 C hw hf.1 dX12_lay_41 (fun y_5 e9 => ?_)
      replace hf := hf.2 y_5 e9
      clear e9
      refine lv_iconst (v := (1 : Int32)) hx hb dX12_lay_42 (by decide) ?_
      refine lv_iadd hx hb dX12_lay_43 ?_
      refine lv_aload_n hx hb dX12_lay_44 rfl (lv_at hl 0 rfl) ?_
      refine mg_52 C hw dX12_lay_45 ?_
      refine lv_iload_n hx hb dX12_lay_48 rfl (lv_at hl 1 rfl) ?_
      refine ml_52 C hw hf.1 dX12_lay_49 (fun y_6 e9 => ?_)
      replace hf := hf.2 y_6 e9
      clear e9
      refine lv_icmp_eq (tgt := 56) hx hb dX12_lay_50 (by decide) (fun hc => ?_) (fun hc => ?_)
      · replace hf := hf.1 hc
        clear hc
        refine lv_aload_n hx hb dX12_lay_56 rfl (lv_at hl 0 rfl) ?_
        refine mg_53 C hw dX12_lay_57 ?_
        refine lv_aload_n hx hb dX12_lay_60 rfl (lv_at hl 0 rfl) ?_
        refine mg_56 C hw dX12_lay_61 ?_
        refine lv_iload_n hx hb dX12_lay_64 rfl (lv_at hl 3 rfl) ?_
        refine ms_53 C hw hf.1 dX12_lay_65 (fun u_7 e9 H locs hw => ?_)
        replace hf := hf.2 u_7 e9
        clear e9
        refine lv_aload_n hx hb dX12_lay_66 rfl (lv_at hl 0 rfl) ?_
        refine mg_54 C hw dX12_lay_67 ?_
        refine lv_aload_n hx hb dX12_lay_70 rfl (lv_at hl 0 rfl) ?_
        refine mg_56 C hw dX12_lay_71 ?_
        refine lv_iload_n hx hb dX12_lay_74 rfl (lv_at hl 1 rfl) ?_
        refine ms_54 C hw hf.1 dX12_lay_75 (fun u_8 e9 H locs hw => ?_)
        replace hf := hf.2 u_8 e9
        clear e9
        refine lv_aload_n hx hb dX12_lay_76 rfl (lv_at hl 0 rfl) ?_
        refine mg_55 C hw dX12_lay_77 ?_
        refine lv_aload_n hx hb dX12_lay_80 rfl (lv_at hl 0 rfl) ?_
        refine mg_56 C hw dX12_lay_81 ?_
        refine lv_iload hx hb dX12_lay_84 (lv_at hl 4 rfl) ?_
        refine ms_55 C hw hf.1 dX12_lay_86 (fun u_9 e9 H locs hw => ?_)
        replace hf := hf.2 u_9 e9
        clear e9
        refine lv_aload_n hx hb dX12_lay_87 rfl (lv_at hl 0 rfl) ?_
        refine lv_dup hx hb dX12_lay_88 rfl ?_
        refine mg_56 C hw dX12_lay_89 ?_
        refine lv_iconst (v := (1 : Int32)) hx hb dX12_lay_92 (by decide) ?_
        refine lv_iadd hx hb dX12_lay_93 ?_
        refine mp_56 C hw dX12_lay_94 (fun u_10 e9 H locs hw => ?_)
        replace hf := hf u_10 e9
        clear e9
        refine lv_iload_n hx hb dX12_lay_97 rfl (lv_at hl 1 rfl) ?_
        refine lv_aload_n hx hb dX12_lay_98 rfl (lv_at hl 0 rfl) ?_
        refine mg_50 C hw dX12_lay_99 ?_
        refine lv_iload_n hx hb dX12_lay_102 rfl (lv_at hl 3 rfl) ?_
        refine ml_50 C hw hf.1 dX12_lay_103 (fun y_11 e9 => ?_)
        replace hf := hf.2 y_11 e9
        clear e9
        refine lv_iadd hx hb dX12_lay_104 ?_
        exact th_iret C hw hf dX12_lay_105
      · replace hf := hf.2 hc
        clear hc
        refine lv_goto (tgt := 106) hx hb dX12_lay_53 (by decide) ?_
        exact M_lay_106_w C hk2 hk11 x1 x2 x3 x4 u_2 _ _ _ hf hw (lv_sub hl [0, 1, 2, 3, 4] rfl)
def M_lay_11_lp (K : Int32 → th_St → Prop) (k2 : Int32 → Int32 → Int32 → th_St → Prop) : Nat → Int32 → Int32 → Int32 → Int32 → th_St → Prop
  | 0, _, _, _, _, _ => False
  | n + 1, x1, x2, x3, x4, u => M_lay_11 K k2 (M_lay_11_lp K k2 n) x1 x2 x3 x4 u
set_option maxHeartbeats 4000000 in
set_option maxRecDepth 100000 in
theorem M_lay_11_lw {K : Int32 → th_St → Prop} {k2 : Int32 → Int32 → Int32 → th_St → Prop} (C : th_Cx p s m args meth c cX12_lay RX12 5 (some .int) (dC, dI) (th_ty cs) th_E0 A) (hk2 : ∀ (x1 : Int32) (x2 : Int32) (x3 : Int32) (u : th_St) (H : Heap) (locs : List Loc) (ls : Array Slot), k2 x1 x2 x3 u → th_wI (dC, dI) (wM cs q) A s.heap u H locs → lv_has ls 5 [(0, .ref (q 0)), (1, .int x1), (2, .int x2), (3, .int x3)] → W p l e (th_rm 2 0 0) s m args below meth c H locs 0 0 (MQ below (va_Qi K (th_Post (dC, dI) (wM cs q) A) A) args s 0 0 A) (F0 m 2 ls [])) (n : Nat) : ∀ (x1 : Int32) (x2 : Int32) (x3 : Int32) (x4 : Int32) (u : th_St) (H : Heap) (locs : List Loc) (ls : Array Slot), M_lay_11_lp K k2 n x1 x2 x3 x4 u → th_wI (dC, dI) (wM cs q) A s.heap u H locs → lv_has ls 5 [(0, .ref (q 0)), (1, .int x1), (2, .int x2), (3, .int x3), (4, .int x4)] → W p l e (th_rm 2 0 0) s m args below meth c H locs 0 0 (MQ below (va_Qi K (th_Post (dC, dI) (wM cs q) A) A) args s 0 0 A) (F0 m 11 ls []) := by
  induction n with
  | zero => intro x1 x2 x3 x4 u H locs ls hf; exact hf.elim
  | succ n ih =>
    intro x1 x2 x3 x4 u H locs ls hf hw hl
    exact M_lay_11_w C hk2 ih x1 x2 x3 x4 u H locs ls hf hw hl
def M_lay_2 (K : Int32 → th_St → Prop) (k2 : Int32 → Int32 → Int32 → th_St → Prop) (x1 : Int32) (x2 : Int32) (x3 : Int32) (u : th_St) : Prop :=
  (((6 : Int32) ≤ x3 → K x2 u) ∧ (¬ (6 : Int32) ≤ x3 → ∃ n, M_lay_11_lp K k2 n x1 x2 x3 (1 : Int32) u))
set_option maxHeartbeats 4000000 in
set_option maxRecDepth 100000 in
theorem M_lay_2_w {K : Int32 → th_St → Prop} {k2 : Int32 → Int32 → Int32 → th_St → Prop} (C : th_Cx p s m args meth c cX12_lay RX12 5 (some .int) (dC, dI) (th_ty cs) th_E0 A) (hk2 : ∀ (x1 : Int32) (x2 : Int32) (x3 : Int32) (u : th_St) (H : Heap) (locs : List Loc) (ls : Array Slot), k2 x1 x2 x3 u → th_wI (dC, dI) (wM cs q) A s.heap u H locs → lv_has ls 5 [(0, .ref (q 0)), (1, .int x1), (2, .int x2), (3, .int x3)] → W p l e (th_rm 2 0 0) s m args below meth c H locs 0 0 (MQ below (va_Qi K (th_Post (dC, dI) (wM cs q) A) A) args s 0 0 A) (F0 m 2 ls [])) (x1 : Int32) (x2 : Int32) (x3 : Int32) (u : th_St) (H : Heap) (locs : List Loc) (ls : Array Slot) (hf : M_lay_2 K k2 x1 x2 x3 u) (hw : th_wI (dC, dI) (wM cs q) A s.heap u H locs) (hl : lv_has ls 5 [(0, .ref (q 0)), (1, .int x1), (2, .int x2), (3, .int x3)]) : W p l e (th_rm 2 0 0) s m args below meth c H locs 0 0 (MQ below (va_Qi K (th_Post (dC, dI) (wM cs q) A) A) args s 0 0 A) (F0 m 2 ls []) := by
  have hx := C.1
  have hb := C.2.1
  unfold M_lay_2 at hf
  refine lv_iload_n hx hb dX12_lay_2 rfl (lv_at hl 3 rfl) ?_
  refine lv_bipush (v := (6 : Int32)) hx hb dX12_lay_3 (by decide) ?_
  refine lv_icmp_ge (tgt := 118) hx hb dX12_lay_5 (by decide) (fun hc => ?_) (fun hc => ?_)
  · replace hf := hf.1 hc
    clear hc
    refine lv_iload_n hx hb dX12_lay_118 rfl (lv_at hl 2 rfl) ?_
    exact th_iret C hw hf dX12_lay_119
  · replace hf := hf.2 hc
    clear hc
    refine lv_iconst (v := (1 : Int32)) hx hb dX12_lay_8 (by decide) ?_
    refine lv_istore (lv' := [(4, .int (1 : Int32)), (0, .ref (q 0)), (1, .int x1), (2, .int x2), (3, .int x3)]) hx hb dX12_lay_9 hl (by decide) rfl (fun ls hl => ?_)
    obtain ⟨n, hf⟩ := hf
    exact M_lay_11_lw C hk2 n x1 x2 x3 (1 : Int32) u _ _ _ hf hw (lv_sub hl [1, 2, 3, 4, 0] rfl)
def M_lay_2_lp (K : Int32 → th_St → Prop) : Nat → Int32 → Int32 → Int32 → th_St → Prop
  | 0, _, _, _, _ => False
  | n + 1, x1, x2, x3, u => M_lay_2 K (M_lay_2_lp K n) x1 x2 x3 u
set_option maxHeartbeats 4000000 in
set_option maxRecDepth 100000 in
theorem M_lay_2_lw {K : Int32 → th_St → Prop} (C : th_Cx p s m args meth c cX12_lay RX12 5 (some .int) (dC, dI) (th_ty cs) th_E0 A) (n : Nat) : ∀ (x1 : Int32) (x2 : Int32) (x3 : Int32) (u : th_St) (H : Heap) (locs : List Loc) (ls : Array Slot), M_lay_2_lp K n x1 x2 x3 u → th_wI (dC, dI) (wM cs q) A s.heap u H locs → lv_has ls 5 [(0, .ref (q 0)), (1, .int x1), (2, .int x2), (3, .int x3)] → W p l e (th_rm 2 0 0) s m args below meth c H locs 0 0 (MQ below (va_Qi K (th_Post (dC, dI) (wM cs q) A) A) args s 0 0 A) (F0 m 2 ls []) := by
  induction n with
  | zero => intro x1 x2 x3 u H locs ls hf; exact hf.elim
  | succ n ih =>
    intro x1 x2 x3 u H locs ls hf hw hl
    exact M_lay_2_w C ih x1 x2 x3 u H locs ls hf hw hl
def M_lay (a1 : Int32) (a2 : Int32) (u : th_St) (K : Int32 → th_St → Prop) : Prop :=
  ∃ n, M_lay_2_lp K n a1 a2 (0 : Int32) u
set_option maxHeartbeats 4000000 in
set_option maxRecDepth 100000 in
theorem M_lay_c {l : Launch} {dC : Nat → ClassId} {dI : Nat → Nat → Nat} {cs : Nat → ClassId} {q : Nat → Nat} {a1 : Int32} {a2 : Int32} {u : th_St} {K : Int32 → th_St → Prop} (hf : M_lay a1 a2 u K) : th_Ci l yX12_lay cX12_lay 5 (some .int) 2 0 0 (dC, dI) (th_ty cs) th_E0 (wM cs q) [.ref (q 0), .int a1, .int a2] u K := by
  refine th_ofi (by decide) (Nat.le_of_ble_eq_true rfl) th_E0_ok ?_
  intro p e s m below meth c A ls C hw hl
  have C : th_Cx p s m _ meth c cX12_lay RX12 5 (some .int) (dC, dI) (th_ty cs) th_E0 A := C
  have hl : lv_has ls 5 [(0, .ref (q 0)), (1, .int a1), (2, .int a2)] := hl
  generalize (List.toArray _ : Array Value) = args at C ⊢
  have hx := C.1
  have hb := C.2.1
  unfold M_lay at hf
  refine lv_iconst (v := (0 : Int32)) hx hb dX12_lay_0 (by decide) ?_
  refine lv_istore_n (lv' := [(3, .int (0 : Int32)), (0, .ref (q 0)), (1, .int a1), (2, .int a2)]) hx hb dX12_lay_1 rfl hl (by decide) rfl (fun ls hl => ?_)
  obtain ⟨n, hf⟩ := hf
  exact M_lay_2_lw C n a1 a2 (0 : Int32) u _ _ _ hf hw (lv_sub hl [1, 2, 3, 0] rfl)
/-! X12_lined -/
theorem dX12_lined_0 : decode cX12_lined 0 = .ok (.aload_n 0, 1) := by decide +kernel
theorem dX12_lined_1 : decode cX12_lined 1 = .ok (.iconst 0, 1) := by decide +kernel
theorem dX12_lined_2 : decode cX12_lined 2 = .ok (.putfield 1, 3) := by decide +kernel
theorem dX12_lined_5 : decode cX12_lined 5 = .ok (.aload_n 0, 1) := by decide +kernel
theorem dX12_lined_6 : decode cX12_lined 6 = .ok (.invokevirtual 164, 3) := by decide +kernel
theorem dX12_lined_9 : decode cX12_lined 9 = .ok (.aload_n 0, 1) := by decide +kernel
theorem dX12_lined_10 : decode cX12_lined 10 = .ok (.getfield 18, 3) := by decide +kernel
theorem dX12_lined_13 : decode cX12_lined 13 = .ok (.iload_n 1, 1) := by decide +kernel
theorem dX12_lined_14 : decode cX12_lined 14 = .ok (.isub, 1) := by decide +kernel
theorem dX12_lined_15 : decode cX12_lined 15 = .ok (.istore_n 3, 1) := by decide +kernel
theorem dX12_lined_16 : decode cX12_lined 16 = .ok (.iload_n 1, 1) := by decide +kernel
theorem dX12_lined_17 : decode cX12_lined 17 = .ok (.iconst 0, 1) := by decide +kernel
theorem dX12_lined_18 : decode cX12_lined 18 = .ok (.bipush 48, 2) := by decide +kernel
theorem dX12_lined_20 : decode cX12_lined 20 = .ok (.invokestatic 24, 3) := by decide +kernel
theorem dX12_lined_23 : decode cX12_lined 23 = .ok (.ifCond .eq 24, 3) := by decide +kernel
theorem dX12_lined_26 : decode cX12_lined 26 = .ok (.iload_n 3, 1) := by decide +kernel
theorem dX12_lined_27 : decode cX12_lined 27 = .ok (.iconst 0, 1) := by decide +kernel
theorem dX12_lined_28 : decode cX12_lined 28 = .ok (.bipush 48, 2) := by decide +kernel
theorem dX12_lined_30 : decode cX12_lined 30 = .ok (.invokestatic 24, 3) := by decide +kernel
theorem dX12_lined_33 : decode cX12_lined 33 = .ok (.ifCond .eq 14, 3) := by decide +kernel
theorem dX12_lined_36 : decode cX12_lined 36 = .ok (.iload_n 2, 1) := by decide +kernel
theorem dX12_lined_37 : decode cX12_lined 37 = .ok (.iconst 0, 1) := by decide +kernel
theorem dX12_lined_38 : decode cX12_lined 38 = .ok (.sipush 255, 3) := by decide +kernel
theorem dX12_lined_41 : decode cX12_lined 41 = .ok (.invokestatic 24, 3) := by decide +kernel
theorem dX12_lined_44 : decode cX12_lined 44 = .ok (.ifCond .ne 5, 3) := by decide +kernel
theorem dX12_lined_47 : decode cX12_lined 47 = .ok (.iconst (-1), 1) := by decide +kernel
theorem dX12_lined_48 : decode cX12_lined 48 = .ok (.ireturn, 1) := by decide +kernel
theorem dX12_lined_49 : decode cX12_lined 49 = .ok (.iload_n 1, 1) := by decide +kernel
theorem dX12_lined_50 : decode cX12_lined 50 = .ok (.istore 4, 2) := by decide +kernel
theorem dX12_lined_52 : decode cX12_lined 52 = .ok (.iload 4, 2) := by decide +kernel
theorem dX12_lined_54 : decode cX12_lined 54 = .ok (.ifCond .lt 195, 3) := by decide +kernel
theorem dX12_lined_57 : decode cX12_lined 57 = .ok (.iload_n 3, 1) := by decide +kernel
theorem dX12_lined_58 : decode cX12_lined 58 = .ok (.istore 5, 2) := by decide +kernel
theorem dX12_lined_60 : decode cX12_lined 60 = .ok (.iload 5, 2) := by decide +kernel
theorem dX12_lined_62 : decode cX12_lined 62 = .ok (.ifCond .lt 181, 3) := by decide +kernel
theorem dX12_lined_65 : decode cX12_lined 65 = .ok (.iload 4, 2) := by decide +kernel
theorem dX12_lined_67 : decode cX12_lined 67 = .ok (.iload_n 1, 1) := by decide +kernel
theorem dX12_lined_68 : decode cX12_lined 68 = .ok (.if_icmp .ne 13, 3) := by decide +kernel
theorem dX12_lined_71 : decode cX12_lined 71 = .ok (.iload 5, 2) := by decide +kernel
theorem dX12_lined_73 : decode cX12_lined 73 = .ok (.iload_n 3, 1) := by decide +kernel
theorem dX12_lined_74 : decode cX12_lined 74 = .ok (.if_icmp .ne 7, 3) := by decide +kernel
theorem dX12_lined_77 : decode cX12_lined 77 = .ok (.iconst 0, 1) := by decide +kernel
theorem dX12_lined_78 : decode cX12_lined 78 = .ok (.goto 6, 3) := by decide +kernel
theorem dX12_lined_81 : decode cX12_lined 81 = .ok (.ldc_w 392, 3) := by decide +kernel
theorem dX12_lined_84 : decode cX12_lined 84 = .ok (.istore 6, 2) := by decide +kernel
theorem dX12_lined_86 : decode cX12_lined 86 = .ok (.iload 4, 2) := by decide +kernel
theorem dX12_lined_88 : decode cX12_lined 88 = .ok (.iload_n 1, 1) := by decide +kernel
theorem dX12_lined_89 : decode cX12_lined 89 = .ok (.if_icmp .ge 39, 3) := by decide +kernel
theorem dX12_lined_92 : decode cX12_lined 92 = .ok (.iload 5, 2) := by decide +kernel
theorem dX12_lined_94 : decode cX12_lined 94 = .ok (.iload_n 3, 1) := by decide +kernel
theorem dX12_lined_95 : decode cX12_lined 95 = .ok (.if_icmp .ge 33, 3) := by decide +kernel
theorem dX12_lined_98 : decode cX12_lined 98 = .ok (.aload_n 0, 1) := by decide +kernel
theorem dX12_lined_99 : decode cX12_lined 99 = .ok (.iload 4, 2) := by decide +kernel
theorem dX12_lined_101 : decode cX12_lined 101 = .ok (.iload_n 1, 1) := by decide +kernel
theorem dX12_lined_102 : decode cX12_lined 102 = .ok (.iload 5, 2) := by decide +kernel
theorem dX12_lined_104 : decode cX12_lined 104 = .ok (.iadd, 1) := by decide +kernel
theorem dX12_lined_105 : decode cX12_lined 105 = .ok (.invokevirtual 393, 3) := by decide +kernel
theorem dX12_lined_108 : decode cX12_lined 108 = .ok (.aload_n 0, 1) := by decide +kernel
theorem dX12_lined_109 : decode cX12_lined 109 = .ok (.getfield 146, 3) := by decide +kernel
theorem dX12_lined_112 : decode cX12_lined 112 = .ok (.bipush 49, 2) := by decide +kernel
theorem dX12_lined_114 : decode cX12_lined 114 = .ok (.iload 4, 2) := by decide +kernel
theorem dX12_lined_116 : decode cX12_lined 116 = .ok (.iconst 1, 1) := by decide +kernel
theorem dX12_lined_117 : decode cX12_lined 117 = .ok (.iadd, 1) := by decide +kernel
theorem dX12_lined_118 : decode cX12_lined 118 = .ok (.imul, 1) := by decide +kernel
theorem dX12_lined_119 : decode cX12_lined 119 = .ok (.iload 5, 2) := by decide +kernel
theorem dX12_lined_121 : decode cX12_lined 121 = .ok (.iadd, 1) := by decide +kernel
theorem dX12_lined_122 : decode cX12_lined 122 = .ok (.iconst 1, 1) := by decide +kernel
theorem dX12_lined_123 : decode cX12_lined 123 = .ok (.iadd, 1) := by decide +kernel
theorem dX12_lined_124 : decode cX12_lined 124 = .ok (.iaload, 1) := by decide +kernel
theorem dX12_lined_125 : decode cX12_lined 125 = .ok (.iadd, 1) := by decide +kernel
theorem dX12_lined_126 : decode cX12_lined 126 = .ok (.istore 6, 2) := by decide +kernel
theorem dX12_lined_128 : decode cX12_lined 128 = .ok (.iload 4, 2) := by decide +kernel
theorem dX12_lined_130 : decode cX12_lined 130 = .ok (.iload_n 1, 1) := by decide +kernel
theorem dX12_lined_131 : decode cX12_lined 131 = .ok (.if_icmp .ge 44, 3) := by decide +kernel
theorem dX12_lined_134 : decode cX12_lined 134 = .ok (.iload_n 2, 1) := by decide +kernel
theorem dX12_lined_135 : decode cX12_lined 135 = .ok (.aload_n 0, 1) := by decide +kernel
theorem dX12_lined_136 : decode cX12_lined 136 = .ok (.getfield 146, 3) := by decide +kernel
theorem dX12_lined_139 : decode cX12_lined 139 = .ok (.bipush 49, 2) := by decide +kernel
theorem dX12_lined_141 : decode cX12_lined 141 = .ok (.iload 4, 2) := by decide +kernel
theorem dX12_lined_143 : decode cX12_lined 143 = .ok (.iconst 1, 1) := by decide +kernel
theorem dX12_lined_144 : decode cX12_lined 144 = .ok (.iadd, 1) := by decide +kernel
theorem dX12_lined_145 : decode cX12_lined 145 = .ok (.imul, 1) := by decide +kernel
theorem dX12_lined_146 : decode cX12_lined 146 = .ok (.iload 5, 2) := by decide +kernel
theorem dX12_lined_148 : decode cX12_lined 148 = .ok (.iadd, 1) := by decide +kernel
theorem dX12_lined_149 : decode cX12_lined 149 = .ok (.iaload, 1) := by decide +kernel
theorem dX12_lined_150 : decode cX12_lined 150 = .ok (.iadd, 1) := by decide +kernel
theorem dX12_lined_151 : decode cX12_lined 151 = .ok (.iload 6, 2) := by decide +kernel
theorem dX12_lined_153 : decode cX12_lined 153 = .ok (.if_icmp .ge 22, 3) := by decide +kernel
theorem dX12_lined_156 : decode cX12_lined 156 = .ok (.iload_n 2, 1) := by decide +kernel
theorem dX12_lined_157 : decode cX12_lined 157 = .ok (.aload_n 0, 1) := by decide +kernel
theorem dX12_lined_158 : decode cX12_lined 158 = .ok (.getfield 146, 3) := by decide +kernel
theorem dX12_lined_161 : decode cX12_lined 161 = .ok (.bipush 49, 2) := by decide +kernel
theorem dX12_lined_163 : decode cX12_lined 163 = .ok (.iload 4, 2) := by decide +kernel
theorem dX12_lined_165 : decode cX12_lined 165 = .ok (.iconst 1, 1) := by decide +kernel
theorem dX12_lined_166 : decode cX12_lined 166 = .ok (.iadd, 1) := by decide +kernel
theorem dX12_lined_167 : decode cX12_lined 167 = .ok (.imul, 1) := by decide +kernel
theorem dX12_lined_168 : decode cX12_lined 168 = .ok (.iload 5, 2) := by decide +kernel
theorem dX12_lined_170 : decode cX12_lined 170 = .ok (.iadd, 1) := by decide +kernel
theorem dX12_lined_171 : decode cX12_lined 171 = .ok (.iaload, 1) := by decide +kernel
theorem dX12_lined_172 : decode cX12_lined 172 = .ok (.iadd, 1) := by decide +kernel
theorem dX12_lined_173 : decode cX12_lined 173 = .ok (.istore 6, 2) := by decide +kernel
theorem dX12_lined_175 : decode cX12_lined 175 = .ok (.iload 5, 2) := by decide +kernel
theorem dX12_lined_177 : decode cX12_lined 177 = .ok (.iload_n 3, 1) := by decide +kernel
theorem dX12_lined_178 : decode cX12_lined 178 = .ok (.if_icmp .ge 44, 3) := by decide +kernel
theorem dX12_lined_181 : decode cX12_lined 181 = .ok (.iload_n 2, 1) := by decide +kernel
theorem dX12_lined_182 : decode cX12_lined 182 = .ok (.aload_n 0, 1) := by decide +kernel
theorem dX12_lined_183 : decode cX12_lined 183 = .ok (.getfield 146, 3) := by decide +kernel
theorem dX12_lined_186 : decode cX12_lined 186 = .ok (.bipush 49, 2) := by decide +kernel
theorem dX12_lined_188 : decode cX12_lined 188 = .ok (.iload 4, 2) := by decide +kernel
theorem dX12_lined_190 : decode cX12_lined 190 = .ok (.imul, 1) := by decide +kernel
theorem dX12_lined_191 : decode cX12_lined 191 = .ok (.iload 5, 2) := by decide +kernel
theorem dX12_lined_193 : decode cX12_lined 193 = .ok (.iadd, 1) := by decide +kernel
theorem dX12_lined_194 : decode cX12_lined 194 = .ok (.iconst 1, 1) := by decide +kernel
theorem dX12_lined_195 : decode cX12_lined 195 = .ok (.iadd, 1) := by decide +kernel
theorem dX12_lined_196 : decode cX12_lined 196 = .ok (.iaload, 1) := by decide +kernel
theorem dX12_lined_197 : decode cX12_lined 197 = .ok (.iadd, 1) := by decide +kernel
theorem dX12_lined_198 : decode cX12_lined 198 = .ok (.iload 6, 2) := by decide +kernel
theorem dX12_lined_200 : decode cX12_lined 200 = .ok (.if_icmp .ge 22, 3) := by decide +kernel
theorem dX12_lined_203 : decode cX12_lined 203 = .ok (.iload_n 2, 1) := by decide +kernel
theorem dX12_lined_204 : decode cX12_lined 204 = .ok (.aload_n 0, 1) := by decide +kernel
theorem dX12_lined_205 : decode cX12_lined 205 = .ok (.getfield 146, 3) := by decide +kernel
theorem dX12_lined_208 : decode cX12_lined 208 = .ok (.bipush 49, 2) := by decide +kernel
theorem dX12_lined_210 : decode cX12_lined 210 = .ok (.iload 4, 2) := by decide +kernel
theorem dX12_lined_212 : decode cX12_lined 212 = .ok (.imul, 1) := by decide +kernel
theorem dX12_lined_213 : decode cX12_lined 213 = .ok (.iload 5, 2) := by decide +kernel
theorem dX12_lined_215 : decode cX12_lined 215 = .ok (.iadd, 1) := by decide +kernel
theorem dX12_lined_216 : decode cX12_lined 216 = .ok (.iconst 1, 1) := by decide +kernel
theorem dX12_lined_217 : decode cX12_lined 217 = .ok (.iadd, 1) := by decide +kernel
theorem dX12_lined_218 : decode cX12_lined 218 = .ok (.iaload, 1) := by decide +kernel
theorem dX12_lined_219 : decode cX12_lined 219 = .ok (.iadd, 1) := by decide +kernel
theorem dX12_lined_220 : decode cX12_lined 220 = .ok (.istore 6, 2) := by decide +kernel
theorem dX12_lined_222 : decode cX12_lined 222 = .ok (.aload_n 0, 1) := by decide +kernel
theorem dX12_lined_223 : decode cX12_lined 223 = .ok (.getfield 146, 3) := by decide +kernel
theorem dX12_lined_226 : decode cX12_lined 226 = .ok (.bipush 49, 2) := by decide +kernel
theorem dX12_lined_228 : decode cX12_lined 228 = .ok (.iload 4, 2) := by decide +kernel
theorem dX12_lined_230 : decode cX12_lined 230 = .ok (.imul, 1) := by decide +kernel
theorem dX12_lined_231 : decode cX12_lined 231 = .ok (.iload 5, 2) := by decide +kernel
theorem dX12_lined_233 : decode cX12_lined 233 = .ok (.iadd, 1) := by decide +kernel
theorem dX12_lined_234 : decode cX12_lined 234 = .ok (.iload 6, 2) := by decide +kernel
theorem dX12_lined_236 : decode cX12_lined 236 = .ok (.iastore, 1) := by decide +kernel
theorem dX12_lined_237 : decode cX12_lined 237 = .ok (.iinc 5 (-1), 3) := by decide +kernel
theorem dX12_lined_240 : decode cX12_lined 240 = .ok (.goto (-180), 3) := by decide +kernel
theorem dX12_lined_243 : decode cX12_lined 243 = .ok (.iinc 4 (-1), 3) := by decide +kernel
theorem dX12_lined_246 : decode cX12_lined 246 = .ok (.goto (-194), 3) := by decide +kernel
theorem dX12_lined_249 : decode cX12_lined 249 = .ok (.aload_n 0, 1) := by decide +kernel
theorem dX12_lined_250 : decode cX12_lined 250 = .ok (.iload_n 1, 1) := by decide +kernel
theorem dX12_lined_251 : decode cX12_lined 251 = .ok (.putfield 396, 3) := by decide +kernel
theorem dX12_lined_254 : decode cX12_lined 254 = .ok (.iconst 0, 1) := by decide +kernel
theorem dX12_lined_255 : decode cX12_lined 255 = .ok (.istore 4, 2) := by decide +kernel
theorem dX12_lined_257 : decode cX12_lined 257 = .ok (.iconst 0, 1) := by decide +kernel
theorem dX12_lined_258 : decode cX12_lined 258 = .ok (.istore 5, 2) := by decide +kernel
theorem dX12_lined_260 : decode cX12_lined 260 = .ok (.iload 5, 2) := by decide +kernel
theorem dX12_lined_262 : decode cX12_lined 262 = .ok (.iload_n 1, 1) := by decide +kernel
theorem dX12_lined_263 : decode cX12_lined 263 = .ok (.if_icmp .ge 147, 3) := by decide +kernel
theorem dX12_lined_266 : decode cX12_lined 266 = .ok (.iload 4, 2) := by decide +kernel
theorem dX12_lined_268 : decode cX12_lined 268 = .ok (.iload_n 3, 1) := by decide +kernel
theorem dX12_lined_269 : decode cX12_lined 269 = .ok (.if_icmp .ge 51, 3) := by decide +kernel
theorem dX12_lined_272 : decode cX12_lined 272 = .ok (.aload_n 0, 1) := by decide +kernel
theorem dX12_lined_273 : decode cX12_lined 273 = .ok (.getfield 146, 3) := by decide +kernel
theorem dX12_lined_276 : decode cX12_lined 276 = .ok (.bipush 49, 2) := by decide +kernel
theorem dX12_lined_278 : decode cX12_lined 278 = .ok (.iload 5, 2) := by decide +kernel
theorem dX12_lined_280 : decode cX12_lined 280 = .ok (.imul, 1) := by decide +kernel
theorem dX12_lined_281 : decode cX12_lined 281 = .ok (.iload 4, 2) := by decide +kernel
theorem dX12_lined_283 : decode cX12_lined 283 = .ok (.iadd, 1) := by decide +kernel
theorem dX12_lined_284 : decode cX12_lined 284 = .ok (.iaload, 1) := by decide +kernel
theorem dX12_lined_285 : decode cX12_lined 285 = .ok (.aload_n 0, 1) := by decide +kernel
theorem dX12_lined_286 : decode cX12_lined 286 = .ok (.iload 5, 2) := by decide +kernel
theorem dX12_lined_288 : decode cX12_lined 288 = .ok (.iload_n 1, 1) := by decide +kernel
theorem dX12_lined_289 : decode cX12_lined 289 = .ok (.iload 4, 2) := by decide +kernel
theorem dX12_lined_291 : decode cX12_lined 291 = .ok (.iadd, 1) := by decide +kernel
theorem dX12_lined_292 : decode cX12_lined 292 = .ok (.invokevirtual 393, 3) := by decide +kernel
theorem dX12_lined_295 : decode cX12_lined 295 = .ok (.aload_n 0, 1) := by decide +kernel
theorem dX12_lined_296 : decode cX12_lined 296 = .ok (.getfield 146, 3) := by decide +kernel
theorem dX12_lined_299 : decode cX12_lined 299 = .ok (.bipush 49, 2) := by decide +kernel
theorem dX12_lined_301 : decode cX12_lined 301 = .ok (.iload 5, 2) := by decide +kernel
theorem dX12_lined_303 : decode cX12_lined 303 = .ok (.iconst 1, 1) := by decide +kernel
theorem dX12_lined_304 : decode cX12_lined 304 = .ok (.iadd, 1) := by decide +kernel
theorem dX12_lined_305 : decode cX12_lined 305 = .ok (.imul, 1) := by decide +kernel
theorem dX12_lined_306 : decode cX12_lined 306 = .ok (.iload 4, 2) := by decide +kernel
theorem dX12_lined_308 : decode cX12_lined 308 = .ok (.iadd, 1) := by decide +kernel
theorem dX12_lined_309 : decode cX12_lined 309 = .ok (.iconst 1, 1) := by decide +kernel
theorem dX12_lined_310 : decode cX12_lined 310 = .ok (.iadd, 1) := by decide +kernel
theorem dX12_lined_311 : decode cX12_lined 311 = .ok (.iaload, 1) := by decide +kernel
theorem dX12_lined_312 : decode cX12_lined 312 = .ok (.iadd, 1) := by decide +kernel
theorem dX12_lined_313 : decode cX12_lined 313 = .ok (.if_icmp .ne 7, 3) := by decide +kernel
theorem dX12_lined_316 : decode cX12_lined 316 = .ok (.iconst 1, 1) := by decide +kernel
theorem dX12_lined_317 : decode cX12_lined 317 = .ok (.goto 4, 3) := by decide +kernel
theorem dX12_lined_320 : decode cX12_lined 320 = .ok (.iconst 0, 1) := by decide +kernel
theorem dX12_lined_321 : decode cX12_lined 321 = .ok (.istore 6, 2) := by decide +kernel
theorem dX12_lined_323 : decode cX12_lined 323 = .ok (.aload_n 0, 1) := by decide +kernel
theorem dX12_lined_324 : decode cX12_lined 324 = .ok (.getfield 146, 3) := by decide +kernel
theorem dX12_lined_327 : decode cX12_lined 327 = .ok (.bipush 49, 2) := by decide +kernel
theorem dX12_lined_329 : decode cX12_lined 329 = .ok (.iload 5, 2) := by decide +kernel
theorem dX12_lined_331 : decode cX12_lined 331 = .ok (.imul, 1) := by decide +kernel
theorem dX12_lined_332 : decode cX12_lined 332 = .ok (.iload 4, 2) := by decide +kernel
theorem dX12_lined_334 : decode cX12_lined 334 = .ok (.iadd, 1) := by decide +kernel
theorem dX12_lined_335 : decode cX12_lined 335 = .ok (.iaload, 1) := by decide +kernel
theorem dX12_lined_336 : decode cX12_lined 336 = .ok (.iload_n 2, 1) := by decide +kernel
theorem dX12_lined_337 : decode cX12_lined 337 = .ok (.aload_n 0, 1) := by decide +kernel
theorem dX12_lined_338 : decode cX12_lined 338 = .ok (.getfield 146, 3) := by decide +kernel
theorem dX12_lined_341 : decode cX12_lined 341 = .ok (.bipush 49, 2) := by decide +kernel
theorem dX12_lined_343 : decode cX12_lined 343 = .ok (.iload 5, 2) := by decide +kernel
theorem dX12_lined_345 : decode cX12_lined 345 = .ok (.iconst 1, 1) := by decide +kernel
theorem dX12_lined_346 : decode cX12_lined 346 = .ok (.iadd, 1) := by decide +kernel
theorem dX12_lined_347 : decode cX12_lined 347 = .ok (.imul, 1) := by decide +kernel
theorem dX12_lined_348 : decode cX12_lined 348 = .ok (.iload 4, 2) := by decide +kernel
theorem dX12_lined_350 : decode cX12_lined 350 = .ok (.iadd, 1) := by decide +kernel
theorem dX12_lined_351 : decode cX12_lined 351 = .ok (.iaload, 1) := by decide +kernel
theorem dX12_lined_352 : decode cX12_lined 352 = .ok (.iadd, 1) := by decide +kernel
theorem dX12_lined_353 : decode cX12_lined 353 = .ok (.if_icmp .ne 7, 3) := by decide +kernel
theorem dX12_lined_356 : decode cX12_lined 356 = .ok (.iconst 1, 1) := by decide +kernel
theorem dX12_lined_357 : decode cX12_lined 357 = .ok (.goto 4, 3) := by decide +kernel
theorem dX12_lined_360 : decode cX12_lined 360 = .ok (.iconst 0, 1) := by decide +kernel
theorem dX12_lined_361 : decode cX12_lined 361 = .ok (.istore 7, 2) := by decide +kernel
theorem dX12_lined_363 : decode cX12_lined 363 = .ok (.iload 6, 2) := by decide +kernel
theorem dX12_lined_365 : decode cX12_lined 365 = .ok (.ifCond .ne 8, 3) := by decide +kernel
theorem dX12_lined_368 : decode cX12_lined 368 = .ok (.iload 7, 2) := by decide +kernel
theorem dX12_lined_370 : decode cX12_lined 370 = .ok (.ifCond .eq 24, 3) := by decide +kernel
theorem dX12_lined_373 : decode cX12_lined 373 = .ok (.aload_n 0, 1) := by decide +kernel
theorem dX12_lined_374 : decode cX12_lined 374 = .ok (.getfield 149, 3) := by decide +kernel
theorem dX12_lined_377 : decode cX12_lined 377 = .ok (.iload 5, 2) := by decide +kernel
theorem dX12_lined_379 : decode cX12_lined 379 = .ok (.iload 6, 2) := by decide +kernel
theorem dX12_lined_381 : decode cX12_lined 381 = .ok (.ifCond .eq 8, 3) := by decide +kernel
theorem dX12_lined_384 : decode cX12_lined 384 = .ok (.iload 4, 2) := by decide +kernel
theorem dX12_lined_386 : decode cX12_lined 386 = .ok (.goto 4, 3) := by decide +kernel
theorem dX12_lined_389 : decode cX12_lined 389 = .ok (.iconst (-1), 1) := by decide +kernel
theorem dX12_lined_390 : decode cX12_lined 390 = .ok (.iastore, 1) := by decide +kernel
theorem dX12_lined_391 : decode cX12_lined 391 = .ok (.iinc 5 1, 3) := by decide +kernel
theorem dX12_lined_394 : decode cX12_lined 394 = .ok (.iload 6, 2) := by decide +kernel
theorem dX12_lined_396 : decode cX12_lined 396 = .ok (.ifCond .ne 8, 3) := by decide +kernel
theorem dX12_lined_399 : decode cX12_lined 399 = .ok (.iload 7, 2) := by decide +kernel
theorem dX12_lined_401 : decode cX12_lined 401 = .ok (.ifCond .ne 6, 3) := by decide +kernel
theorem dX12_lined_404 : decode cX12_lined 404 = .ok (.iinc 4 1, 3) := by decide +kernel
theorem dX12_lined_407 : decode cX12_lined 407 = .ok (.goto (-147), 3) := by decide +kernel
theorem dX12_lined_410 : decode cX12_lined 410 = .ok (.aload_n 0, 1) := by decide +kernel
theorem dX12_lined_411 : decode cX12_lined 411 = .ok (.getfield 146, 3) := by decide +kernel
theorem dX12_lined_414 : decode cX12_lined 414 = .ok (.iconst 0, 1) := by decide +kernel
theorem dX12_lined_415 : decode cX12_lined 415 = .ok (.iaload, 1) := by decide +kernel
theorem dX12_lined_416 : decode cX12_lined 416 = .ok (.ireturn, 1) := by decide +kernel
def M_lined_47 (K : Int32 → th_St → Prop) (u : th_St) : Prop :=
  K (-1 : Int32) u
set_option maxHeartbeats 4000000 in
set_option maxRecDepth 100000 in
theorem M_lined_47_w {K : Int32 → th_St → Prop} (C : th_Cx p s m args meth c cX12_lined RX12 8 (some .int) (dC, dI) (th_ty cs) th_E0 A) (u : th_St) (H : Heap) (locs : List Loc) (ls : Array Slot) (hf : M_lined_47 K u) (hw : th_wI (dC, dI) (wM cs q) A s.heap u H locs) (hl : lv_has ls 8 []) : W p l e (th_rm 2 0 0) s m args below meth c H locs 0 0 (MQ below (va_Qi K (th_Post (dC, dI) (wM cs q) A) A) args s 0 0 A) (F0 m 47 ls []) := by
  have hx := C.1
  have hb := C.2.1
  unfold M_lined_47 at hf
  refine lv_iconst (v := (-1 : Int32)) hx hb dX12_lined_47 (by decide) ?_
  exact th_iret C hw hf dX12_lined_48
def M_lined_222 (K : Int32 → th_St → Prop) (k52 : Int32 → Int32 → Int32 → Int32 → th_St → Prop) (k60 : Int32 → Int32 → Int32 → Int32 → Int32 → th_St → Prop) (x1 : Int32) (x2 : Int32) (x3 : Int32) (x4 : Int32) (x5 : Int32) (x6 : Int32) (u : th_St) : Prop :=
  (vp_in (((49 : Int32) * x4) + x5) 2401 ∧ ∀ u_1 : th_St, u_1 = th_sa u 60 (upd (u.2.2.1 60) ((((49 : Int32) * x4) + x5)).toNatClampNeg x6) → ∀ x5_2 : Int32, x5_2 = x5 + (-1 : Int32) → k60 x1 x2 x3 x4 x5_2 u_1)
set_option maxHeartbeats 4000000 in
set_option maxRecDepth 100000 in
theorem M_lined_222_w {K : Int32 → th_St → Prop} {k52 : Int32 → Int32 → Int32 → Int32 → th_St → Prop} {k60 : Int32 → Int32 → Int32 → Int32 → Int32 → th_St → Prop} (C : th_Cx p s m args meth c cX12_lined RX12 8 (some .int) (dC, dI) (th_ty cs) th_E0 A) (hk52 : ∀ (x1 : Int32) (x2 : Int32) (x3 : Int32) (x4 : Int32) (u : th_St) (H : Heap) (locs : List Loc) (ls : Array Slot), k52 x1 x2 x3 x4 u → th_wI (dC, dI) (wM cs q) A s.heap u H locs → lv_has ls 8 [(0, .ref (q 0)), (1, .int x1), (2, .int x2), (3, .int x3), (4, .int x4)] → W p l e (th_rm 2 0 0) s m args below meth c H locs 0 0 (MQ below (va_Qi K (th_Post (dC, dI) (wM cs q) A) A) args s 0 0 A) (F0 m 52 ls [])) (hk60 : ∀ (x1 : Int32) (x2 : Int32) (x3 : Int32) (x4 : Int32) (x5 : Int32) (u : th_St) (H : Heap) (locs : List Loc) (ls : Array Slot), k60 x1 x2 x3 x4 x5 u → th_wI (dC, dI) (wM cs q) A s.heap u H locs → lv_has ls 8 [(0, .ref (q 0)), (1, .int x1), (2, .int x2), (3, .int x3), (4, .int x4), (5, .int x5)] → W p l e (th_rm 2 0 0) s m args below meth c H locs 0 0 (MQ below (va_Qi K (th_Post (dC, dI) (wM cs q) A) A) args s 0 0 A) (F0 m 60 ls [])) (x1 : Int32) (x2 : Int32) (x3 : Int32) (x4 : Int32) (x5 : Int32) (x6 : Int32) (u : th_St) (H : Heap) (locs : List Loc) (ls : Array Slot) (hf : M_lined_222 K k52 k60 x1 x2 x3 x4 x5 x6 u) (hw : th_wI (dC, dI) (wM cs q) A s.heap u H locs) (hl : lv_has ls 8 [(0, .ref (q 0)), (1, .int x1), (2, .int x2), (3, .int x3), (4, .int x4), (5, .int x5), (6, .int x6)]) : W p l e (th_rm 2 0 0) s m args below meth c H locs 0 0 (MQ below (va_Qi K (th_Post (dC, dI) (wM cs q) A) A) args s 0 0 A) (F0 m 222 ls []) := by
  have hx := C.1
  have hb := C.2.1
  unfold M_lined_222 at hf
  refine lv_aload_n hx hb dX12_lined_222 rfl (lv_at hl 0 rfl) ?_
  refine mg_60 C hw dX12_lined_223 ?_
  refine lv_bipush (v := (49 : Int32)) hx hb dX12_lined_226 (by decide) ?_
  refine lv_iload hx hb dX12_lined_228 (lv_at hl 4 rfl) ?_
  refine lv_imul hx hb dX12_lined_230 ?_
  refine lv_iload hx hb dX12_lined_231 (lv_at hl 5 rfl) ?_
  refine lv_iadd hx hb dX12_lined_233 ?_
  refine lv_iload hx hb dX12_lined_234 (lv_at hl 6 rfl) ?_
  refine ms_60 C hw hf.1 dX12_lined_236 (fun u_1 e9 H locs hw => ?_)
  replace hf := hf.2 u_1 e9
  clear e9
  obtain ⟨x5_2, e9⟩ : ∃ y : Int32, y = x5 + (-1 : Int32) := ⟨_, rfl⟩
  replace hf := hf x5_2 e9
  refine lv_iinc (v := x5_2) (lv' := [(5, .int x5_2), (0, .ref (q 0)), (1, .int x1), (2, .int x2), (3, .int x3), (4, .int x4), (6, .int x6)]) hx hb dX12_lined_237 hl (k := 5) rfl (by rw [e9]; rfl) (by decide) rfl (fun ls hl => ?_)
  clear e9
  refine lv_goto (tgt := 60) hx hb dX12_lined_240 (by decide) ?_
  exact hk60 x1 x2 x3 x4 x5_2 u_1 _ _ _ hf hw (lv_sub hl [1, 2, 3, 4, 5, 0] rfl)
def M_lined_175 (K : Int32 → th_St → Prop) (k52 : Int32 → Int32 → Int32 → Int32 → th_St → Prop) (k60 : Int32 → Int32 → Int32 → Int32 → Int32 → th_St → Prop) (x1 : Int32) (x2 : Int32) (x3 : Int32) (x4 : Int32) (x5 : Int32) (x6 : Int32) (u : th_St) : Prop :=
  ((x3 ≤ x5 → M_lined_222 K k52 k60 x1 x2 x3 x4 x5 x6 u) ∧ (¬ x3 ≤ x5 → (vp_in ((((49 : Int32) * x4) + x5) + (1 : Int32)) 2401 ∧ ∀ y_1 : Int32, y_1 = u.2.2.1 60 (((((49 : Int32) * x4) + x5) + (1 : Int32))).toNatClampNeg → ((x6 ≤ (x2 + y_1) → M_lined_222 K k52 k60 x1 x2 x3 x4 x5 x6 u) ∧ (¬ x6 ≤ (x2 + y_1) → (vp_in ((((49 : Int32) * x4) + x5) + (1 : Int32)) 2401 ∧ ∀ y_2 : Int32, y_2 = u.2.2.1 60 (((((49 : Int32) * x4) + x5) + (1 : Int32))).toNatClampNeg → ∀ y_3 : Int32, y_3 = (x2 + y_2) → M_lined_222 K k52 k60 x1 x2 x3 x4 x5 y_3 u))))))
set_option maxHeartbeats 4000000 in
set_option maxRecDepth 100000 in
theorem M_lined_175_w {K : Int32 → th_St → Prop} {k52 : Int32 → Int32 → Int32 → Int32 → th_St → Prop} {k60 : Int32 → Int32 → Int32 → Int32 → Int32 → th_St → Prop} (C : th_Cx p s m args meth c cX12_lined RX12 8 (some .int) (dC, dI) (th_ty cs) th_E0 A) (hk52 : ∀ (x1 : Int32) (x2 : Int32) (x3 : Int32) (x4 : Int32) (u : th_St) (H : Heap) (locs : List Loc) (ls : Array Slot), k52 x1 x2 x3 x4 u → th_wI (dC, dI) (wM cs q) A s.heap u H locs → lv_has ls 8 [(0, .ref (q 0)), (1, .int x1), (2, .int x2), (3, .int x3), (4, .int x4)] → W p l e (th_rm 2 0 0) s m args below meth c H locs 0 0 (MQ below (va_Qi K (th_Post (dC, dI) (wM cs q) A) A) args s 0 0 A) (F0 m 52 ls [])) (hk60 : ∀ (x1 : Int32) (x2 : Int32) (x3 : Int32) (x4 : Int32) (x5 : Int32) (u : th_St) (H : Heap) (locs : List Loc) (ls : Array Slot), k60 x1 x2 x3 x4 x5 u → th_wI (dC, dI) (wM cs q) A s.heap u H locs → lv_has ls 8 [(0, .ref (q 0)), (1, .int x1), (2, .int x2), (3, .int x3), (4, .int x4), (5, .int x5)] → W p l e (th_rm 2 0 0) s m args below meth c H locs 0 0 (MQ below (va_Qi K (th_Post (dC, dI) (wM cs q) A) A) args s 0 0 A) (F0 m 60 ls [])) (x1 : Int32) (x2 : Int32) (x3 : Int32) (x4 : Int32) (x5 : Int32) (x6 : Int32) (u : th_St) (H : Heap) (locs : List Loc) (ls : Array Slot) (hf : M_lined_175 K k52 k60 x1 x2 x3 x4 x5 x6 u) (hw : th_wI (dC, dI) (wM cs q) A s.heap u H locs) (hl : lv_has ls 8 [(0, .ref (q 0)), (1, .int x1), (2, .int x2), (3, .int x3), (4, .int x4), (5, .int x5), (6, .int x6)]) : W p l e (th_rm 2 0 0) s m args below meth c H locs 0 0 (MQ below (va_Qi K (th_Post (dC, dI) (wM cs q) A) A) args s 0 0 A) (F0 m 175 ls []) := by
  have hx := C.1
  have hb := C.2.1
  unfold M_lined_175 at hf
  refine lv_iload hx hb dX12_lined_175 (lv_at hl 5 rfl) ?_
  refine lv_iload_n hx hb dX12_lined_177 rfl (lv_at hl 3 rfl) ?_
  refine lv_icmp_ge (tgt := 222) hx hb dX12_lined_178 (by decide) (fun hc => ?_) (fun hc => ?_)
  · replace hf := hf.1 hc
    clear hc
    exact M_lined_222_w C hk52 hk60 x1 x2 x3 x4 x5 x6 u _ _ _ hf hw (lv_sub hl [0, 1, 2, 3, 4, 5, 6] rfl)
  · replace hf := hf.2 hc
    clear hc
    refine lv_iload_n hx hb dX12_lined_181 rfl (lv_at hl 2 rfl) ?_
    refine lv_aload_n hx hb dX12_lined_182 rfl (lv_at hl 0 rfl) ?_
    refine mg_60 C hw dX12_lined_183 ?_
    refine lv_bipush (v := (49 : Int32)) hx hb dX12_lined_186 (by decide) ?_
    refine lv_iload hx hb dX12_lined_188 (lv_at hl 4 rfl) ?_
    refine lv_imul hx hb dX12_lined_190 ?_
    refine lv_iload hx hb dX12_lined_191 (lv_at hl 5 rfl) ?_
    refine lv_iadd hx hb dX12_lined_193 ?_
    refine lv_iconst (v := (1 : Int32)) hx hb dX12_lined_194 (by decide) ?_
    refine lv_iadd hx hb dX12_lined_195 ?_
    refine ml_60 C hw hf.1 dX12_lined_196 (fun y_1 e9 => ?_)
    replace hf := hf.2 y_1 e9
    clear e9
    refine lv_iadd hx hb dX12_lined_197 ?_
    refine lv_iload hx hb dX12_lined_198 (lv_at hl 6 rfl) ?_
    refine lv_icmp_ge (tgt := 222) hx hb dX12_lined_200 (by decide) (fun hc => ?_) (fun hc => ?_)
    · replace hf := hf.1 hc
      clear hc
      exact M_lined_222_w C hk52 hk60 x1 x2 x3 x4 x5 x6 u _ _ _ hf hw (lv_sub hl [0, 1, 2, 3, 4, 5, 6] rfl)
    · replace hf := hf.2 hc
      clear hc
      refine lv_iload_n hx hb dX12_lined_203 rfl (lv_at hl 2 rfl) ?_
      refine lv_aload_n hx hb dX12_lined_204 rfl (lv_at hl 0 rfl) ?_
      refine mg_60 C hw dX12_lined_205 ?_
      refine lv_bipush (v := (49 : Int32)) hx hb dX12_lined_208 (by decide) ?_
      refine lv_iload hx hb dX12_lined_210 (lv_at hl 4 rfl) ?_
      refine lv_imul hx hb dX12_lined_212 ?_
      refine lv_iload hx hb dX12_lined_213 (lv_at hl 5 rfl) ?_
      refine lv_iadd hx hb dX12_lined_215 ?_
      refine lv_iconst (v := (1 : Int32)) hx hb dX12_lined_216 (by decide) ?_
      refine lv_iadd hx hb dX12_lined_217 ?_
      refine ml_60 C hw hf.1 dX12_lined_218 (fun y_2 e9 => ?_)
      replace hf := hf.2 y_2 e9
      clear e9
      refine lv_iadd hx hb dX12_lined_219 ?_
      refine lv_topi (fun y_3 e9 => ?_)
      replace hf := hf y_3 e9
      clear e9
      refine lv_istore (lv' := [(6, .int y_3), (0, .ref (q 0)), (1, .int x1), (2, .int x2), (3, .int x3), (4, .int x4), (5, .int x5)]) hx hb dX12_lined_220 hl (by decide) rfl (fun ls hl => ?_)
      exact M_lined_222_w C hk52 hk60 x1 x2 x3 x4 x5 y_3 u _ _ _ hf hw (lv_sub hl [1, 2, 3, 4, 5, 6, 0] rfl)
def M_lined_128 (K : Int32 → th_St → Prop) (k52 : Int32 → Int32 → Int32 → Int32 → th_St → Prop) (k60 : Int32 → Int32 → Int32 → Int32 → Int32 → th_St → Prop) (x1 : Int32) (x2 : Int32) (x3 : Int32) (x4 : Int32) (x5 : Int32) (x6 : Int32) (u : th_St) : Prop :=
  ((x1 ≤ x4 → M_lined_175 K k52 k60 x1 x2 x3 x4 x5 x6 u) ∧ (¬ x1 ≤ x4 → (vp_in (((49 : Int32) * (x4 + (1 : Int32))) + x5) 2401 ∧ ∀ y_1 : Int32, y_1 = u.2.2.1 60 ((((49 : Int32) * (x4 + (1 : Int32))) + x5)).toNatClampNeg → ((x6 ≤ (x2 + y_1) → M_lined_175 K k52 k60 x1 x2 x3 x4 x5 x6 u) ∧ (¬ x6 ≤ (x2 + y_1) → (vp_in (((49 : Int32) * (x4 + (1 : Int32))) + x5) 2401 ∧ ∀ y_2 : Int32, y_2 = u.2.2.1 60 ((((49 : Int32) * (x4 + (1 : Int32))) + x5)).toNatClampNeg → ∀ y_3 : Int32, y_3 = (x2 + y_2) → M_lined_175 K k52 k60 x1 x2 x3 x4 x5 y_3 u))))))
set_option maxHeartbeats 4000000 in
set_option maxRecDepth 100000 in
theorem M_lined_128_w {K : Int32 → th_St → Prop} {k52 : Int32 → Int32 → Int32 → Int32 → th_St → Prop} {k60 : Int32 → Int32 → Int32 → Int32 → Int32 → th_St → Prop} (C : th_Cx p s m args meth c cX12_lined RX12 8 (some .int) (dC, dI) (th_ty cs) th_E0 A) (hk52 : ∀ (x1 : Int32) (x2 : Int32) (x3 : Int32) (x4 : Int32) (u : th_St) (H : Heap) (locs : List Loc) (ls : Array Slot), k52 x1 x2 x3 x4 u → th_wI (dC, dI) (wM cs q) A s.heap u H locs → lv_has ls 8 [(0, .ref (q 0)), (1, .int x1), (2, .int x2), (3, .int x3), (4, .int x4)] → W p l e (th_rm 2 0 0) s m args below meth c H locs 0 0 (MQ below (va_Qi K (th_Post (dC, dI) (wM cs q) A) A) args s 0 0 A) (F0 m 52 ls [])) (hk60 : ∀ (x1 : Int32) (x2 : Int32) (x3 : Int32) (x4 : Int32) (x5 : Int32) (u : th_St) (H : Heap) (locs : List Loc) (ls : Array Slot), k60 x1 x2 x3 x4 x5 u → th_wI (dC, dI) (wM cs q) A s.heap u H locs → lv_has ls 8 [(0, .ref (q 0)), (1, .int x1), (2, .int x2), (3, .int x3), (4, .int x4), (5, .int x5)] → W p l e (th_rm 2 0 0) s m args below meth c H locs 0 0 (MQ below (va_Qi K (th_Post (dC, dI) (wM cs q) A) A) args s 0 0 A) (F0 m 60 ls [])) (x1 : Int32) (x2 : Int32) (x3 : Int32) (x4 : Int32) (x5 : Int32) (x6 : Int32) (u : th_St) (H : Heap) (locs : List Loc) (ls : Array Slot) (hf : M_lined_128 K k52 k60 x1 x2 x3 x4 x5 x6 u) (hw : th_wI (dC, dI) (wM cs q) A s.heap u H locs) (hl : lv_has ls 8 [(0, .ref (q 0)), (1, .int x1), (2, .int x2), (3, .int x3), (4, .int x4), (5, .int x5), (6, .int x6)]) : W p l e (th_rm 2 0 0) s m args below meth c H locs 0 0 (MQ below (va_Qi K (th_Post (dC, dI) (wM cs q) A) A) args s 0 0 A) (F0 m 128 ls []) := by
  have hx := C.1
  have hb := C.2.1
  unfold M_lined_128 at hf
  refine lv_iload hx hb dX12_lined_128 (lv_at hl 4 rfl) ?_
  refine lv_iload_n hx hb dX12_lined_130 rfl (lv_at hl 1 rfl) ?_
  refine lv_icmp_ge (tgt := 175) hx hb dX12_lined_131 (by decide) (fun hc => ?_) (fun hc => ?_)
  · replace hf := hf.1 hc
    clear hc
    exact M_lined_175_w C hk52 hk60 x1 x2 x3 x4 x5 x6 u _ _ _ hf hw (lv_sub hl [0, 1, 2, 3, 4, 5, 6] rfl)
  · replace hf := hf.2 hc
    clear hc
    refine lv_iload_n hx hb dX12_lined_134 rfl (lv_at hl 2 rfl) ?_
    refine lv_aload_n hx hb dX12_lined_135 rfl (lv_at hl 0 rfl) ?_
    refine mg_60 C hw dX12_lined_136 ?_
    refine lv_bipush (v := (49 : Int32)) hx hb dX12_lined_139 (by decide) ?_
    refine lv_iload hx hb dX12_lined_141 (lv_at hl 4 rfl) ?_
    refine lv_iconst (v := (1 : Int32)) hx hb dX12_lined_143 (by decide) ?_
    refine lv_iadd hx hb dX12_lined_144 ?_
    refine lv_imul hx hb dX12_lined_145 ?_
    refine lv_iload hx hb dX12_lined_146 (lv_at hl 5 rfl) ?_
    refine lv_iadd hx hb dX12_lined_148 ?_
    refine ml_60 C hw hf.1 dX12_lined_149 (fun y_1 e9 => ?_)
    replace hf := hf.2 y_1 e9
    clear e9
    refine lv_iadd hx hb dX12_lined_150 ?_
    refine lv_iload hx hb dX12_lined_151 (lv_at hl 6 rfl) ?_
    refine lv_icmp_ge (tgt := 175) hx hb dX12_lined_153 (by decide) (fun hc => ?_) (fun hc => ?_)
    · replace hf := hf.1 hc
      clear hc
      exact M_lined_175_w C hk52 hk60 x1 x2 x3 x4 x5 x6 u _ _ _ hf hw (lv_sub hl [0, 1, 2, 3, 4, 5, 6] rfl)
    · replace hf := hf.2 hc
      clear hc
      refine lv_iload_n hx hb dX12_lined_156 rfl (lv_at hl 2 rfl) ?_
      refine lv_aload_n hx hb dX12_lined_157 rfl (lv_at hl 0 rfl) ?_
      refine mg_60 C hw dX12_lined_158 ?_
      refine lv_bipush (v := (49 : Int32)) hx hb dX12_lined_161 (by decide) ?_
      refine lv_iload hx hb dX12_lined_163 (lv_at hl 4 rfl) ?_
      refine lv_iconst (v := (1 : Int32)) hx hb dX12_lined_165 (by decide) ?_
      refine lv_iadd hx hb dX12_lined_166 ?_
      refine lv_imul hx hb dX12_lined_167 ?_
      refine lv_iload hx hb dX12_lined_168 (lv_at hl 5 rfl) ?_
      refine lv_iadd hx hb dX12_lined_170 ?_
      refine ml_60 C hw hf.1 dX12_lined_171 (fun y_2 e9 => ?_)
      replace hf := hf.2 y_2 e9
      clear e9
      refine lv_iadd hx hb dX12_lined_172 ?_
      refine lv_topi (fun y_3 e9 => ?_)
      replace hf := hf y_3 e9
      clear e9
      refine lv_istore (lv' := [(6, .int y_3), (0, .ref (q 0)), (1, .int x1), (2, .int x2), (3, .int x3), (4, .int x4), (5, .int x5)]) hx hb dX12_lined_173 hl (by decide) rfl (fun ls hl => ?_)
      exact M_lined_175_w C hk52 hk60 x1 x2 x3 x4 x5 y_3 u _ _ _ hf hw (lv_sub hl [1, 2, 3, 4, 5, 6, 0] rfl)
def M_lined_84 (K : Int32 → th_St → Prop) (k52 : Int32 → Int32 → Int32 → Int32 → th_St → Prop) (k60 : Int32 → Int32 → Int32 → Int32 → Int32 → th_St → Prop) (x1 : Int32) (x2 : Int32) (x3 : Int32) (x4 : Int32) (x5 : Int32) (z0 : Int32) (u : th_St) : Prop :=
  ((x1 ≤ x4 → M_lined_128 K k52 k60 x1 x2 x3 x4 x5 z0 u) ∧ (¬ x1 ≤ x4 → ((x3 ≤ x5 → M_lined_128 K k52 k60 x1 x2 x3 x4 x5 z0 u) ∧ (¬ x3 ≤ x5 → M_differs x4 (x1 + x5) u (fun r_2 u_1 => (vp_in ((((49 : Int32) * (x4 + (1 : Int32))) + x5) + (1 : Int32)) 2401 ∧ ∀ y_3 : Int32, y_3 = u_1.2.2.1 60 (((((49 : Int32) * (x4 + (1 : Int32))) + x5) + (1 : Int32))).toNatClampNeg → ∀ y_4 : Int32, y_4 = (r_2 + y_3) → M_lined_128 K k52 k60 x1 x2 x3 x4 x5 y_4 u_1))))))
set_option maxHeartbeats 4000000 in
set_option maxRecDepth 100000 in
theorem M_lined_84_w {K : Int32 → th_St → Prop} {k52 : Int32 → Int32 → Int32 → Int32 → th_St → Prop} {k60 : Int32 → Int32 → Int32 → Int32 → Int32 → th_St → Prop} (C : th_Cx p s m args meth c cX12_lined RX12 8 (some .int) (dC, dI) (th_ty cs) th_E0 A) (hk52 : ∀ (x1 : Int32) (x2 : Int32) (x3 : Int32) (x4 : Int32) (u : th_St) (H : Heap) (locs : List Loc) (ls : Array Slot), k52 x1 x2 x3 x4 u → th_wI (dC, dI) (wM cs q) A s.heap u H locs → lv_has ls 8 [(0, .ref (q 0)), (1, .int x1), (2, .int x2), (3, .int x3), (4, .int x4)] → W p l e (th_rm 2 0 0) s m args below meth c H locs 0 0 (MQ below (va_Qi K (th_Post (dC, dI) (wM cs q) A) A) args s 0 0 A) (F0 m 52 ls [])) (hk60 : ∀ (x1 : Int32) (x2 : Int32) (x3 : Int32) (x4 : Int32) (x5 : Int32) (u : th_St) (H : Heap) (locs : List Loc) (ls : Array Slot), k60 x1 x2 x3 x4 x5 u → th_wI (dC, dI) (wM cs q) A s.heap u H locs → lv_has ls 8 [(0, .ref (q 0)), (1, .int x1), (2, .int x2), (3, .int x3), (4, .int x4), (5, .int x5)] → W p l e (th_rm 2 0 0) s m args below meth c H locs 0 0 (MQ below (va_Qi K (th_Post (dC, dI) (wM cs q) A) A) args s 0 0 A) (F0 m 60 ls [])) (x1 : Int32) (x2 : Int32) (x3 : Int32) (x4 : Int32) (x5 : Int32) (z0 : Int32) (u : th_St) (H : Heap) (locs : List Loc) (ls : Array Slot) (hf : M_lined_84 K k52 k60 x1 x2 x3 x4 x5 z0 u) (hw : th_wI (dC, dI) (wM cs q) A s.heap u H locs) (hl : lv_has ls 8 [(0, .ref (q 0)), (1, .int x1), (2, .int x2), (3, .int x3), (4, .int x4), (5, .int x5)]) : W p l e (th_rm 2 0 0) s m args below meth c H locs 0 0 (MQ below (va_Qi K (th_Post (dC, dI) (wM cs q) A) A) args s 0 0 A) (F0 m 84 ls [.int z0]) := by
  have hx := C.1
  have hb := C.2.1
  unfold M_lined_84 at hf
  refine lv_istore (lv' := [(6, .int z0), (0, .ref (q 0)), (1, .int x1), (2, .int x2), (3, .int x3), (4, .int x4), (5, .int x5)]) hx hb dX12_lined_84 hl (by decide) rfl (fun ls hl => ?_)
  refine lv_iload hx hb dX12_lined_86 (lv_at hl 5 rfl) ?_
  refine lv_iload_n hx hb dX12_lined_88 rfl (lv_at hl 2 rfl) ?_
  refine lv_icmp_ge (tgt := 128) hx hb dX12_lined_89 (by decide) (fun hc => ?_) (fun hc => ?_)
  · replace hf := hf.1 hc
    clear hc
    exact M_lined_128_w C hk52 hk60 x1 x2 x3 x4 x5 z0 u _ _ _ hf hw (lv_sub hl [1, 2, 3, 4, 5, 6, 0] rfl)
  · replace hf := hf.2 hc
    clear hc
    refine lv_iload hx hb dX12_lined_92 (lv_at hl 6 rfl) ?_
    refine lv_iload_n hx hb dX12_lined_94 rfl (lv_at hl 4 rfl) ?_
    refine lv_icmp_ge (tgt := 128) hx hb dX12_lined_95 (by decide) (fun hc => ?_) (fun hc => ?_)
    · replace hf := hf.1 hc
      clear hc
      exact M_lined_128_w C hk52 hk60 x1 x2 x3 x4 x5 z0 u _ _ _ hf hw (lv_sub hl [1, 2, 3, 4, 5, 6, 0] rfl)
    · replace hf := hf.2 hc
      clear hc
      refine lv_aload_n hx hb dX12_lined_98 rfl (lv_at hl 1 rfl) ?_
      refine lv_iload hx hb dX12_lined_99 (lv_at hl 5 rfl) ?_
      refine lv_iload_n hx hb dX12_lined_101 rfl (lv_at hl 2 rfl) ?_
      refine lv_iload hx hb dX12_lined_102 (lv_at hl 6 rfl) ?_
      refine lv_iadd hx hb dX12_lined_104 ?_
      refine th_callVi (As := [.int x4, .int (x1 + x5)]) (rest := []) C lkX12_393 (M_differs_c hf) hw (mRc C hw) rfl rfl ⟨Nat.le_of_ble_eq_true rfl, Nat.le_of_ble_eq_true rfl⟩ hl.1 (Nat.le_of_ble_eq_true rfl) ⟨Nat.le_refl _, Nat.le_refl _⟩ dX12_lined_105 (fun r_2 u_1 H locs hf hw => ?_)
      refine lv_aload_n hx hb dX12_lined_108 rfl (lv_at hl 1 rfl) ?_
      refine mg_60 C hw dX12_lined_109 ?_
      refine lv_bipush (v := (49 : Int32)) hx hb dX12_lined_112 (by decide) ?_
      refine lv_iload hx hb dX12_lined_114 (lv_at hl 5 rfl) ?_
      refine lv_iconst (v := (1 : Int32)) hx hb dX12_lined_116 (by decide) ?_
      refine lv_iadd hx hb dX12_lined_117 ?_
      refine lv_imul hx hb dX12_lined_118 ?_
      refine lv_iload hx hb dX12_lined_119 (lv_at hl 6 rfl) ?_
      refine lv_iadd hx hb dX12_lined_121 ?_
      refine lv_iconst (v := (1 : Int32)) hx hb dX12_lined_122 (by decide) ?_
      refine lv_iadd hx hb dX12_lined_123 ?_
      refine ml_60 C hw hf.1 dX12_lined_124 (fun y_3 e9 => ?_)
      replace hf := hf.2 y_3 e9
      clear e9
      refine lv_iadd hx hb dX12_lined_125 ?_
      refine lv_topi (fun y_4 e9 => ?_)
      replace hf := hf y_4 e9
      clear e9
      refine lv_istore (lv' := [(6, .int y_4), (0, .ref (q 0)), (1, .int x1), (2, .int x2), (3, .int x3), (4, .int x4), (5, .int x5)]) hx hb dX12_lined_126 hl (by decide) rfl (fun ls hl => ?_)
      exact M_lined_128_w C hk52 hk60 x1 x2 x3 x4 x5 y_4 u_1 _ _ _ hf hw (lv_sub hl [1, 2, 3, 4, 5, 6, 0] rfl)
def M_lined_81 (K : Int32 → th_St → Prop) (k52 : Int32 → Int32 → Int32 → Int32 → th_St → Prop) (k60 : Int32 → Int32 → Int32 → Int32 → Int32 → th_St → Prop) (x1 : Int32) (x2 : Int32) (x3 : Int32) (x4 : Int32) (x5 : Int32) (u : th_St) : Prop :=
  M_lined_84 K k52 k60 x1 x2 x3 x4 x5 (1000000 : Int32) u
set_option maxHeartbeats 4000000 in
set_option maxRecDepth 100000 in
theorem M_lined_81_w {K : Int32 → th_St → Prop} {k52 : Int32 → Int32 → Int32 → Int32 → th_St → Prop} {k60 : Int32 → Int32 → Int32 → Int32 → Int32 → th_St → Prop} (C : th_Cx p s m args meth c cX12_lined RX12 8 (some .int) (dC, dI) (th_ty cs) th_E0 A) (hk52 : ∀ (x1 : Int32) (x2 : Int32) (x3 : Int32) (x4 : Int32) (u : th_St) (H : Heap) (locs : List Loc) (ls : Array Slot), k52 x1 x2 x3 x4 u → th_wI (dC, dI) (wM cs q) A s.heap u H locs → lv_has ls 8 [(0, .ref (q 0)), (1, .int x1), (2, .int x2), (3, .int x3), (4, .int x4)] → W p l e (th_rm 2 0 0) s m args below meth c H locs 0 0 (MQ below (va_Qi K (th_Post (dC, dI) (wM cs q) A) A) args s 0 0 A) (F0 m 52 ls [])) (hk60 : ∀ (x1 : Int32) (x2 : Int32) (x3 : Int32) (x4 : Int32) (x5 : Int32) (u : th_St) (H : Heap) (locs : List Loc) (ls : Array Slot), k60 x1 x2 x3 x4 x5 u → th_wI (dC, dI) (wM cs q) A s.heap u H locs → lv_has ls 8 [(0, .ref (q 0)), (1, .int x1), (2, .int x2), (3, .int x3), (4, .int x4), (5, .int x5)] → W p l e (th_rm 2 0 0) s m args below meth c H locs 0 0 (MQ below (va_Qi K (th_Post (dC, dI) (wM cs q) A) A) args s 0 0 A) (F0 m 60 ls [])) (x1 : Int32) (x2 : Int32) (x3 : Int32) (x4 : Int32) (x5 : Int32) (u : th_St) (H : Heap) (locs : List Loc) (ls : Array Slot) (hf : M_lined_81 K k52 k60 x1 x2 x3 x4 x5 u) (hw : th_wI (dC, dI) (wM cs q) A s.heap u H locs) (hl : lv_has ls 8 [(0, .ref (q 0)), (1, .int x1), (2, .int x2), (3, .int x3), (4, .int x4), (5, .int x5)]) : W p l e (th_rm 2 0 0) s m args below meth c H locs 0 0 (MQ below (va_Qi K (th_Post (dC, dI) (wM cs q) A) A) args s 0 0 A) (F0 m 81 ls []) := by
  have hx := C.1
  have hb := C.2.1
  unfold M_lined_81 at hf
  refine lv_ldcw hx hb C.2.2.2.1 (C.2.2.2.2.1 _ hwK_X12_392) dX12_lined_81 ?_
  exact M_lined_84_w C hk52 hk60 x1 x2 x3 x4 x5 (1000000 : Int32) u _ _ _ hf hw (lv_sub hl [0, 1, 2, 3, 4, 5] rfl)
def M_lined_60 (K : Int32 → th_St → Prop) (k52 : Int32 → Int32 → Int32 → Int32 → th_St → Prop) (k60 : Int32 → Int32 → Int32 → Int32 → Int32 → th_St → Prop) (x1 : Int32) (x2 : Int32) (x3 : Int32) (x4 : Int32) (x5 : Int32) (u : th_St) : Prop :=
  ((x5 < 0 → ∀ x4_1 : Int32, x4_1 = x4 + (-1 : Int32) → k52 x1 x2 x3 x4_1 u) ∧ (¬ x5 < 0 → ((¬ x4 = x1 → M_lined_81 K k52 k60 x1 x2 x3 x4 x5 u) ∧ (x4 = x1 → ((¬ x5 = x3 → M_lined_81 K k52 k60 x1 x2 x3 x4 x5 u) ∧ (x5 = x3 → M_lined_84 K k52 k60 x1 x2 x3 x4 x5 (0 : Int32) u))))))
set_option maxHeartbeats 4000000 in
set_option maxRecDepth 100000 in
theorem M_lined_60_w {K : Int32 → th_St → Prop} {k52 : Int32 → Int32 → Int32 → Int32 → th_St → Prop} {k60 : Int32 → Int32 → Int32 → Int32 → Int32 → th_St → Prop} (C : th_Cx p s m args meth c cX12_lined RX12 8 (some .int) (dC, dI) (th_ty cs) th_E0 A) (hk52 : ∀ (x1 : Int32) (x2 : Int32) (x3 : Int32) (x4 : Int32) (u : th_St) (H : Heap) (locs : List Loc) (ls : Array Slot), k52 x1 x2 x3 x4 u → th_wI (dC, dI) (wM cs q) A s.heap u H locs → lv_has ls 8 [(0, .ref (q 0)), (1, .int x1), (2, .int x2), (3, .int x3), (4, .int x4)] → W p l e (th_rm 2 0 0) s m args below meth c H locs 0 0 (MQ below (va_Qi K (th_Post (dC, dI) (wM cs q) A) A) args s 0 0 A) (F0 m 52 ls [])) (hk60 : ∀ (x1 : Int32) (x2 : Int32) (x3 : Int32) (x4 : Int32) (x5 : Int32) (u : th_St) (H : Heap) (locs : List Loc) (ls : Array Slot), k60 x1 x2 x3 x4 x5 u → th_wI (dC, dI) (wM cs q) A s.heap u H locs → lv_has ls 8 [(0, .ref (q 0)), (1, .int x1), (2, .int x2), (3, .int x3), (4, .int x4), (5, .int x5)] → W p l e (th_rm 2 0 0) s m args below meth c H locs 0 0 (MQ below (va_Qi K (th_Post (dC, dI) (wM cs q) A) A) args s 0 0 A) (F0 m 60 ls [])) (x1 : Int32) (x2 : Int32) (x3 : Int32) (x4 : Int32) (x5 : Int32) (u : th_St) (H : Heap) (locs : List Loc) (ls : Array Slot) (hf : M_lined_60 K k52 k60 x1 x2 x3 x4 x5 u) (hw : th_wI (dC, dI) (wM cs q) A s.heap u H locs) (hl : lv_has ls 8 [(0, .ref (q 0)), (1, .int x1), (2, .int x2), (3, .int x3), (4, .int x4), (5, .int x5)]) : W p l e (th_rm 2 0 0) s m args below meth c H locs 0 0 (MQ below (va_Qi K (th_Post (dC, dI) (wM cs q) A) A) args s 0 0 A) (F0 m 60 ls []) := by
  have hx := C.1
  have hb := C.2.1
  unfold M_lined_60 at hf
  refine lv_iload hx hb dX12_lined_60 (lv_at hl 5 rfl) ?_
  refine lv_if_lt (tgt := 243) hx hb dX12_lined_62 (by decide) (fun hc => ?_) (fun hc => ?_)
  · replace hf := hf.1 hc
    clear hc
    obtain ⟨x4_1, e9⟩ : ∃ y : Int32, y = x4 + (-1 : Int32) := ⟨_, rfl⟩
    replace hf := hf x4_1 e9
    refine lv_iinc (v := x4_1) (lv' := [(4, .int x4_1), (0, .ref (q 0)), (1, .int x1), (2, .int x2), (3, .int x3), (5, .int x5)]) hx hb dX12_lined_243 hl (k := 4) rfl (by rw [e9]; rfl) (by decide) rfl (fun ls hl => ?_)
    clear e9
    refine lv_goto (tgt := 52) hx hb dX12_lined_246 (by decide) ?_
    exact hk52 x1 x2 x3 x4_1 u _ _ _ hf hw (lv_sub hl [1, 2, 3, 4, 0] rfl)
  · replace hf := hf.2 hc
    clear hc
    refine lv_iload hx hb dX12_lined_65 (lv_at hl 4 rfl) ?_
    refine lv_iload_n hx hb dX12_lined_67 rfl (lv_at hl 1 rfl) ?_
    refine lv_icmp_ne (tgt := 81) hx hb dX12_lined_68 (by decide) (fun hc => ?_) (fun hc => ?_)
    · replace hf := hf.1 hc
      clear hc
      exact M_lined_81_w C hk52 hk60 x1 x2 x3 x4 x5 u _ _ _ hf hw (lv_sub hl [0, 1, 2, 3, 4, 5] rfl)
    · replace hf := hf.2 hc
      clear hc
      refine lv_iload hx hb dX12_lined_71 (lv_at hl 5 rfl) ?_
      refine lv_iload_n hx hb dX12_lined_73 rfl (lv_at hl 3 rfl) ?_
      refine lv_icmp_ne (tgt := 81) hx hb dX12_lined_74 (by decide) (fun hc => ?_) (fun hc => ?_)
      · replace hf := hf.1 hc
        clear hc
        exact M_lined_81_w C hk52 hk60 x1 x2 x3 x4 x5 u _ _ _ hf hw (lv_sub hl [0, 1, 2, 3, 4, 5] rfl)
      · replace hf := hf.2 hc
        clear hc
        refine lv_iconst (v := (0 : Int32)) hx hb dX12_lined_77 (by decide) ?_
        refine lv_goto (tgt := 84) hx hb dX12_lined_78 (by decide) ?_
        exact M_lined_84_w C hk52 hk60 x1 x2 x3 x4 x5 (0 : Int32) u _ _ _ hf hw (lv_sub hl [0, 1, 2, 3, 4, 5] rfl)
def M_lined_60_lp (K : Int32 → th_St → Prop) (k52 : Int32 → Int32 → Int32 → Int32 → th_St → Prop) : Nat → Int32 → Int32 → Int32 → Int32 → Int32 → th_St → Prop
  | 0, _, _, _, _, _, _ => False
  | n + 1, x1, x2, x3, x4, x5, u => M_lined_60 K k52 (M_lined_60_lp K k52 n) x1 x2 x3 x4 x5 u
set_option maxHeartbeats 4000000 in
set_option maxRecDepth 100000 in
theorem M_lined_60_lw {K : Int32 → th_St → Prop} {k52 : Int32 → Int32 → Int32 → Int32 → th_St → Prop} (C : th_Cx p s m args meth c cX12_lined RX12 8 (some .int) (dC, dI) (th_ty cs) th_E0 A) (hk52 : ∀ (x1 : Int32) (x2 : Int32) (x3 : Int32) (x4 : Int32) (u : th_St) (H : Heap) (locs : List Loc) (ls : Array Slot), k52 x1 x2 x3 x4 u → th_wI (dC, dI) (wM cs q) A s.heap u H locs → lv_has ls 8 [(0, .ref (q 0)), (1, .int x1), (2, .int x2), (3, .int x3), (4, .int x4)] → W p l e (th_rm 2 0 0) s m args below meth c H locs 0 0 (MQ below (va_Qi K (th_Post (dC, dI) (wM cs q) A) A) args s 0 0 A) (F0 m 52 ls [])) (n : Nat) : ∀ (x1 : Int32) (x2 : Int32) (x3 : Int32) (x4 : Int32) (x5 : Int32) (u : th_St) (H : Heap) (locs : List Loc) (ls : Array Slot), M_lined_60_lp K k52 n x1 x2 x3 x4 x5 u → th_wI (dC, dI) (wM cs q) A s.heap u H locs → lv_has ls 8 [(0, .ref (q 0)), (1, .int x1), (2, .int x2), (3, .int x3), (4, .int x4), (5, .int x5)] → W p l e (th_rm 2 0 0) s m args below meth c H locs 0 0 (MQ below (va_Qi K (th_Post (dC, dI) (wM cs q) A) A) args s 0 0 A) (F0 m 60 ls []) := by
  induction n with
  | zero => intro x1 x2 x3 x4 x5 u H locs ls hf; exact hf.elim
  | succ n ih =>
    intro x1 x2 x3 x4 x5 u H locs ls hf hw hl
    exact M_lined_60_w C hk52 ih x1 x2 x3 x4 x5 u H locs ls hf hw hl
def M_lined_407 (K : Int32 → th_St → Prop) (k260 : Int32 → Int32 → Int32 → Int32 → Int32 → th_St → Prop) (x1 : Int32) (x2 : Int32) (x3 : Int32) (x4 : Int32) (x5 : Int32) (u : th_St) : Prop :=
  k260 x1 x2 x3 x4 x5 u
set_option maxHeartbeats 4000000 in
set_option maxRecDepth 100000 in
theorem M_lined_407_w {K : Int32 → th_St → Prop} {k260 : Int32 → Int32 → Int32 → Int32 → Int32 → th_St → Prop} (C : th_Cx p s m args meth c cX12_lined RX12 8 (some .int) (dC, dI) (th_ty cs) th_E0 A) (hk260 : ∀ (x1 : Int32) (x2 : Int32) (x3 : Int32) (x4 : Int32) (x5 : Int32) (u : th_St) (H : Heap) (locs : List Loc) (ls : Array Slot), k260 x1 x2 x3 x4 x5 u → th_wI (dC, dI) (wM cs q) A s.heap u H locs → lv_has ls 8 [(0, .ref (q 0)), (1, .int x1), (2, .int x2), (3, .int x3), (4, .int x4), (5, .int x5)] → W p l e (th_rm 2 0 0) s m args below meth c H locs 0 0 (MQ below (va_Qi K (th_Post (dC, dI) (wM cs q) A) A) args s 0 0 A) (F0 m 260 ls [])) (x1 : Int32) (x2 : Int32) (x3 : Int32) (x4 : Int32) (x5 : Int32) (u : th_St) (H : Heap) (locs : List Loc) (ls : Array Slot) (hf : M_lined_407 K k260 x1 x2 x3 x4 x5 u) (hw : th_wI (dC, dI) (wM cs q) A s.heap u H locs) (hl : lv_has ls 8 [(0, .ref (q 0)), (1, .int x1), (2, .int x2), (3, .int x3), (4, .int x4), (5, .int x5)]) : W p l e (th_rm 2 0 0) s m args below meth c H locs 0 0 (MQ below (va_Qi K (th_Post (dC, dI) (wM cs q) A) A) args s 0 0 A) (F0 m 407 ls []) := by
  have hx := C.1
  have hb := C.2.1
  unfold M_lined_407 at hf
  refine lv_goto (tgt := 260) hx hb dX12_lined_407 (by decide) ?_
  exact hk260 x1 x2 x3 x4 x5 u _ _ _ hf hw (lv_sub hl [0, 1, 2, 3, 4, 5] rfl)
def M_lined_404 (K : Int32 → th_St → Prop) (k260 : Int32 → Int32 → Int32 → Int32 → Int32 → th_St → Prop) (x1 : Int32) (x2 : Int32) (x3 : Int32) (x4 : Int32) (x5 : Int32) (u : th_St) : Prop :=
  ∀ x4_1 : Int32, x4_1 = x4 + (1 : Int32) → M_lined_407 K k260 x1 x2 x3 x4_1 x5 u
set_option maxHeartbeats 4000000 in
set_option maxRecDepth 100000 in
theorem M_lined_404_w {K : Int32 → th_St → Prop} {k260 : Int32 → Int32 → Int32 → Int32 → Int32 → th_St → Prop} (C : th_Cx p s m args meth c cX12_lined RX12 8 (some .int) (dC, dI) (th_ty cs) th_E0 A) (hk260 : ∀ (x1 : Int32) (x2 : Int32) (x3 : Int32) (x4 : Int32) (x5 : Int32) (u : th_St) (H : Heap) (locs : List Loc) (ls : Array Slot), k260 x1 x2 x3 x4 x5 u → th_wI (dC, dI) (wM cs q) A s.heap u H locs → lv_has ls 8 [(0, .ref (q 0)), (1, .int x1), (2, .int x2), (3, .int x3), (4, .int x4), (5, .int x5)] → W p l e (th_rm 2 0 0) s m args below meth c H locs 0 0 (MQ below (va_Qi K (th_Post (dC, dI) (wM cs q) A) A) args s 0 0 A) (F0 m 260 ls [])) (x1 : Int32) (x2 : Int32) (x3 : Int32) (x4 : Int32) (x5 : Int32) (u : th_St) (H : Heap) (locs : List Loc) (ls : Array Slot) (hf : M_lined_404 K k260 x1 x2 x3 x4 x5 u) (hw : th_wI (dC, dI) (wM cs q) A s.heap u H locs) (hl : lv_has ls 8 [(0, .ref (q 0)), (1, .int x1), (2, .int x2), (3, .int x3), (4, .int x4), (5, .int x5)]) : W p l e (th_rm 2 0 0) s m args below meth c H locs 0 0 (MQ below (va_Qi K (th_Post (dC, dI) (wM cs q) A) A) args s 0 0 A) (F0 m 404 ls []) := by
  have hx := C.1
  have hb := C.2.1
  unfold M_lined_404 at hf
  obtain ⟨x4_1, e9⟩ : ∃ y : Int32, y = x4 + (1 : Int32) := ⟨_, rfl⟩
  replace hf := hf x4_1 e9
  refine lv_iinc (v := x4_1) (lv' := [(4, .int x4_1), (0, .ref (q 0)), (1, .int x1), (2, .int x2), (3, .int x3), (5, .int x5)]) hx hb dX12_lined_404 hl (k := 4) rfl (by rw [e9]; rfl) (by decide) rfl (fun ls hl => ?_)
  clear e9
  exact M_lined_407_w C hk260 x1 x2 x3 x4_1 x5 u _ _ _ hf hw (lv_sub hl [1, 2, 3, 4, 0, 5] rfl)
def M_lined_394 (K : Int32 → th_St → Prop) (k260 : Int32 → Int32 → Int32 → Int32 → Int32 → th_St → Prop) (x1 : Int32) (x2 : Int32) (x3 : Int32) (x4 : Int32) (x5 : Int32) (x6 : Int32) (x7 : Int32) (u : th_St) : Prop :=
  ((¬ x6 = 0 → M_lined_404 K k260 x1 x2 x3 x4 x5 u) ∧ (x6 = 0 → ((¬ x7 = 0 → M_lined_407 K k260 x1 x2 x3 x4 x5 u) ∧ (x7 = 0 → M_lined_404 K k260 x1 x2 x3 x4 x5 u))))
set_option maxHeartbeats 4000000 in
set_option maxRecDepth 100000 in
theorem M_lined_394_w {K : Int32 → th_St → Prop} {k260 : Int32 → Int32 → Int32 → Int32 → Int32 → th_St → Prop} (C : th_Cx p s m args meth c cX12_lined RX12 8 (some .int) (dC, dI) (th_ty cs) th_E0 A) (hk260 : ∀ (x1 : Int32) (x2 : Int32) (x3 : Int32) (x4 : Int32) (x5 : Int32) (u : th_St) (H : Heap) (locs : List Loc) (ls : Array Slot), k260 x1 x2 x3 x4 x5 u → th_wI (dC, dI) (wM cs q) A s.heap u H locs → lv_has ls 8 [(0, .ref (q 0)), (1, .int x1), (2, .int x2), (3, .int x3), (4, .int x4), (5, .int x5)] → W p l e (th_rm 2 0 0) s m args below meth c H locs 0 0 (MQ below (va_Qi K (th_Post (dC, dI) (wM cs q) A) A) args s 0 0 A) (F0 m 260 ls [])) (x1 : Int32) (x2 : Int32) (x3 : Int32) (x4 : Int32) (x5 : Int32) (x6 : Int32) (x7 : Int32) (u : th_St) (H : Heap) (locs : List Loc) (ls : Array Slot) (hf : M_lined_394 K k260 x1 x2 x3 x4 x5 x6 x7 u) (hw : th_wI (dC, dI) (wM cs q) A s.heap u H locs) (hl : lv_has ls 8 [(0, .ref (q 0)), (1, .int x1), (2, .int x2), (3, .int x3), (4, .int x4), (5, .int x5), (6, .int x6), (7, .int x7)]) : W p l e (th_rm 2 0 0) s m args below meth c H locs 0 0 (MQ below (va_Qi K (th_Post (dC, dI) (wM cs q) A) A) args s 0 0 A) (F0 m 394 ls []) := by
  have hx := C.1
  have hb := C.2.1
  unfold M_lined_394 at hf
  refine lv_iload hx hb dX12_lined_394 (lv_at hl 6 rfl) ?_
  refine lv_if_ne (tgt := 404) hx hb dX12_lined_396 (by decide) (fun hc => ?_) (fun hc => ?_)
  · replace hf := hf.1 hc
    clear hc
    exact M_lined_404_w C hk260 x1 x2 x3 x4 x5 u _ _ _ hf hw (lv_sub hl [0, 1, 2, 3, 4, 5] rfl)
  · replace hf := hf.2 hc
    clear hc
    refine lv_iload hx hb dX12_lined_399 (lv_at hl 7 rfl) ?_
    refine lv_if_ne (tgt := 407) hx hb dX12_lined_401 (by decide) (fun hc => ?_) (fun hc => ?_)
    · replace hf := hf.1 hc
      clear hc
      exact M_lined_407_w C hk260 x1 x2 x3 x4 x5 u _ _ _ hf hw (lv_sub hl [0, 1, 2, 3, 4, 5] rfl)
    · replace hf := hf.2 hc
      clear hc
      exact M_lined_404_w C hk260 x1 x2 x3 x4 x5 u _ _ _ hf hw (lv_sub hl [0, 1, 2, 3, 4, 5] rfl)
def M_lined_390 (K : Int32 → th_St → Prop) (k260 : Int32 → Int32 → Int32 → Int32 → Int32 → th_St → Prop) (x1 : Int32) (x2 : Int32) (x3 : Int32) (x4 : Int32) (x5 : Int32) (x6 : Int32) (x7 : Int32) (z0 : Int32) (z1 : Int32) (u : th_St) : Prop :=
  (vp_in z1 48 ∧ ∀ u_1 : th_St, u_1 = th_sa u 61 (upd (u.2.2.1 61) (z1).toNatClampNeg z0) → ∀ x5_2 : Int32, x5_2 = x5 + (1 : Int32) → M_lined_394 K k260 x1 x2 x3 x4 x5_2 x6 x7 u_1)
set_option maxHeartbeats 4000000 in
set_option maxRecDepth 100000 in
theorem M_lined_390_w {K : Int32 → th_St → Prop} {k260 : Int32 → Int32 → Int32 → Int32 → Int32 → th_St → Prop} (C : th_Cx p s m args meth c cX12_lined RX12 8 (some .int) (dC, dI) (th_ty cs) th_E0 A) (hk260 : ∀ (x1 : Int32) (x2 : Int32) (x3 : Int32) (x4 : Int32) (x5 : Int32) (u : th_St) (H : Heap) (locs : List Loc) (ls : Array Slot), k260 x1 x2 x3 x4 x5 u → th_wI (dC, dI) (wM cs q) A s.heap u H locs → lv_has ls 8 [(0, .ref (q 0)), (1, .int x1), (2, .int x2), (3, .int x3), (4, .int x4), (5, .int x5)] → W p l e (th_rm 2 0 0) s m args below meth c H locs 0 0 (MQ below (va_Qi K (th_Post (dC, dI) (wM cs q) A) A) args s 0 0 A) (F0 m 260 ls [])) (x1 : Int32) (x2 : Int32) (x3 : Int32) (x4 : Int32) (x5 : Int32) (x6 : Int32) (x7 : Int32) (z0 : Int32) (z1 : Int32) (u : th_St) (H : Heap) (locs : List Loc) (ls : Array Slot) (hf : M_lined_390 K k260 x1 x2 x3 x4 x5 x6 x7 z0 z1 u) (hw : th_wI (dC, dI) (wM cs q) A s.heap u H locs) (hl : lv_has ls 8 [(0, .ref (q 0)), (1, .int x1), (2, .int x2), (3, .int x3), (4, .int x4), (5, .int x5), (6, .int x6), (7, .int x7)]) : W p l e (th_rm 2 0 0) s m args below meth c H locs 0 0 (MQ below (va_Qi K (th_Post (dC, dI) (wM cs q) A) A) args s 0 0 A) (F0 m 390 ls [.int z0, .int z1, .ref (q 61)]) := by
  have hx := C.1
  have hb := C.2.1
  unfold M_lined_390 at hf
  refine ms_61 C hw hf.1 dX12_lined_390 (fun u_1 e9 H locs hw => ?_)
  replace hf := hf.2 u_1 e9
  clear e9
  obtain ⟨x5_2, e9⟩ : ∃ y : Int32, y = x5 + (1 : Int32) := ⟨_, rfl⟩
  replace hf := hf x5_2 e9
  refine lv_iinc (v := x5_2) (lv' := [(5, .int x5_2), (0, .ref (q 0)), (1, .int x1), (2, .int x2), (3, .int x3), (4, .int x4), (6, .int x6), (7, .int x7)]) hx hb dX12_lined_391 hl (k := 5) rfl (by rw [e9]; rfl) (by decide) rfl (fun ls hl => ?_)
  clear e9
  exact M_lined_394_w C hk260 x1 x2 x3 x4 x5_2 x6 x7 u_1 _ _ _ hf hw (lv_sub hl [1, 2, 3, 4, 5, 0, 6, 7] rfl)
def M_lined_373 (K : Int32 → th_St → Prop) (k260 : Int32 → Int32 → Int32 → Int32 → Int32 → th_St → Prop) (x1 : Int32) (x2 : Int32) (x3 : Int32) (x4 : Int32) (x5 : Int32) (x6 : Int32) (x7 : Int32) (u : th_St) : Prop :=
  ((x6 = 0 → M_lined_390 K k260 x1 x2 x3 x4 x5 x6 x7 (-1 : Int32) x5 u) ∧ (¬ x6 = 0 → M_lined_390 K k260 x1 x2 x3 x4 x5 x6 x7 x4 x5 u))
set_option maxHeartbeats 4000000 in
set_option maxRecDepth 100000 in
theorem M_lined_373_w {K : Int32 → th_St → Prop} {k260 : Int32 → Int32 → Int32 → Int32 → Int32 → th_St → Prop} (C : th_Cx p s m args meth c cX12_lined RX12 8 (some .int) (dC, dI) (th_ty cs) th_E0 A) (hk260 : ∀ (x1 : Int32) (x2 : Int32) (x3 : Int32) (x4 : Int32) (x5 : Int32) (u : th_St) (H : Heap) (locs : List Loc) (ls : Array Slot), k260 x1 x2 x3 x4 x5 u → th_wI (dC, dI) (wM cs q) A s.heap u H locs → lv_has ls 8 [(0, .ref (q 0)), (1, .int x1), (2, .int x2), (3, .int x3), (4, .int x4), (5, .int x5)] → W p l e (th_rm 2 0 0) s m args below meth c H locs 0 0 (MQ below (va_Qi K (th_Post (dC, dI) (wM cs q) A) A) args s 0 0 A) (F0 m 260 ls [])) (x1 : Int32) (x2 : Int32) (x3 : Int32) (x4 : Int32) (x5 : Int32) (x6 : Int32) (x7 : Int32) (u : th_St) (H : Heap) (locs : List Loc) (ls : Array Slot) (hf : M_lined_373 K k260 x1 x2 x3 x4 x5 x6 x7 u) (hw : th_wI (dC, dI) (wM cs q) A s.heap u H locs) (hl : lv_has ls 8 [(0, .ref (q 0)), (1, .int x1), (2, .int x2), (3, .int x3), (4, .int x4), (5, .int x5), (6, .int x6), (7, .int x7)]) : W p l e (th_rm 2 0 0) s m args below meth c H locs 0 0 (MQ below (va_Qi K (th_Post (dC, dI) (wM cs q) A) A) args s 0 0 A) (F0 m 373 ls []) := by
  have hx := C.1
  have hb := C.2.1
  unfold M_lined_373 at hf
  refine lv_aload_n hx hb dX12_lined_373 rfl (lv_at hl 0 rfl) ?_
  refine mg_61 C hw dX12_lined_374 ?_
  refine lv_iload hx hb dX12_lined_377 (lv_at hl 5 rfl) ?_
  refine lv_iload hx hb dX12_lined_379 (lv_at hl 6 rfl) ?_
  refine lv_if_eq (tgt := 389) hx hb dX12_lined_381 (by decide) (fun hc => ?_) (fun hc => ?_)
  · replace hf := hf.1 hc
    clear hc
    refine lv_iconst (v := (-1 : Int32)) hx hb dX12_lined_389 (by decide) ?_
    exact M_lined_390_w C hk260 x1 x2 x3 x4 x5 x6 x7 (-1 : Int32) x5 u _ _ _ hf hw (lv_sub hl [0, 1, 2, 3, 4, 5, 6, 7] rfl)
  · replace hf := hf.2 hc
    clear hc
    refine lv_iload hx hb dX12_lined_384 (lv_at hl 4 rfl) ?_
    refine lv_goto (tgt := 390) hx hb dX12_lined_386 (by decide) ?_
    exact M_lined_390_w C hk260 x1 x2 x3 x4 x5 x6 x7 x4 x5 u _ _ _ hf hw (lv_sub hl [0, 1, 2, 3, 4, 5, 6, 7] rfl)
def M_lined_361 (K : Int32 → th_St → Prop) (k260 : Int32 → Int32 → Int32 → Int32 → Int32 → th_St → Prop) (x1 : Int32) (x2 : Int32) (x3 : Int32) (x4 : Int32) (x5 : Int32) (x6 : Int32) (z0 : Int32) (u : th_St) : Prop :=
  ((¬ x6 = 0 → M_lined_373 K k260 x1 x2 x3 x4 x5 x6 z0 u) ∧ (x6 = 0 → ((z0 = 0 → M_lined_394 K k260 x1 x2 x3 x4 x5 x6 z0 u) ∧ (¬ z0 = 0 → M_lined_373 K k260 x1 x2 x3 x4 x5 x6 z0 u))))
set_option maxHeartbeats 4000000 in
set_option maxRecDepth 100000 in
theorem M_lined_361_w {K : Int32 → th_St → Prop} {k260 : Int32 → Int32 → Int32 → Int32 → Int32 → th_St → Prop} (C : th_Cx p s m args meth c cX12_lined RX12 8 (some .int) (dC, dI) (th_ty cs) th_E0 A) (hk260 : ∀ (x1 : Int32) (x2 : Int32) (x3 : Int32) (x4 : Int32) (x5 : Int32) (u : th_St) (H : Heap) (locs : List Loc) (ls : Array Slot), k260 x1 x2 x3 x4 x5 u → th_wI (dC, dI) (wM cs q) A s.heap u H locs → lv_has ls 8 [(0, .ref (q 0)), (1, .int x1), (2, .int x2), (3, .int x3), (4, .int x4), (5, .int x5)] → W p l e (th_rm 2 0 0) s m args below meth c H locs 0 0 (MQ below (va_Qi K (th_Post (dC, dI) (wM cs q) A) A) args s 0 0 A) (F0 m 260 ls [])) (x1 : Int32) (x2 : Int32) (x3 : Int32) (x4 : Int32) (x5 : Int32) (x6 : Int32) (z0 : Int32) (u : th_St) (H : Heap) (locs : List Loc) (ls : Array Slot) (hf : M_lined_361 K k260 x1 x2 x3 x4 x5 x6 z0 u) (hw : th_wI (dC, dI) (wM cs q) A s.heap u H locs) (hl : lv_has ls 8 [(0, .ref (q 0)), (1, .int x1), (2, .int x2), (3, .int x3), (4, .int x4), (5, .int x5), (6, .int x6)]) : W p l e (th_rm 2 0 0) s m args below meth c H locs 0 0 (MQ below (va_Qi K (th_Post (dC, dI) (wM cs q) A) A) args s 0 0 A) (F0 m 361 ls [.int z0]) := by
  have hx := C.1
  have hb := C.2.1
  unfold M_lined_361 at hf
  refine lv_istore (lv' := [(7, .int z0), (0, .ref (q 0)), (1, .int x1), (2, .int x2), (3, .int x3), (4, .int x4), (5, .int x5), (6, .int x6)]) hx hb dX12_lined_361 hl (by decide) rfl (fun ls hl => ?_)
  refine lv_iload hx hb dX12_lined_363 (lv_at hl 7 rfl) ?_
  refine lv_if_ne (tgt := 373) hx hb dX12_lined_365 (by decide) (fun hc => ?_) (fun hc => ?_)
  · replace hf := hf.1 hc
    clear hc
    exact M_lined_373_w C hk260 x1 x2 x3 x4 x5 x6 z0 u _ _ _ hf hw (lv_sub hl [1, 2, 3, 4, 5, 6, 7, 0] rfl)
  · replace hf := hf.2 hc
    clear hc
    refine lv_iload hx hb dX12_lined_368 (lv_at hl 0 rfl) ?_
    refine lv_if_eq (tgt := 394) hx hb dX12_lined_370 (by decide) (fun hc => ?_) (fun hc => ?_)
    · replace hf := hf.1 hc
      clear hc
      exact M_lined_394_w C hk260 x1 x2 x3 x4 x5 x6 z0 u _ _ _ hf hw (lv_sub hl [1, 2, 3, 4, 5, 6, 7, 0] rfl)
    · replace hf := hf.2 hc
      clear hc
      exact M_lined_373_w C hk260 x1 x2 x3 x4 x5 x6 z0 u _ _ _ hf hw (lv_sub hl [1, 2, 3, 4, 5, 6, 7, 0] rfl)
def M_lined_321 (K : Int32 → th_St → Prop) (k260 : Int32 → Int32 → Int32 → Int32 → Int32 → th_St → Prop) (x1 : Int32) (x2 : Int32) (x3 : Int32) (x4 : Int32) (x5 : Int32) (z0 : Int32) (u : th_St) : Prop :=
  (vp_in (((49 : Int32) * x5) + x4) 2401 ∧ ∀ y_1 : Int32, y_1 = u.2.2.1 60 ((((49 : Int32) * x5) + x4)).toNatClampNeg → (vp_in (((49 : Int32) * (x5 + (1 : Int32))) + x4) 2401 ∧ ∀ y_2 : Int32, y_2 = u.2.2.1 60 ((((49 : Int32) * (x5 + (1 : Int32))) + x4)).toNatClampNeg → ((¬ y_1 = (x2 + y_2) → M_lined_361 K k260 x1 x2 x3 x4 x5 z0 (0 : Int32) u) ∧ (y_1 = (x2 + y_2) → M_lined_361 K k260 x1 x2 x3 x4 x5 z0 (1 : Int32) u))))
set_option maxHeartbeats 4000000 in
set_option maxRecDepth 100000 in
theorem M_lined_321_w {K : Int32 → th_St → Prop} {k260 : Int32 → Int32 → Int32 → Int32 → Int32 → th_St → Prop} (C : th_Cx p s m args meth c cX12_lined RX12 8 (some .int) (dC, dI) (th_ty cs) th_E0 A) (hk260 : ∀ (x1 : Int32) (x2 : Int32) (x3 : Int32) (x4 : Int32) (x5 : Int32) (u : th_St) (H : Heap) (locs : List Loc) (ls : Array Slot), k260 x1 x2 x3 x4 x5 u → th_wI (dC, dI) (wM cs q) A s.heap u H locs → lv_has ls 8 [(0, .ref (q 0)), (1, .int x1), (2, .int x2), (3, .int x3), (4, .int x4), (5, .int x5)] → W p l e (th_rm 2 0 0) s m args below meth c H locs 0 0 (MQ below (va_Qi K (th_Post (dC, dI) (wM cs q) A) A) args s 0 0 A) (F0 m 260 ls [])) (x1 : Int32) (x2 : Int32) (x3 : Int32) (x4 : Int32) (x5 : Int32) (z0 : Int32) (u : th_St) (H : Heap) (locs : List Loc) (ls : Array Slot) (hf : M_lined_321 K k260 x1 x2 x3 x4 x5 z0 u) (hw : th_wI (dC, dI) (wM cs q) A s.heap u H locs) (hl : lv_has ls 8 [(0, .ref (q 0)), (1, .int x1), (2, .int x2), (3, .int x3), (4, .int x4), (5, .int x5)]) : W p l e (th_rm 2 0 0) s m args below meth c H locs 0 0 (MQ below (va_Qi K (th_Post (dC, dI) (wM cs q) A) A) args s 0 0 A) (F0 m 321 ls [.int z0]) := by
  have hx := C.1
  have hb := C.2.1
  unfold M_lined_321 at hf
  refine lv_istore (lv' := [(6, .int z0), (0, .ref (q 0)), (1, .int x1), (2, .int x2), (3, .int x3), (4, .int x4), (5, .int x5)]) hx hb dX12_lined_321 hl (by decide) rfl (fun ls hl => ?_)
  refine lv_aload_n hx hb dX12_lined_323 rfl (lv_at hl 1 rfl) ?_
  refine mg_60 C hw dX12_lined_324 ?_
  refine lv_bipush (v := (49 : Int32)) hx hb dX12_lined_327 (by decide) ?_
  refine lv_iload hx hb dX12_lined_329 (lv_at hl 6 rfl) ?_
  refine lv_imul hx hb dX12_lined_331 ?_
  refine lv_iload hx hb dX12_lined_332 (lv_at hl 5 rfl) ?_
  refine lv_iadd hx hb dX12_lined_334 ?_
  refine ml_60 C hw hf.1 dX12_lined_335 (fun y_1 e9 => ?_)
  replace hf := hf.2 y_1 e9
  clear e9
  refine lv_iload_n hx hb dX12_lined_336 rfl (lv_at hl 3 rfl) ?_
  refine lv_aload_n hx hb dX12_lined_337 rfl (lv_at hl 1 rfl) ?_
  refine mg_60 C hw dX12_lined_338 ?_
  refine lv_bipush (v := (49 : Int32)) hx hb dX12_lined_341 (by decide) ?_
  refine lv_iload hx hb dX12_lined_343 (lv_at hl 6 rfl) ?_
  refine lv_iconst (v := (1 : Int32)) hx hb dX12_lined_345 (by decide) ?_
  refine lv_iadd hx hb dX12_lined_346 ?_
  refine lv_imul hx hb dX12_lined_347 ?_
  refine lv_iload hx hb dX12_lined_348 (lv_at hl 5 rfl) ?_
  refine lv_iadd hx hb dX12_lined_350 ?_
  refine ml_60 C hw hf.1 dX12_lined_351 (fun y_2 e9 => ?_)
  replace hf := hf.2 y_2 e9
  clear e9
  refine lv_iadd hx hb dX12_lined_352 ?_
  refine lv_icmp_ne (tgt := 360) hx hb dX12_lined_353 (by decide) (fun hc => ?_) (fun hc => ?_)
  · replace hf := hf.1 hc
    clear hc
    refine lv_iconst (v := (0 : Int32)) hx hb dX12_lined_360 (by decide) ?_
    exact M_lined_361_w C hk260 x1 x2 x3 x4 x5 z0 (0 : Int32) u _ _ _ hf hw (lv_sub hl [1, 2, 3, 4, 5, 6, 0] rfl)
  · replace hf := hf.2 hc
    clear hc
    refine lv_iconst (v := (1 : Int32)) hx hb dX12_lined_356 (by decide) ?_
    refine lv_goto (tgt := 361) hx hb dX12_lined_357 (by decide) ?_
    exact M_lined_361_w C hk260 x1 x2 x3 x4 x5 z0 (1 : Int32) u _ _ _ hf hw (lv_sub hl [1, 2, 3, 4, 5, 6, 0] rfl)
def M_lined_320 (K : Int32 → th_St → Prop) (k260 : Int32 → Int32 → Int32 → Int32 → Int32 → th_St → Prop) (x1 : Int32) (x2 : Int32) (x3 : Int32) (x4 : Int32) (x5 : Int32) (u : th_St) : Prop :=
  M_lined_321 K k260 x1 x2 x3 x4 x5 (0 : Int32) u
set_option maxHeartbeats 4000000 in
set_option maxRecDepth 100000 in
theorem M_lined_320_w {K : Int32 → th_St → Prop} {k260 : Int32 → Int32 → Int32 → Int32 → Int32 → th_St → Prop} (C : th_Cx p s m args meth c cX12_lined RX12 8 (some .int) (dC, dI) (th_ty cs) th_E0 A) (hk260 : ∀ (x1 : Int32) (x2 : Int32) (x3 : Int32) (x4 : Int32) (x5 : Int32) (u : th_St) (H : Heap) (locs : List Loc) (ls : Array Slot), k260 x1 x2 x3 x4 x5 u → th_wI (dC, dI) (wM cs q) A s.heap u H locs → lv_has ls 8 [(0, .ref (q 0)), (1, .int x1), (2, .int x2), (3, .int x3), (4, .int x4), (5, .int x5)] → W p l e (th_rm 2 0 0) s m args below meth c H locs 0 0 (MQ below (va_Qi K (th_Post (dC, dI) (wM cs q) A) A) args s 0 0 A) (F0 m 260 ls [])) (x1 : Int32) (x2 : Int32) (x3 : Int32) (x4 : Int32) (x5 : Int32) (u : th_St) (H : Heap) (locs : List Loc) (ls : Array Slot) (hf : M_lined_320 K k260 x1 x2 x3 x4 x5 u) (hw : th_wI (dC, dI) (wM cs q) A s.heap u H locs) (hl : lv_has ls 8 [(0, .ref (q 0)), (1, .int x1), (2, .int x2), (3, .int x3), (4, .int x4), (5, .int x5)]) : W p l e (th_rm 2 0 0) s m args below meth c H locs 0 0 (MQ below (va_Qi K (th_Post (dC, dI) (wM cs q) A) A) args s 0 0 A) (F0 m 320 ls []) := by
  have hx := C.1
  have hb := C.2.1
  unfold M_lined_320 at hf
  refine lv_iconst (v := (0 : Int32)) hx hb dX12_lined_320 (by decide) ?_
  exact M_lined_321_w C hk260 x1 x2 x3 x4 x5 (0 : Int32) u _ _ _ hf hw (lv_sub hl [0, 1, 2, 3, 4, 5] rfl)
def M_lined_260 (K : Int32 → th_St → Prop) (k260 : Int32 → Int32 → Int32 → Int32 → Int32 → th_St → Prop) (x1 : Int32) (x2 : Int32) (x3 : Int32) (x4 : Int32) (x5 : Int32) (u : th_St) : Prop :=
  ((x1 ≤ x5 → (vp_in (0 : Int32) 2401 ∧ ∀ y_1 : Int32, y_1 = u.2.2.1 60 ((0 : Int32)).toNatClampNeg → K y_1 u)) ∧ (¬ x1 ≤ x5 → ((x3 ≤ x4 → M_lined_320 K k260 x1 x2 x3 x4 x5 u) ∧ (¬ x3 ≤ x4 → (vp_in (((49 : Int32) * x5) + x4) 2401 ∧ ∀ y_2 : Int32, y_2 = u.2.2.1 60 ((((49 : Int32) * x5) + x4)).toNatClampNeg → M_differs x5 (x1 + x4) u (fun r_4 u_3 => (vp_in ((((49 : Int32) * (x5 + (1 : Int32))) + x4) + (1 : Int32)) 2401 ∧ ∀ y_5 : Int32, y_5 = u_3.2.2.1 60 (((((49 : Int32) * (x5 + (1 : Int32))) + x4) + (1 : Int32))).toNatClampNeg → ((¬ y_2 = (r_4 + y_5) → M_lined_320 K k260 x1 x2 x3 x4 x5 u_3) ∧ (y_2 = (r_4 + y_5) → M_lined_321 K k260 x1 x2 x3 x4 x5 (1 : Int32) u_3)))))))))
set_option maxHeartbeats 4000000 in
set_option maxRecDepth 100000 in
theorem M_lined_260_w {K : Int32 → th_St → Prop} {k260 : Int32 → Int32 → Int32 → Int32 → Int32 → th_St → Prop} (C : th_Cx p s m args meth c cX12_lined RX12 8 (some .int) (dC, dI) (th_ty cs) th_E0 A) (hk260 : ∀ (x1 : Int32) (x2 : Int32) (x3 : Int32) (x4 : Int32) (x5 : Int32) (u : th_St) (H : Heap) (locs : List Loc) (ls : Array Slot), k260 x1 x2 x3 x4 x5 u → th_wI (dC, dI) (wM cs q) A s.heap u H locs → lv_has ls 8 [(0, .ref (q 0)), (1, .int x1), (2, .int x2), (3, .int x3), (4, .int x4), (5, .int x5)] → W p l e (th_rm 2 0 0) s m args below meth c H locs 0 0 (MQ below (va_Qi K (th_Post (dC, dI) (wM cs q) A) A) args s 0 0 A) (F0 m 260 ls [])) (x1 : Int32) (x2 : Int32) (x3 : Int32) (x4 : Int32) (x5 : Int32) (u : th_St) (H : Heap) (locs : List Loc) (ls : Array Slot) (hf : M_lined_260 K k260 x1 x2 x3 x4 x5 u) (hw : th_wI (dC, dI) (wM cs q) A s.heap u H locs) (hl : lv_has ls 8 [(0, .ref (q 0)), (1, .int x1), (2, .int x2), (3, .int x3), (4, .int x4), (5, .int x5)]) : W p l e (th_rm 2 0 0) s m args below meth c H locs 0 0 (MQ below (va_Qi K (th_Post (dC, dI) (wM cs q) A) A) args s 0 0 A) (F0 m 260 ls []) := by
  have hx := C.1
  have hb := C.2.1
  unfold M_lined_260 at hf
  refine lv_iload hx hb dX12_lined_260 (lv_at hl 5 rfl) ?_
  refine lv_iload_n hx hb dX12_lined_262 rfl (lv_at hl 1 rfl) ?_
  refine lv_icmp_ge (tgt := 410) hx hb dX12_lined_263 (by decide) (fun hc => ?_) (fun hc => ?_)
  · replace hf := hf.1 hc
    clear hc
    refine lv_aload_n hx hb dX12_lined_410 rfl (lv_at hl 0 rfl) ?_
    refine mg_60 C hw dX12_lined_411 ?_
    refine lv_iconst (v := (0 : Int32)) hx hb dX12_lined_414 (by decide) ?_
    refine ml_60 C hw hf.1 dX12_lined_415 (fun y_1 e9 => ?_)
    replace hf := hf.2 y_1 e9
    clear e9
    exact th_iret C hw hf dX12_lined_416
  · replace hf := hf.2 hc
    clear hc
    refine lv_iload hx hb dX12_lined_266 (lv_at hl 4 rfl) ?_
    refine lv_iload_n hx hb dX12_lined_268 rfl (lv_at hl 3 rfl) ?_
    refine lv_icmp_ge (tgt := 320) hx hb dX12_lined_269 (by decide) (fun hc => ?_) (fun hc => ?_)
    · replace hf := hf.1 hc
      clear hc
      exact M_lined_320_w C hk260 x1 x2 x3 x4 x5 u _ _ _ hf hw (lv_sub hl [0, 1, 2, 3, 4, 5] rfl)
    · replace hf := hf.2 hc
      clear hc
      refine lv_aload_n hx hb dX12_lined_272 rfl (lv_at hl 0 rfl) ?_
      refine mg_60 C hw dX12_lined_273 ?_
      refine lv_bipush (v := (49 : Int32)) hx hb dX12_lined_276 (by decide) ?_
      refine lv_iload hx hb dX12_lined_278 (lv_at hl 5 rfl) ?_
      refine lv_imul hx hb dX12_lined_280 ?_
      refine lv_iload hx hb dX12_lined_281 (lv_at hl 4 rfl) ?_
      refine lv_iadd hx hb dX12_lined_283 ?_
      refine ml_60 C hw hf.1 dX12_lined_284 (fun y_2 e9 => ?_)
      replace hf := hf.2 y_2 e9
      clear e9
      refine lv_aload_n hx hb dX12_lined_285 rfl (lv_at hl 0 rfl) ?_
      refine lv_iload hx hb dX12_lined_286 (lv_at hl 5 rfl) ?_
      refine lv_iload_n hx hb dX12_lined_288 rfl (lv_at hl 1 rfl) ?_
      refine lv_iload hx hb dX12_lined_289 (lv_at hl 4 rfl) ?_
      refine lv_iadd hx hb dX12_lined_291 ?_
      refine th_callVi (As := [.int x5, .int (x1 + x4)]) (rest := [.int y_2]) C lkX12_393 (M_differs_c hf) hw (mRc C hw) rfl rfl ⟨Nat.le_of_ble_eq_true rfl, Nat.le_of_ble_eq_true rfl⟩ hl.1 (Nat.le_of_ble_eq_true rfl) ⟨Nat.le_refl _, Nat.le_refl _⟩ dX12_lined_292 (fun r_4 u_3 H locs hf hw => ?_)
      refine lv_aload_n hx hb dX12_lined_295 rfl (lv_at hl 0 rfl) ?_
      refine mg_60 C hw dX12_lined_296 ?_
      refine lv_bipush (v := (49 : Int32)) hx hb dX12_lined_299 (by decide) ?_
      refine lv_iload hx hb dX12_lined_301 (lv_at hl 5 rfl) ?_
      refine lv_iconst (v := (1 : Int32)) hx hb dX12_lined_303 (by decide) ?_
      refine lv_iadd hx hb dX12_lined_304 ?_
      refine lv_imul hx hb dX12_lined_305 ?_
      refine lv_iload hx hb dX12_lined_306 (lv_at hl 4 rfl) ?_
      refine lv_iadd hx hb dX12_lined_308 ?_
      refine lv_iconst (v := (1 : Int32)) hx hb dX12_lined_309 (by decide) ?_
      refine lv_iadd hx hb dX12_lined_310 ?_
      refine ml_60 C hw hf.1 dX12_lined_311 (fun y_5 e9 => ?_)
      replace hf := hf.2 y_5 e9
      clear e9
      refine lv_iadd hx hb dX12_lined_312 ?_
      refine lv_icmp_ne (tgt := 320) hx hb dX12_lined_313 (by decide) (fun hc => ?_) (fun hc => ?_)
      · replace hf := hf.1 hc
        clear hc
        exact M_lined_320_w C hk260 x1 x2 x3 x4 x5 u_3 _ _ _ hf hw (lv_sub hl [0, 1, 2, 3, 4, 5] rfl)
      · replace hf := hf.2 hc
        clear hc
        refine lv_iconst (v := (1 : Int32)) hx hb dX12_lined_316 (by decide) ?_
        refine lv_goto (tgt := 321) hx hb dX12_lined_317 (by decide) ?_
        exact M_lined_321_w C hk260 x1 x2 x3 x4 x5 (1 : Int32) u_3 _ _ _ hf hw (lv_sub hl [0, 1, 2, 3, 4, 5] rfl)
def M_lined_260_lp (K : Int32 → th_St → Prop) : Nat → Int32 → Int32 → Int32 → Int32 → Int32 → th_St → Prop
  | 0, _, _, _, _, _, _ => False
  | n + 1, x1, x2, x3, x4, x5, u => M_lined_260 K (M_lined_260_lp K n) x1 x2 x3 x4 x5 u
set_option maxHeartbeats 4000000 in
set_option maxRecDepth 100000 in
theorem M_lined_260_lw {K : Int32 → th_St → Prop} (C : th_Cx p s m args meth c cX12_lined RX12 8 (some .int) (dC, dI) (th_ty cs) th_E0 A) (n : Nat) : ∀ (x1 : Int32) (x2 : Int32) (x3 : Int32) (x4 : Int32) (x5 : Int32) (u : th_St) (H : Heap) (locs : List Loc) (ls : Array Slot), M_lined_260_lp K n x1 x2 x3 x4 x5 u → th_wI (dC, dI) (wM cs q) A s.heap u H locs → lv_has ls 8 [(0, .ref (q 0)), (1, .int x1), (2, .int x2), (3, .int x3), (4, .int x4), (5, .int x5)] → W p l e (th_rm 2 0 0) s m args below meth c H locs 0 0 (MQ below (va_Qi K (th_Post (dC, dI) (wM cs q) A) A) args s 0 0 A) (F0 m 260 ls []) := by
  induction n with
  | zero => intro x1 x2 x3 x4 x5 u H locs ls hf; exact hf.elim
  | succ n ih =>
    intro x1 x2 x3 x4 x5 u H locs ls hf hw hl
    exact M_lined_260_w C ih x1 x2 x3 x4 x5 u H locs ls hf hw hl
def M_lined_52 (K : Int32 → th_St → Prop) (k52 : Int32 → Int32 → Int32 → Int32 → th_St → Prop) (x1 : Int32) (x2 : Int32) (x3 : Int32) (x4 : Int32) (u : th_St) : Prop :=
  ((x4 < 0 → ∀ u_1 : th_St, u_1 = th_si u 62 x1 → ∃ n, M_lined_260_lp K n x1 x2 x3 (0 : Int32) (0 : Int32) u_1) ∧ (¬ x4 < 0 → ∃ n, M_lined_60_lp K k52 n x1 x2 x3 x4 x3 u))
set_option maxHeartbeats 4000000 in
set_option maxRecDepth 100000 in
theorem M_lined_52_w {K : Int32 → th_St → Prop} {k52 : Int32 → Int32 → Int32 → Int32 → th_St → Prop} (C : th_Cx p s m args meth c cX12_lined RX12 8 (some .int) (dC, dI) (th_ty cs) th_E0 A) (hk52 : ∀ (x1 : Int32) (x2 : Int32) (x3 : Int32) (x4 : Int32) (u : th_St) (H : Heap) (locs : List Loc) (ls : Array Slot), k52 x1 x2 x3 x4 u → th_wI (dC, dI) (wM cs q) A s.heap u H locs → lv_has ls 8 [(0, .ref (q 0)), (1, .int x1), (2, .int x2), (3, .int x3), (4, .int x4)] → W p l e (th_rm 2 0 0) s m args below meth c H locs 0 0 (MQ below (va_Qi K (th_Post (dC, dI) (wM cs q) A) A) args s 0 0 A) (F0 m 52 ls [])) (x1 : Int32) (x2 : Int32) (x3 : Int32) (x4 : Int32) (u : th_St) (H : Heap) (locs : List Loc) (ls : Array Slot) (hf : M_lined_52 K k52 x1 x2 x3 x4 u) (hw : th_wI (dC, dI) (wM cs q) A s.heap u H locs) (hl : lv_has ls 8 [(0, .ref (q 0)), (1, .int x1), (2, .int x2), (3, .int x3), (4, .int x4)]) : W p l e (th_rm 2 0 0) s m args below meth c H locs 0 0 (MQ below (va_Qi K (th_Post (dC, dI) (wM cs q) A) A) args s 0 0 A) (F0 m 52 ls []) := by
  have hx := C.1
  have hb := C.2.1
  unfold M_lined_52 at hf
  refine lv_iload hx hb dX12_lined_52 (lv_at hl 4 rfl) ?_
  refine lv_if_lt (tgt := 249) hx hb dX12_lined_54 (by decide) (fun hc => ?_) (fun hc => ?_)
  · replace hf := hf.1 hc
    clear hc
    refine lv_aload_n hx hb dX12_lined_249 rfl (lv_at hl 0 rfl) ?_
    refine lv_iload_n hx hb dX12_lined_250 rfl (lv_at hl 1 rfl) ?_
    refine mp_62 C hw dX12_lined_251 (fun u_1 e9 H locs hw => ?_)
    replace hf := hf u_1 e9
    clear e9
    refine lv_iconst (v := (0 : Int32)) hx hb dX12_lined_254 (by decide) ?_
    refine lv_istore (lv' := [(4, .int (0 : Int32)), (0, .ref (q 0)), (1, .int x1), (2, .int x2), (3, .int x3)]) hx hb dX12_lined_255 hl (by decide) rfl (fun ls hl => ?_)
    refine lv_iconst (v := (0 : Int32)) hx hb dX12_lined_257 (by decide) ?_
    refine lv_istore (lv' := [(5, .int (0 : Int32)), (4, .int (0 : Int32)), (0, .ref (q 0)), (1, .int x1), (2, .int x2), (3, .int x3)]) hx hb dX12_lined_258 hl (by decide) rfl (fun ls hl => ?_)
    obtain ⟨n, hf⟩ := hf
    exact M_lined_260_lw C n x1 x2 x3 (0 : Int32) (0 : Int32) u_1 _ _ _ hf hw (lv_sub hl [2, 3, 4, 5, 1, 0] rfl)
  · replace hf := hf.2 hc
    clear hc
    refine lv_iload_n hx hb dX12_lined_57 rfl (lv_at hl 3 rfl) ?_
    refine lv_istore (lv' := [(5, .int x3), (0, .ref (q 0)), (1, .int x1), (2, .int x2), (3, .int x3), (4, .int x4)]) hx hb dX12_lined_58 hl (by decide) rfl (fun ls hl => ?_)
    obtain ⟨n, hf⟩ := hf
    exact M_lined_60_lw C hk52 n x1 x2 x3 x4 x3 u _ _ _ hf hw (lv_sub hl [1, 2, 3, 4, 5, 0] rfl)
def M_lined_52_lp (K : Int32 → th_St → Prop) : Nat → Int32 → Int32 → Int32 → Int32 → th_St → Prop
  | 0, _, _, _, _, _ => False
  | n + 1, x1, x2, x3, x4, u => M_lined_52 K (M_lined_52_lp K n) x1 x2 x3 x4 u
set_option maxHeartbeats 4000000 in
set_option maxRecDepth 100000 in
theorem M_lined_52_lw {K : Int32 → th_St → Prop} (C : th_Cx p s m args meth c cX12_lined RX12 8 (some .int) (dC, dI) (th_ty cs) th_E0 A) (n : Nat) : ∀ (x1 : Int32) (x2 : Int32) (x3 : Int32) (x4 : Int32) (u : th_St) (H : Heap) (locs : List Loc) (ls : Array Slot), M_lined_52_lp K n x1 x2 x3 x4 u → th_wI (dC, dI) (wM cs q) A s.heap u H locs → lv_has ls 8 [(0, .ref (q 0)), (1, .int x1), (2, .int x2), (3, .int x3), (4, .int x4)] → W p l e (th_rm 2 0 0) s m args below meth c H locs 0 0 (MQ below (va_Qi K (th_Post (dC, dI) (wM cs q) A) A) args s 0 0 A) (F0 m 52 ls []) := by
  induction n with
  | zero => intro x1 x2 x3 x4 u H locs ls hf; exact hf.elim
  | succ n ih =>
    intro x1 x2 x3 x4 u H locs ls hf hw hl
    exact M_lined_52_w C ih x1 x2 x3 x4 u H locs ls hf hw hl
def M_lined (a1 : Int32) (a2 : Int32) (u : th_St) (K : Int32 → th_St → Prop) : Prop :=
  ∀ u_1 : th_St, u_1 = th_si u 0 (0 : Int32) → M_taken u_1 (fun u_2 => ∀ y_4 : Int32, y_4 = ((u_2.1 3) - a1) → M_isIn a1 (0 : Int32) (48 : Int32) u_2 (fun r_6 u_5 => ((r_6 = 0 → M_lined_47 K u_5) ∧ (¬ r_6 = 0 → M_isIn y_4 (0 : Int32) (48 : Int32) u_5 (fun r_8 u_7 => ((r_8 = 0 → M_lined_47 K u_7) ∧ (¬ r_8 = 0 → M_isIn a2 (0 : Int32) (255 : Int32) u_7 (fun r_10 u_9 => ((¬ r_10 = 0 → ∃ n, M_lined_52_lp K n a1 a2 y_4 a1 u_9) ∧ (r_10 = 0 → M_lined_47 K u_9))))))))))
set_option maxHeartbeats 4000000 in
set_option maxRecDepth 100000 in
theorem M_lined_c {l : Launch} {dC : Nat → ClassId} {dI : Nat → Nat → Nat} {cs : Nat → ClassId} {q : Nat → Nat} {a1 : Int32} {a2 : Int32} {u : th_St} {K : Int32 → th_St → Prop} (hf : M_lined a1 a2 u K) : th_Ci l yX12_lined cX12_lined 8 (some .int) 2 0 0 (dC, dI) (th_ty cs) th_E0 (wM cs q) [.ref (q 0), .int a1, .int a2] u K := by
  refine th_ofi (by decide) (Nat.le_of_ble_eq_true rfl) th_E0_ok ?_
  intro p e s m below meth c A ls C hw hl
  have C : th_Cx p s m _ meth c cX12_lined RX12 8 (some .int) (dC, dI) (th_ty cs) th_E0 A := C
  have hl : lv_has ls 8 [(0, .ref (q 0)), (1, .int a1), (2, .int a2)] := hl
  generalize (List.toArray _ : Array Value) = args at C ⊢
  have hx := C.1
  have hb := C.2.1
  unfold M_lined at hf
  refine lv_aload_n hx hb dX12_lined_0 rfl (lv_at hl 0 rfl) ?_
  refine lv_iconst (v := (0 : Int32)) hx hb dX12_lined_1 (by decide) ?_
  refine mp_0 C hw dX12_lined_2 (fun u_1 e9 H locs hw => ?_)
  replace hf := hf u_1 e9
  clear e9
  refine lv_aload_n hx hb dX12_lined_5 rfl (lv_at hl 0 rfl) ?_
  refine th_callVv (As := []) (rest := []) C lkX12_164 (M_taken_c hf) hw (mRc C hw) rfl rfl ⟨Nat.le_of_ble_eq_true rfl, Nat.le_of_ble_eq_true rfl⟩ hl.1 (Nat.le_of_ble_eq_true rfl) ⟨Nat.le_refl _, Nat.le_refl _⟩ dX12_lined_6 (fun u_2 H locs hf hw => ?_)
  refine lv_aload_n hx hb dX12_lined_9 rfl (lv_at hl 0 rfl) ?_
  refine mg_3 C hw dX12_lined_10 ?_
  refine lv_iload_n hx hb dX12_lined_13 rfl (lv_at hl 1 rfl) ?_
  refine lv_isub hx hb dX12_lined_14 ?_
  refine lv_topi (fun y_4 e9 => ?_)
  replace hf := hf y_4 e9
  clear e9
  refine lv_istore_n (lv' := [(3, .int y_4), (0, .ref (q 0)), (1, .int a1), (2, .int a2)]) hx hb dX12_lined_15 rfl hl (by decide) rfl (fun ls hl => ?_)
  refine lv_iload_n hx hb dX12_lined_16 rfl (lv_at hl 2 rfl) ?_
  refine lv_iconst (v := (0 : Int32)) hx hb dX12_lined_17 (by decide) ?_
  refine lv_bipush (v := (48 : Int32)) hx hb dX12_lined_18 (by decide) ?_
  refine th_callSi (As := [.int a1, .int (0 : Int32), .int (48 : Int32)]) (rest := []) C lkX12_24 (M_isIn_c hf) hw rfl rfl ⟨Nat.le_of_ble_eq_true rfl, Nat.le_of_ble_eq_true rfl⟩ hl.1 (Nat.le_of_ble_eq_true rfl) ⟨Nat.le_refl _, Nat.le_refl _⟩ dX12_lined_20 (fun r_6 u_5 H locs hf hw => ?_)
  refine lv_if_eq (tgt := 47) hx hb dX12_lined_23 (by decide) (fun hc => ?_) (fun hc => ?_)
  · replace hf := hf.1 hc
    clear hc
    exact M_lined_47_w C  u_5 _ _ _ hf hw (lv_sub hl [] rfl)
  · replace hf := hf.2 hc
    clear hc
    refine lv_iload_n hx hb dX12_lined_26 rfl (lv_at hl 0 rfl) ?_
    refine lv_iconst (v := (0 : Int32)) hx hb dX12_lined_27 (by decide) ?_
    refine lv_bipush (v := (48 : Int32)) hx hb dX12_lined_28 (by decide) ?_
    refine th_callSi (As := [.int y_4, .int (0 : Int32), .int (48 : Int32)]) (rest := []) C lkX12_24 (M_isIn_c hf) hw rfl rfl ⟨Nat.le_of_ble_eq_true rfl, Nat.le_of_ble_eq_true rfl⟩ hl.1 (Nat.le_of_ble_eq_true rfl) ⟨Nat.le_refl _, Nat.le_refl _⟩ dX12_lined_30 (fun r_8 u_7 H locs hf hw => ?_)
    refine lv_if_eq (tgt := 47) hx hb dX12_lined_33 (by decide) (fun hc => ?_) (fun hc => ?_)
    · replace hf := hf.1 hc
      clear hc
      exact M_lined_47_w C  u_7 _ _ _ hf hw (lv_sub hl [] rfl)
    · replace hf := hf.2 hc
      clear hc
      refine lv_iload_n hx hb dX12_lined_36 rfl (lv_at hl 3 rfl) ?_
      refine lv_iconst (v := (0 : Int32)) hx hb dX12_lined_37 (by decide) ?_
      refine lv_sipush (v := (255 : Int32)) hx hb dX12_lined_38 (by decide) ?_
      refine th_callSi (As := [.int a2, .int (0 : Int32), .int (255 : Int32)]) (rest := []) C lkX12_24 (M_isIn_c hf) hw rfl rfl ⟨Nat.le_of_ble_eq_true rfl, Nat.le_of_ble_eq_true rfl⟩ hl.1 (Nat.le_of_ble_eq_true rfl) ⟨Nat.le_refl _, Nat.le_refl _⟩ dX12_lined_41 (fun r_10 u_9 H locs hf hw => ?_)
      refine lv_if_ne (tgt := 49) hx hb dX12_lined_44 (by decide) (fun hc => ?_) (fun hc => ?_)
      · replace hf := hf.1 hc
        clear hc
        refine lv_iload_n hx hb dX12_lined_49 rfl (lv_at hl 2 rfl) ?_
        refine lv_istore (lv' := [(4, .int a1), (3, .int y_4), (0, .ref (q 0)), (1, .int a1), (2, .int a2)]) hx hb dX12_lined_50 hl (by decide) rfl (fun ls hl => ?_)
        obtain ⟨n, hf⟩ := hf
        exact M_lined_52_lw C n a1 a2 y_4 a1 u_9 _ _ _ hf hw (lv_sub hl [2, 3, 4, 1, 0] rfl)
      · replace hf := hf.2 hc
        clear hc
        exact M_lined_47_w C  u_9 _ _ _ hf hw (lv_sub hl [] rfl)
end

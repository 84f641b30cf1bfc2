theorem lg_eq {x y : Int64} (h : x = y) : lg_cmp x y = 0 := by subst h; unfold lg_cmp; simp
section
variable {p : Program} {l : Launch} {e : Env} {R : Room} {s : State} {m : MethodId} {below : List Frame} {meth : Method} {c : Code} {H : Heap} {locs : List Loc} {cells slots : Nat} {Q : State → Prop} {dC : Nat → ClassId} {dI : Nat → Nat → Nat} {cs : Nat → ClassId} {ad ak q q2 : Nat → Nat} {oa : Nat} {A : Nat → Prop} {ls : Array Slot} {b L i : Nat} {xs : Nat → Int32} {z : lSt} {args : Array Value}
/-- what stands fast in the law -/
def lw_G (p : Program) (s : State) (m : MethodId) (args : Array Value) (meth : Method) (c : Code) (dC : Nat → ClassId) (dI : Nat → Nat → Nat) (cs : Nat → ClassId) (ad ak : Nat → Nat) (A : Nat → Prop) (b L : Nat) (xs : Nat → Int32) (R : Room) : Prop := th_Cx p s m args meth c cL_law RL 8 ret (dC, dI) (th_ty cs) (xE ad ak) A ∧ va_X b L xs s s.heap ∧ b < s.heap.size ∧ ¬ A b ∧ L ≤ 3072 ∧ 43 ≤ R.frames ∧ 2200 ≤ R.locals
theorem la_arg {k pc : Nat} {kz : Int} {rest : List Value} (G : lw_G p s m args meth c dC dI cs ad ak A b L xs R) (hS : va_S A s.heap H locs) (h0 : ls[0]? = some (.val (.ref b))) (h4 : ls[4]? = some (.val (.int (nI (6 * i))))) (hin : 6 * i + k < L) (hk : Int32.ofInt kz = nI k) (d0 : decode cL_law pc = .ok (.aload_n 0, 1)) (d1 : decode cL_law (pc + 1) = .ok (.iload 4, 2)) (d3 : decode cL_law (pc + 3) = .ok (.iconst kz, 1)) (d4 : decode cL_law (pc + 4) = .ok (.iadd, 1)) (d5 : decode cL_law (pc + 5) = .ok (.iaload, 1)) (kk : W p l e R s m args below meth c H locs cells slots Q (F0 m (pc + 6) ls (.int (xs (6 * i + k)) :: rest))) : W p l e R s m args below meth c H locs cells slots Q (F0 m pc ls rest) := by
  obtain ⟨C, hX, hbl, hbA, hL, -⟩ := G
  refine lv_aload_n C.1 C.2.1 d0 rfl h0 ?_
  refine lv_iload C.1 C.2.1 d1 h4 ?_
  refine lv_iconst C.1 C.2.1 d3 hk ?_
  refine lv_iadd C.1 C.2.1 d4 ?_
  rw [nI_add]
  refine va_sld C.1 C.2.1 hX hbl hbA hS (vp_in_nI hin (by omega)) d5 ?_
  rw [nI_clamp (by omega)]
  exact kk
theorem llM_thrown : th_LV RL RX12 73 yX12_thrown cX12_thrown 1 0 (some .int) := ⟨th_goodV (th_b5 168 rfl rfl) (th_b5 169 rfl rfl) (th_b5 170 rfl rfl) (th_b1 15 rfl rfl) (th_b5 171 rfl rfl), by decide +kernel⟩
theorem th_goodW {own : String} {idx n : Nat} {y : MethodName} {cc : ByteArray} {ret : Option FieldType} {hh : List (Nat × Nat × Nat × Nat)} (h1 : Cond.methodLink own idx y ∈ th_BIG) (h2 : Cond.static y ∈ th_BIG) (h4 : Cond.initialized y.cls ∈ th_BIG) (h5 : Cond.codeWith y cc n ret hh ∈ th_BIG) : GoodIn th_BIG (va_wsS own idx y (Cond.codeWith y cc n ret hh :: th_BIG)) := by
  refine th_good (fun w hw => ?_)
  rcases List.mem_append.mp hw with h | h
  · simp only [List.mem_cons, List.not_mem_nil, or_false] at h
    rcases h with rfl | rfl | rfl <;> assumption
  · rcases List.mem_cons.mp h with rfl | h
    · exact h5
    · exact h
theorem llX_feed : th_LV RL RX11 31 yX11_feed cX11_feed 6 5 (some .int) := ⟨th_goodV (th_b2 191 rfl rfl) (th_b2 192 rfl rfl) (th_b2 193 rfl rfl) (th_b1 1 rfl rfl) (th_b2 194 rfl rfl), by decide +kernel⟩
theorem llM_feed : th_LV RL RX12 35 yX12_feed cX12_feed 6 5 (some .int) := ⟨th_goodV (th_b5 172 rfl rfl) (th_b5 173 rfl rfl) (th_b5 174 rfl rfl) (th_b1 15 rfl rfl) (th_b5 175 rfl rfl), by decide +kernel⟩
set_option maxHeartbeats 4000000 in
theorem lc_0 (hlt : l.stackTraces = false) (G : lw_G p s m args meth c dC dI cs ad ak A b L xs R) (hi : 6 * i + 6 ≤ L) (hc : cells + 83 ≤ R.cells) (hs : slots + 2302 ≤ R.slots) (hS : Sim z.1.2 z.2.1) (hw : th_wI (dC, dI) (wL cs ad q q2 oa) A s.heap z H locs) (hl : lv_has ls 8 [(0, .ref b), (1, .ref (q 99)), (2, .ref (q2 0)), (3, .ref oa), (4, .int (nI (6 * i)))])
    (hgo : ∀ (z1 : lSt) (H : Heap) (locs : List Loc) (ls : Array Slot) (c1 s1 : Nat), c1 ≤ cells + 83 → s1 ≤ slots + 2302 → Sim z1.1.2 z1.2.1 → th_wI (dC, dI) (wL cs ad q q2 oa) A s.heap z1 H locs → lv_has ls 8 [(0, .ref b), (1, .ref (q 99)), (2, .ref (q2 0)), (3, .ref oa), (4, .int (nI (6 * i)))] → W p l e R s m args below meth c H locs c1 s1 Q (F0 m 1126 ls [])) : W p l e R s m args below meth c H locs cells slots Q (F0 m 160 ls []) := by
  obtain ⟨C, hX, hbl, hbA, hL, hRf, hRl⟩ := id G
  have hx := C.1
  have hb := C.2.1
  refine lv_aload_n hx hb dL_law_160 rfl (lv_at hl 1 rfl) ?_
  refine la_arg (k := 1) G hw.2.2 (lv_at hl 0 rfl) (lv_at hl 4 rfl) (by omega) (by decide) dL_law_161 dL_law_162 dL_law_164 dL_law_165 dL_law_166 ?_
  refine la_arg (k := 2) G hw.2.2 (lv_at hl 0 rfl) (lv_at hl 4 rfl) (by omega) (by decide) dL_law_167 dL_law_168 dL_law_170 dL_law_171 dL_law_172 ?_
  refine la_arg (k := 3) G hw.2.2 (lv_at hl 0 rfl) (lv_at hl 4 rfl) (by omega) (by decide) dL_law_173 dL_law_174 dL_law_176 dL_law_177 dL_law_178 ?_
  refine la_arg (k := 4) G hw.2.2 (lv_at hl 0 rfl) (lv_at hl 4 rfl) (by omega) (by decide) dL_law_179 dL_law_180 dL_law_182 dL_law_183 dL_law_184 ?_
  refine la_arg (k := 5) G hw.2.2 (lv_at hl 0 rfl) (lv_at hl 4 rfl) (by omega) (by decide) dL_law_185 dL_law_186 dL_law_188 dL_law_189 dL_law_190 ?_
  refine th_callVi (As := [.int (xs (6 * i + 1)), .int (xs (6 * i + 2)), .int (xs (6 * i + 3)), .int (xs (6 * i + 4)), .int (xs (6 * i + 5))]) (rest := []) (u := z) (K := fun r z1 => M_feed (xs (6 * i + 1)) (xs (6 * i + 2)) (xs (6 * i + 3)) (xs (6 * i + 4)) (xs (6 * i + 5)) z1.2.1 (fun r' m' => r' = r ∧ Sim z1.1.2 m')) C llX_feed (fr_Ci (a := []) (c := wM cs q2 z.2.1 ++ [(oa, .inl (cs 2, (1, .inr (.inl z.2.2))))]) (W9 := wL cs ad q q2 oa) (f := fun x => ((z.1.1, x), z.2)) (w := wX cs ad q z.1.1 z.1.1) (xE_ok ad ak) (fun _ _ _ h => h) (fun _ => rfl) (fun _ _ h => h) (X_TH_feed_c (si_feed hS))) hw (wL_rX C.2.2.2.2.2.1 hw.1) rfl rfl ⟨by omega, by omega⟩ hl.1 (Nat.le_of_ble_eq_true rfl) ⟨by omega, by omega⟩ dL_law_191 (fun r u1 H locs hf hw => ?_)
  refine lv_aload_n hx hb dL_law_194 rfl (lv_at hl 2 rfl) ?_
  refine la_arg (k := 1) G hw.2.2 (lv_at hl 0 rfl) (lv_at hl 4 rfl) (by omega) (by decide) dL_law_195 dL_law_196 dL_law_198 dL_law_199 dL_law_200 ?_
  refine la_arg (k := 2) G hw.2.2 (lv_at hl 0 rfl) (lv_at hl 4 rfl) (by omega) (by decide) dL_law_201 dL_law_202 dL_law_204 dL_law_205 dL_law_206 ?_
  refine la_arg (k := 3) G hw.2.2 (lv_at hl 0 rfl) (lv_at hl 4 rfl) (by omega) (by decide) dL_law_207 dL_law_208 dL_law_210 dL_law_211 dL_law_212 ?_
  refine la_arg (k := 4) G hw.2.2 (lv_at hl 0 rfl) (lv_at hl 4 rfl) (by omega) (by decide) dL_law_213 dL_law_214 dL_law_216 dL_law_217 dL_law_218 ?_
  refine la_arg (k := 5) G hw.2.2 (lv_at hl 0 rfl) (lv_at hl 4 rfl) (by omega) (by decide) dL_law_219 dL_law_220 dL_law_222 dL_law_223 dL_law_224 ?_
  refine th_callVi (As := [.int (xs (6 * i + 1)), .int (xs (6 * i + 2)), .int (xs (6 * i + 3)), .int (xs (6 * i + 4)), .int (xs (6 * i + 5))]) (rest := [.int r]) (u := u1) (K := fun r' z2 => r' = r ∧ Sim z2.1.2 z2.2.1) C llM_feed (fr_Ci (a := wXs cs ad q u1.1) (c := [(oa, .inl (cs 2, (1, .inr (.inl u1.2.2))))]) (W9 := wL cs ad q q2 oa) (f := fun m' => (u1.1, m', u1.2.2)) (w := wM cs q2) (xE_ok ad ak) (fun _ _ _ _ => trivial) (fun _ => rfl) (fun _ _ h => h) (M_feed_c hf)) hw (wL_rM C.2.2.2.2.2.1 hw.1) rfl rfl ⟨by omega, by omega⟩ hl.1 (Nat.le_of_ble_eq_true rfl) ⟨by omega, by omega⟩ dL_law_225 (fun r1 u2 H locs hf hw => ?_)
  exact lv_icmp_eq (tgt := 1126) hx hb dL_law_228 (by decide) (fun _ => hgo u2 _ _ _ _ _ (by omega) (by omega) hf.2 hw hl) (fun hc => absurd hf.1.symm hc)
theorem llX_end : th_LV RL RX11 36 yX11_end cX11_end 2 1 (some .boolean) := ⟨th_goodV (th_b2 203 rfl rfl) (th_b2 204 rfl rfl) (th_b2 205 rfl rfl) (th_b1 1 rfl rfl) (th_b2 206 rfl rfl), by decide +kernel⟩
theorem llM_end : th_LV RL RX12 40 yX12_end cX12_end 2 1 (some .boolean) := ⟨th_goodV (th_b5 181 rfl rfl) (th_b5 182 rfl rfl) (th_b5 183 rfl rfl) (th_b1 15 rfl rfl) (th_b5 184 rfl rfl), by decide +kernel⟩
set_option maxHeartbeats 4000000 in
theorem lc_1 (hlt : l.stackTraces = false) (G : lw_G p s m args meth c dC dI cs ad ak A b L xs R) (hi : 6 * i + 6 ≤ L) (hc : cells + 83 ≤ R.cells) (hs : slots + 2302 ≤ R.slots) (hS : Sim z.1.2 z.2.1) (hw : th_wI (dC, dI) (wL cs ad q q2 oa) A s.heap z H locs) (hl : lv_has ls 8 [(0, .ref b), (1, .ref (q 99)), (2, .ref (q2 0)), (3, .ref oa), (4, .int (nI (6 * i)))])
    (hgo : ∀ (z1 : lSt) (H : Heap) (locs : List Loc) (ls : Array Slot) (c1 s1 : Nat), c1 ≤ cells + 83 → s1 ≤ slots + 2302 → Sim z1.1.2 z1.2.1 → th_wI (dC, dI) (wL cs ad q q2 oa) A s.heap z1 H locs → lv_has ls 8 [(0, .ref b), (1, .ref (q 99)), (2, .ref (q2 0)), (3, .ref oa), (4, .int (nI (6 * i)))] → W p l e R s m args below meth c H locs c1 s1 Q (F0 m 1126 ls [])) : W p l e R s m args below meth c H locs cells slots Q (F0 m 233 ls []) := by
  obtain ⟨C, hX, hbl, hbA, hL, hRf, hRl⟩ := id G
  have hx := C.1
  have hb := C.2.1
  refine lv_aload_n hx hb dL_law_233 rfl (lv_at hl 1 rfl) ?_
  refine la_arg (k := 1) G hw.2.2 (lv_at hl 0 rfl) (lv_at hl 4 rfl) (by omega) (by decide) dL_law_234 dL_law_235 dL_law_237 dL_law_238 dL_law_239 ?_
  refine th_callVi (As := [.int (xs (6 * i + 1))]) (rest := []) (u := z) (K := fun r z1 => M_end (xs (6 * i + 1)) z1.2.1 (fun r' m' => r' = r ∧ Sim z1.1.2 m')) C llX_end (fr_Ci (a := []) (c := wM cs q2 z.2.1 ++ [(oa, .inl (cs 2, (1, .inr (.inl z.2.2))))]) (W9 := wL cs ad q q2 oa) (f := fun x => ((z.1.1, x), z.2)) (w := wX cs ad q z.1.1 z.1.1) (xE_ok ad ak) (fun _ _ _ h => h) (fun _ => rfl) (fun _ _ h => h) (X_TH_end_c (si_end hS))) hw (wL_rX C.2.2.2.2.2.1 hw.1) rfl rfl ⟨by omega, by omega⟩ hl.1 (Nat.le_of_ble_eq_true rfl) ⟨by omega, by omega⟩ dL_law_240 (fun r u1 H locs hf hw => ?_)
  refine lv_aload_n hx hb dL_law_243 rfl (lv_at hl 2 rfl) ?_
  refine la_arg (k := 1) G hw.2.2 (lv_at hl 0 rfl) (lv_at hl 4 rfl) (by omega) (by decide) dL_law_244 dL_law_245 dL_law_247 dL_law_248 dL_law_249 ?_
  refine th_callVi (As := [.int (xs (6 * i + 1))]) (rest := [.int r]) (u := u1) (K := fun r' z2 => r' = r ∧ Sim z2.1.2 z2.2.1) C llM_end (fr_Ci (a := wXs cs ad q u1.1) (c := [(oa, .inl (cs 2, (1, .inr (.inl u1.2.2))))]) (W9 := wL cs ad q q2 oa) (f := fun m' => (u1.1, m', u1.2.2)) (w := wM cs q2) (xE_ok ad ak) (fun _ _ _ _ => trivial) (fun _ => rfl) (fun _ _ h => h) (M_end_c hf)) hw (wL_rM C.2.2.2.2.2.1 hw.1) rfl rfl ⟨by omega, by omega⟩ hl.1 (Nat.le_of_ble_eq_true rfl) ⟨by omega, by omega⟩ dL_law_250 (fun r1 u2 H locs hf hw => ?_)
  exact lv_icmp_eq (tgt := 1126) hx hb dL_law_253 (by decide) (fun _ => hgo u2 _ _ _ _ _ (by omega) (by omega) hf.2 hw hl) (fun hc => absurd hf.1.symm hc)
theorem llX_next : th_LV RL RX11 41 yX11_next cX11_next 2 1 (some .int) := ⟨th_goodV (th_b2 207 rfl rfl) (th_b2 208 rfl rfl) (th_b2 209 rfl rfl) (th_b1 1 rfl rfl) (th_b2 210 rfl rfl), by decide +kernel⟩
theorem llM_next : th_LV RL RX12 45 yX12_next cX12_next 2 1 (some .int) := ⟨th_goodV (th_b5 185 rfl rfl) (th_b5 186 rfl rfl) (th_b5 187 rfl rfl) (th_b1 15 rfl rfl) (th_b5 188 rfl rfl), by decide +kernel⟩
set_option maxHeartbeats 4000000 in
theorem lc_2 (hlt : l.stackTraces = false) (G : lw_G p s m args meth c dC dI cs ad ak A b L xs R) (hi : 6 * i + 6 ≤ L) (hc : cells + 83 ≤ R.cells) (hs : slots + 2302 ≤ R.slots) (hS : Sim z.1.2 z.2.1) (hw : th_wI (dC, dI) (wL cs ad q q2 oa) A s.heap z H locs) (hl : lv_has ls 8 [(0, .ref b), (1, .ref (q 99)), (2, .ref (q2 0)), (3, .ref oa), (4, .int (nI (6 * i)))])
    (hgo : ∀ (z1 : lSt) (H : Heap) (locs : List Loc) (ls : Array Slot) (c1 s1 : Nat), c1 ≤ cells + 83 → s1 ≤ slots + 2302 → Sim z1.1.2 z1.2.1 → th_wI (dC, dI) (wL cs ad q q2 oa) A s.heap z1 H locs → lv_has ls 8 [(0, .ref b), (1, .ref (q 99)), (2, .ref (q2 0)), (3, .ref oa), (4, .int (nI (6 * i)))] → W p l e R s m args below meth c H locs c1 s1 Q (F0 m 1126 ls [])) : W p l e R s m args below meth c H locs cells slots Q (F0 m 258 ls []) := by
  obtain ⟨C, hX, hbl, hbA, hL, hRf, hRl⟩ := id G
  have hx := C.1
  have hb := C.2.1
  refine lv_aload_n hx hb dL_law_258 rfl (lv_at hl 1 rfl) ?_
  refine la_arg (k := 1) G hw.2.2 (lv_at hl 0 rfl) (lv_at hl 4 rfl) (by omega) (by decide) dL_law_259 dL_law_260 dL_law_262 dL_law_263 dL_law_264 ?_
  refine th_callVi (As := [.int (xs (6 * i + 1))]) (rest := []) (u := z) (K := fun r z1 => M_next (xs (6 * i + 1)) z1.2.1 (fun r' m' => r' = r ∧ Sim z1.1.2 m')) C llX_next (fr_Ci (a := []) (c := wM cs q2 z.2.1 ++ [(oa, .inl (cs 2, (1, .inr (.inl z.2.2))))]) (W9 := wL cs ad q q2 oa) (f := fun x => ((z.1.1, x), z.2)) (w := wX cs ad q z.1.1 z.1.1) (xE_ok ad ak) (fun _ _ _ h => h) (fun _ => rfl) (fun _ _ h => h) (X_TH_next_c (si_next hS))) hw (wL_rX C.2.2.2.2.2.1 hw.1) rfl rfl ⟨by omega, by omega⟩ hl.1 (Nat.le_of_ble_eq_true rfl) ⟨by omega, by omega⟩ dL_law_265 (fun r u1 H locs hf hw => ?_)
  refine lv_aload_n hx hb dL_law_268 rfl (lv_at hl 2 rfl) ?_
  refine la_arg (k := 1) G hw.2.2 (lv_at hl 0 rfl) (lv_at hl 4 rfl) (by omega) (by decide) dL_law_269 dL_law_270 dL_law_272 dL_law_273 dL_law_274 ?_
  refine th_callVi (As := [.int (xs (6 * i + 1))]) (rest := [.int r]) (u := u1) (K := fun r' z2 => r' = r ∧ Sim z2.1.2 z2.2.1) C llM_next (fr_Ci (a := wXs cs ad q u1.1) (c := [(oa, .inl (cs 2, (1, .inr (.inl u1.2.2))))]) (W9 := wL cs ad q q2 oa) (f := fun m' => (u1.1, m', u1.2.2)) (w := wM cs q2) (xE_ok ad ak) (fun _ _ _ _ => trivial) (fun _ => rfl) (fun _ _ h => h) (M_next_c hf)) hw (wL_rM C.2.2.2.2.2.1 hw.1) rfl rfl ⟨by omega, by omega⟩ hl.1 (Nat.le_of_ble_eq_true rfl) ⟨by omega, by omega⟩ dL_law_275 (fun r1 u2 H locs hf hw => ?_)
  exact lv_icmp_eq (tgt := 1126) hx hb dL_law_278 (by decide) (fun _ => hgo u2 _ _ _ _ _ (by omega) (by omega) hf.2 hw hl) (fun hc => absurd hf.1.symm hc)
theorem llX_text : th_LV RL RX11 46 yX11_text cX11_text 4 0 (some .int) := ⟨th_goodV (th_b2 211 rfl rfl) (th_b2 212 rfl rfl) (th_b2 213 rfl rfl) (th_b1 1 rfl rfl) (th_b2 214 rfl rfl), by decide +kernel⟩
theorem llM_text : th_LV RL RX12 50 yX12_text cX12_text 3 0 (some .int) := ⟨th_goodV (th_b6 164 rfl rfl) (th_b6 165 rfl rfl) (th_b6 166 rfl rfl) (th_b1 15 rfl rfl) (th_b6 167 rfl rfl), by decide +kernel⟩
set_option maxHeartbeats 4000000 in
theorem lc_3 (hlt : l.stackTraces = false) (G : lw_G p s m args meth c dC dI cs ad ak A b L xs R) (hi : 6 * i + 6 ≤ L) (hc : cells + 83 ≤ R.cells) (hs : slots + 2302 ≤ R.slots) (hS : Sim z.1.2 z.2.1) (hw : th_wI (dC, dI) (wL cs ad q q2 oa) A s.heap z H locs) (hl : lv_has ls 8 [(0, .ref b), (1, .ref (q 99)), (2, .ref (q2 0)), (3, .ref oa), (4, .int (nI (6 * i)))])
    (hgo : ∀ (z1 : lSt) (H : Heap) (locs : List Loc) (ls : Array Slot) (c1 s1 : Nat), c1 ≤ cells + 83 → s1 ≤ slots + 2302 → Sim z1.1.2 z1.2.1 → th_wI (dC, dI) (wL cs ad q q2 oa) A s.heap z1 H locs → lv_has ls 8 [(0, .ref b), (1, .ref (q 99)), (2, .ref (q2 0)), (3, .ref oa), (4, .int (nI (6 * i)))] → W p l e R s m args below meth c H locs c1 s1 Q (F0 m 1126 ls [])) : W p l e R s m args below meth c H locs cells slots Q (F0 m 283 ls []) := by
  obtain ⟨C, hX, hbl, hbA, hL, hRf, hRl⟩ := id G
  have hx := C.1
  have hb := C.2.1
  refine lv_aload_n hx hb dL_law_283 rfl (lv_at hl 1 rfl) ?_
  refine th_callVi (As := []) (rest := []) (u := z) (K := fun r z1 => M_text  z1.2.1 (fun r' m' => r' = r ∧ Sim z1.1.2 m')) C llX_text (fr_Ci (a := []) (c := wM cs q2 z.2.1 ++ [(oa, .inl (cs 2, (1, .inr (.inl z.2.2))))]) (W9 := wL cs ad q q2 oa) (f := fun x => (x, z.2)) (w := wXs cs ad q) (xE_ok ad ak) (fun _ _ _ h => h) (fun _ => rfl) (fun _ _ h => h) (X_TH_text_c (si_text hS))) hw (wL_rX C.2.2.2.2.2.1 hw.1) rfl rfl ⟨by omega, by omega⟩ hl.1 (Nat.le_of_ble_eq_true rfl) ⟨by omega, by omega⟩ dL_law_284 (fun r u1 H locs hf hw => ?_)
  refine lv_aload_n hx hb dL_law_287 rfl (lv_at hl 2 rfl) ?_
  refine th_callVi (As := []) (rest := [.int r]) (u := u1) (K := fun r' z2 => r' = r ∧ Sim z2.1.2 z2.2.1) C llM_text (fr_Ci (a := wXs cs ad q u1.1) (c := [(oa, .inl (cs 2, (1, .inr (.inl u1.2.2))))]) (W9 := wL cs ad q q2 oa) (f := fun m' => (u1.1, m', u1.2.2)) (w := wM cs q2) (xE_ok ad ak) (fun _ _ _ _ => trivial) (fun _ => rfl) (fun _ _ h => h) (M_text_c hf)) hw (wL_rM C.2.2.2.2.2.1 hw.1) rfl rfl ⟨by omega, by omega⟩ hl.1 (Nat.le_of_ble_eq_true rfl) ⟨by omega, by omega⟩ dL_law_288 (fun r1 u2 H locs hf hw => ?_)
  exact lv_icmp_eq (tgt := 1126) hx hb dL_law_291 (by decide) (fun _ => hgo u2 _ _ _ _ _ (by omega) (by omega) hf.2 hw hl) (fun hc => absurd hf.1.symm hc)
theorem llX_fault : th_LV RL RX11 51 yX11_fault cX11_fault 1 0 (some .int) := ⟨th_goodV (th_b3 206 rfl rfl) (th_b3 207 rfl rfl) (th_b3 208 rfl rfl) (th_b1 1 rfl rfl) (th_b3 209 rfl rfl), by decide +kernel⟩
theorem llM_fault : th_LV RL RX12 54 yX12_fault cX12_fault 1 0 (some .int) := ⟨th_goodV (th_b7 31 rfl rfl) (th_b7 32 rfl rfl) (th_b7 33 rfl rfl) (th_b1 15 rfl rfl) (th_b7 34 rfl rfl), by decide +kernel⟩
set_option maxHeartbeats 4000000 in
theorem lc_4 (hlt : l.stackTraces = false) (G : lw_G p s m args meth c dC dI cs ad ak A b L xs R) (hi : 6 * i + 6 ≤ L) (hc : cells + 83 ≤ R.cells) (hs : slots + 2302 ≤ R.slots) (hS : Sim z.1.2 z.2.1) (hw : th_wI (dC, dI) (wL cs ad q q2 oa) A s.heap z H locs) (hl : lv_has ls 8 [(0, .ref b), (1, .ref (q 99)), (2, .ref (q2 0)), (3, .ref oa), (4, .int (nI (6 * i)))])
    (hgo : ∀ (z1 : lSt) (H : Heap) (locs : List Loc) (ls : Array Slot) (c1 s1 : Nat), c1 ≤ cells + 83 → s1 ≤ slots + 2302 → Sim z1.1.2 z1.2.1 → th_wI (dC, dI) (wL cs ad q q2 oa) A s.heap z1 H locs → lv_has ls 8 [(0, .ref b), (1, .ref (q 99)), (2, .ref (q2 0)), (3, .ref oa), (4, .int (nI (6 * i)))] → W p l e R s m args below meth c H locs c1 s1 Q (F0 m 1126 ls [])) : W p l e R s m args below meth c H locs cells slots Q (F0 m 296 ls []) := by
  obtain ⟨C, hX, hbl, hbA, hL, hRf, hRl⟩ := id G
  have hx := C.1
  have hb := C.2.1
  refine lv_aload_n hx hb dL_law_296 rfl (lv_at hl 1 rfl) ?_
  refine th_callVi (As := []) (rest := []) (u := z) (K := fun r z1 => M_fault  z1.2.1 (fun r' m' => r' = r ∧ Sim z1.1.2 m')) C llX_fault (fr_Ci (a := []) (c := wM cs q2 z.2.1 ++ [(oa, .inl (cs 2, (1, .inr (.inl z.2.2))))]) (W9 := wL cs ad q q2 oa) (f := fun x => ((z.1.1, x), z.2)) (w := wX cs ad q z.1.1 z.1.1) (xE_ok ad ak) (fun _ _ _ h => h) (fun _ => rfl) (fun _ _ h => h) (X_TH_fault_c (si_fault hS))) hw (wL_rX C.2.2.2.2.2.1 hw.1) rfl rfl ⟨by omega, by omega⟩ hl.1 (Nat.le_of_ble_eq_true rfl) ⟨by omega, by omega⟩ dL_law_297 (fun r u1 H locs hf hw => ?_)
  refine lv_aload_n hx hb dL_law_300 rfl (lv_at hl 2 rfl) ?_
  refine th_callVi (As := []) (rest := [.int r]) (u := u1) (K := fun r' z2 => r' = r ∧ Sim z2.1.2 z2.2.1) C llM_fault (fr_Ci (a := wXs cs ad q u1.1) (c := [(oa, .inl (cs 2, (1, .inr (.inl u1.2.2))))]) (W9 := wL cs ad q q2 oa) (f := fun m' => (u1.1, m', u1.2.2)) (w := wM cs q2) (xE_ok ad ak) (fun _ _ _ _ => trivial) (fun _ => rfl) (fun _ _ h => h) (M_fault_c hf)) hw (wL_rM C.2.2.2.2.2.1 hw.1) rfl rfl ⟨by omega, by omega⟩ hl.1 (Nat.le_of_ble_eq_true rfl) ⟨by omega, by omega⟩ dL_law_301 (fun r1 u2 H locs hf hw => ?_)
  exact lv_icmp_eq (tgt := 1126) hx hb dL_law_304 (by decide) (fun _ => hgo u2 _ _ _ _ _ (by omega) (by omega) hf.2 hw hl) (fun hc => absurd hf.1.symm hc)
theorem llX_foot : th_LV RL RX11 55 yX11_foot cX11_foot 3 2 (some .int) := ⟨th_goodV (th_b3 210 rfl rfl) (th_b3 211 rfl rfl) (th_b3 212 rfl rfl) (th_b1 1 rfl rfl) (th_b3 213 rfl rfl), by decide +kernel⟩
theorem llM_foot : th_LV RL RX12 58 yX12_foot cX12_foot 3 2 (some .int) := ⟨th_goodV (th_b7 35 rfl rfl) (th_b7 36 rfl rfl) (th_b7 37 rfl rfl) (th_b1 15 rfl rfl) (th_b7 38 rfl rfl), by decide +kernel⟩
set_option maxHeartbeats 4000000 in
theorem lc_5 (hlt : l.stackTraces = false) (G : lw_G p s m args meth c dC dI cs ad ak A b L xs R) (hi : 6 * i + 6 ≤ L) (hc : cells + 83 ≤ R.cells) (hs : slots + 2302 ≤ R.slots) (hS : Sim z.1.2 z.2.1) (hw : th_wI (dC, dI) (wL cs ad q q2 oa) A s.heap z H locs) (hl : lv_has ls 8 [(0, .ref b), (1, .ref (q 99)), (2, .ref (q2 0)), (3, .ref oa), (4, .int (nI (6 * i)))])
    (hgo : ∀ (z1 : lSt) (H : Heap) (locs : List Loc) (ls : Array Slot) (c1 s1 : Nat), c1 ≤ cells + 83 → s1 ≤ slots + 2302 → Sim z1.1.2 z1.2.1 → th_wI (dC, dI) (wL cs ad q q2 oa) A s.heap z1 H locs → lv_has ls 8 [(0, .ref b), (1, .ref (q 99)), (2, .ref (q2 0)), (3, .ref oa), (4, .int (nI (6 * i)))] → W p l e R s m args below meth c H locs c1 s1 Q (F0 m 1126 ls [])) : W p l e R s m args below meth c H locs cells slots Q (F0 m 309 ls []) := by
  obtain ⟨C, hX, hbl, hbA, hL, hRf, hRl⟩ := id G
  have hx := C.1
  have hb := C.2.1
  refine lv_aload_n hx hb dL_law_309 rfl (lv_at hl 1 rfl) ?_
  refine la_arg (k := 1) G hw.2.2 (lv_at hl 0 rfl) (lv_at hl 4 rfl) (by omega) (by decide) dL_law_310 dL_law_311 dL_law_313 dL_law_314 dL_law_315 ?_
  refine la_arg (k := 2) G hw.2.2 (lv_at hl 0 rfl) (lv_at hl 4 rfl) (by omega) (by decide) dL_law_316 dL_law_317 dL_law_319 dL_law_320 dL_law_321 ?_
  refine th_callVi (As := [.int (xs (6 * i + 1)), .int (xs (6 * i + 2))]) (rest := []) (u := z) (K := fun r z1 => M_foot (xs (6 * i + 1)) (xs (6 * i + 2)) z1.2.1 (fun r' m' => r' = r ∧ Sim z1.1.2 m')) C llX_foot (fr_Ci (a := []) (c := wM cs q2 z.2.1 ++ [(oa, .inl (cs 2, (1, .inr (.inl z.2.2))))]) (W9 := wL cs ad q q2 oa) (f := fun x => ((z.1.1, x), z.2)) (w := wX cs ad q z.1.1 z.1.1) (xE_ok ad ak) (fun _ _ _ h => h) (fun _ => rfl) (fun _ _ h => h) (X_TH_foot_c (si_foot hS))) hw (wL_rX C.2.2.2.2.2.1 hw.1) rfl rfl ⟨by omega, by omega⟩ hl.1 (Nat.le_of_ble_eq_true rfl) ⟨by omega, by omega⟩ dL_law_322 (fun r u1 H locs hf hw => ?_)
  refine lv_aload_n hx hb dL_law_325 rfl (lv_at hl 2 rfl) ?_
  refine la_arg (k := 1) G hw.2.2 (lv_at hl 0 rfl) (lv_at hl 4 rfl) (by omega) (by decide) dL_law_326 dL_law_327 dL_law_329 dL_law_330 dL_law_331 ?_
  refine la_arg (k := 2) G hw.2.2 (lv_at hl 0 rfl) (lv_at hl 4 rfl) (by omega) (by decide) dL_law_332 dL_law_333 dL_law_335 dL_law_336 dL_law_337 ?_
  refine th_callVi (As := [.int (xs (6 * i + 1)), .int (xs (6 * i + 2))]) (rest := [.int r]) (u := u1) (K := fun r' z2 => r' = r ∧ Sim z2.1.2 z2.2.1) C llM_foot (fr_Ci (a := wXs cs ad q u1.1) (c := [(oa, .inl (cs 2, (1, .inr (.inl u1.2.2))))]) (W9 := wL cs ad q q2 oa) (f := fun m' => (u1.1, m', u1.2.2)) (w := wM cs q2) (xE_ok ad ak) (fun _ _ _ _ => trivial) (fun _ => rfl) (fun _ _ h => h) (M_foot_c hf)) hw (wL_rM C.2.2.2.2.2.1 hw.1) rfl rfl ⟨by omega, by omega⟩ hl.1 (Nat.le_of_ble_eq_true rfl) ⟨by omega, by omega⟩ dL_law_338 (fun r1 u2 H locs hf hw => ?_)
  exact lv_icmp_eq (tgt := 1126) hx hb dL_law_341 (by decide) (fun _ => hgo u2 _ _ _ _ _ (by omega) (by omega) hf.2 hw hl) (fun hc => absurd hf.1.symm hc)
theorem llX_hour : th_LV RL RX11 59 yX11_hour cX11_hour 2 0 (some .int) := ⟨th_goodV (th_b3 215 rfl rfl) (th_b3 216 rfl rfl) (th_b3 217 rfl rfl) (th_b1 1 rfl rfl) (th_b3 218 rfl rfl), by decide +kernel⟩
theorem llM_hour : th_LV RL RX12 62 yX12_hour cX12_hour 1 0 (some .int) := ⟨th_goodV (th_b7 39 rfl rfl) (th_b7 40 rfl rfl) (th_b7 41 rfl rfl) (th_b1 15 rfl rfl) (th_b7 42 rfl rfl), by decide +kernel⟩
set_option maxHeartbeats 4000000 in
theorem lc_6 (hlt : l.stackTraces = false) (G : lw_G p s m args meth c dC dI cs ad ak A b L xs R) (hi : 6 * i + 6 ≤ L) (hc : cells + 83 ≤ R.cells) (hs : slots + 2302 ≤ R.slots) (hS : Sim z.1.2 z.2.1) (hw : th_wI (dC, dI) (wL cs ad q q2 oa) A s.heap z H locs) (hl : lv_has ls 8 [(0, .ref b), (1, .ref (q 99)), (2, .ref (q2 0)), (3, .ref oa), (4, .int (nI (6 * i)))])
    (hgo : ∀ (z1 : lSt) (H : Heap) (locs : List Loc) (ls : Array Slot) (c1 s1 : Nat), c1 ≤ cells + 83 → s1 ≤ slots + 2302 → Sim z1.1.2 z1.2.1 → th_wI (dC, dI) (wL cs ad q q2 oa) A s.heap z1 H locs → lv_has ls 8 [(0, .ref b), (1, .ref (q 99)), (2, .ref (q2 0)), (3, .ref oa), (4, .int (nI (6 * i)))] → W p l e R s m args below meth c H locs c1 s1 Q (F0 m 1126 ls [])) : W p l e R s m args below meth c H locs cells slots Q (F0 m 346 ls []) := by
  obtain ⟨C, hX, hbl, hbA, hL, hRf, hRl⟩ := id G
  have hx := C.1
  have hb := C.2.1
  refine lv_aload_n hx hb dL_law_346 rfl (lv_at hl 1 rfl) ?_
  refine th_callVi (As := []) (rest := []) (u := z) (K := fun r z1 => M_hour  z1.2.1 (fun r' m' => r' = r ∧ Sim z1.1.2 m')) C llX_hour (fr_Ci (a := []) (c := wM cs q2 z.2.1 ++ [(oa, .inl (cs 2, (1, .inr (.inl z.2.2))))]) (W9 := wL cs ad q q2 oa) (f := fun x => ((z.1.1, x), z.2)) (w := wX cs ad q z.1.1 z.1.1) (xE_ok ad ak) (fun _ _ _ h => h) (fun _ => rfl) (fun _ _ h => h) (X_TH_hour_c (si_hour hS))) hw (wL_rX C.2.2.2.2.2.1 hw.1) rfl rfl ⟨by omega, by omega⟩ hl.1 (Nat.le_of_ble_eq_true rfl) ⟨by omega, by omega⟩ dL_law_347 (fun r u1 H locs hf hw => ?_)
  refine lv_aload_n hx hb dL_law_350 rfl (lv_at hl 2 rfl) ?_
  refine th_callVi (As := []) (rest := [.int r]) (u := u1) (K := fun r' z2 => r' = r ∧ Sim z2.1.2 z2.2.1) C llM_hour (fr_Ci (a := wXs cs ad q u1.1) (c := [(oa, .inl (cs 2, (1, .inr (.inl u1.2.2))))]) (W9 := wL cs ad q q2 oa) (f := fun m' => (u1.1, m', u1.2.2)) (w := wM cs q2) (xE_ok ad ak) (fun _ _ _ _ => trivial) (fun _ => rfl) (fun _ _ h => h) (M_hour_c hf)) hw (wL_rM C.2.2.2.2.2.1 hw.1) rfl rfl ⟨by omega, by omega⟩ hl.1 (Nat.le_of_ble_eq_true rfl) ⟨by omega, by omega⟩ dL_law_351 (fun r1 u2 H locs hf hw => ?_)
  exact lv_icmp_eq (tgt := 1126) hx hb dL_law_354 (by decide) (fun _ => hgo u2 _ _ _ _ _ (by omega) (by omega) hf.2 hw hl) (fun hc => absurd hf.1.symm hc)
theorem llX_mend : th_LV RL RX11 63 yX11_mend cX11_mend 3 1 (some .boolean) := ⟨th_goodV (th_b4 13 rfl rfl) (th_b4 14 rfl rfl) (th_b4 15 rfl rfl) (th_b1 1 rfl rfl) (th_b4 16 rfl rfl), by decide +kernel⟩
theorem llM_mend : th_LV RL RX12 66 yX12_mend cX12_mend 3 1 (some .boolean) := ⟨th_goodV (th_b7 47 rfl rfl) (th_b7 48 rfl rfl) (th_b7 49 rfl rfl) (th_b1 15 rfl rfl) (th_b7 50 rfl rfl), by decide +kernel⟩
set_option maxHeartbeats 4000000 in
theorem lc_7 (hlt : l.stackTraces = false) (G : lw_G p s m args meth c dC dI cs ad ak A b L xs R) (hi : 6 * i + 6 ≤ L) (hc : cells + 83 ≤ R.cells) (hs : slots + 2302 ≤ R.slots) (hS : Sim z.1.2 z.2.1) (hw : th_wI (dC, dI) (wL cs ad q q2 oa) A s.heap z H locs) (hl : lv_has ls 8 [(0, .ref b), (1, .ref (q 99)), (2, .ref (q2 0)), (3, .ref oa), (4, .int (nI (6 * i)))])
    (hgo : ∀ (z1 : lSt) (H : Heap) (locs : List Loc) (ls : Array Slot) (c1 s1 : Nat), c1 ≤ cells + 83 → s1 ≤ slots + 2302 → Sim z1.1.2 z1.2.1 → th_wI (dC, dI) (wL cs ad q q2 oa) A s.heap z1 H locs → lv_has ls 8 [(0, .ref b), (1, .ref (q 99)), (2, .ref (q2 0)), (3, .ref oa), (4, .int (nI (6 * i)))] → W p l e R s m args below meth c H locs c1 s1 Q (F0 m 1126 ls [])) : W p l e R s m args below meth c H locs cells slots Q (F0 m 359 ls []) := by
  obtain ⟨C, hX, hbl, hbA, hL, hRf, hRl⟩ := id G
  have hx := C.1
  have hb := C.2.1
  refine lv_aload_n hx hb dL_law_359 rfl (lv_at hl 1 rfl) ?_
  refine la_arg (k := 1) G hw.2.2 (lv_at hl 0 rfl) (lv_at hl 4 rfl) (by omega) (by decide) dL_law_360 dL_law_361 dL_law_363 dL_law_364 dL_law_365 ?_
  refine th_callVi (As := [.int (xs (6 * i + 1))]) (rest := []) (u := z) (K := fun r z1 => M_mend (xs (6 * i + 1)) z1.2.1 (fun r' m' => r' = r ∧ Sim z1.1.2 m')) C llX_mend (fr_Ci (a := []) (c := wM cs q2 z.2.1 ++ [(oa, .inl (cs 2, (1, .inr (.inl z.2.2))))]) (W9 := wL cs ad q q2 oa) (f := fun x => ((z.1.1, x), z.2)) (w := wX cs ad q z.1.1 z.1.1) (xE_ok ad ak) (fun _ _ _ h => h) (fun _ => rfl) (fun _ _ h => h) (X_TH_mend_c (si_mend hS))) hw (wL_rX C.2.2.2.2.2.1 hw.1) rfl rfl ⟨by omega, by omega⟩ hl.1 (Nat.le_of_ble_eq_true rfl) ⟨by omega, by omega⟩ dL_law_366 (fun r u1 H locs hf hw => ?_)
  refine lv_aload_n hx hb dL_law_369 rfl (lv_at hl 2 rfl) ?_
  refine la_arg (k := 1) G hw.2.2 (lv_at hl 0 rfl) (lv_at hl 4 rfl) (by omega) (by decide) dL_law_370 dL_law_371 dL_law_373 dL_law_374 dL_law_375 ?_
  refine th_callVi (As := [.int (xs (6 * i + 1))]) (rest := [.int r]) (u := u1) (K := fun r' z2 => r' = r ∧ Sim z2.1.2 z2.2.1) C llM_mend (fr_Ci (a := wXs cs ad q u1.1) (c := [(oa, .inl (cs 2, (1, .inr (.inl u1.2.2))))]) (W9 := wL cs ad q q2 oa) (f := fun m' => (u1.1, m', u1.2.2)) (w := wM cs q2) (xE_ok ad ak) (fun _ _ _ _ => trivial) (fun _ => rfl) (fun _ _ h => h) (M_mend_c hf)) hw (wL_rM C.2.2.2.2.2.1 hw.1) rfl rfl ⟨by omega, by omega⟩ hl.1 (Nat.le_of_ble_eq_true rfl) ⟨by omega, by omega⟩ dL_law_376 (fun r1 u2 H locs hf hw => ?_)
  exact lv_icmp_eq (tgt := 1126) hx hb dL_law_379 (by decide) (fun _ => hgo u2 _ _ _ _ _ (by omega) (by omega) hf.2 hw hl) (fun hc => absurd hf.1.symm hc)
theorem llH_felt : GoodIn th_BIG (va_wsS RL 67 yL_felt (Cond.codeWith yL_felt cL_felt 6 (some .int) [(0, 12, 15, 13)] :: th_BIG)) ∧ (yL_felt.cls ≠ "java/lang/invoke/MethodHandle" ∧ yL_felt.cls ≠ "java/lang/invoke/VarHandle" ∧ (parseMethodDescriptor yL_felt.desc).map (fun d => d.parameters.length) = some 5) := ⟨th_goodW (th_b5 46 rfl rfl) (th_b5 47 rfl rfl) (th_b1 0 rfl rfl) (th_b5 48 rfl rfl), by decide +kernel⟩
theorem llM_felt : th_LV RL RX12 72 yX12_felt cX12_felt 4 3 (some .int) := ⟨th_goodV (th_b7 51 rfl rfl) (th_b7 52 rfl rfl) (th_b7 53 rfl rfl) (th_b1 15 rfl rfl) (th_b7 54 rfl rfl), by decide +kernel⟩
set_option maxHeartbeats 4000000 in
theorem lc_8 (hlt : l.stackTraces = false) (G : lw_G p s m args meth c dC dI cs ad ak A b L xs R) (hi : 6 * i + 6 ≤ L) (hc : cells + 83 ≤ R.cells) (hs : slots + 2302 ≤ R.slots) (hS : Sim z.1.2 z.2.1) (hw : th_wI (dC, dI) (wL cs ad q q2 oa) A s.heap z H locs) (hl : lv_has ls 8 [(0, .ref b), (1, .ref (q 99)), (2, .ref (q2 0)), (3, .ref oa), (4, .int (nI (6 * i)))])
    (hgo : ∀ (z1 : lSt) (H : Heap) (locs : List Loc) (ls : Array Slot) (c1 s1 : Nat), c1 ≤ cells + 83 → s1 ≤ slots + 2302 → Sim z1.1.2 z1.2.1 → th_wI (dC, dI) (wL cs ad q q2 oa) A s.heap z1 H locs → lv_has ls 8 [(0, .ref b), (1, .ref (q 99)), (2, .ref (q2 0)), (3, .ref oa), (4, .int (nI (6 * i)))] → W p l e R s m args below meth c H locs c1 s1 Q (F0 m 1126 ls [])) : W p l e R s m args below meth c H locs cells slots Q (F0 m 384 ls []) := by
  obtain ⟨C, hX, hbl, hbA, hL, hRf, hRl⟩ := id G
  have hx := C.1
  have hb := C.2.1
  refine lv_aload_n hx hb dL_law_384 rfl (lv_at hl 1 rfl) ?_
  refine la_arg (k := 1) G hw.2.2 (lv_at hl 0 rfl) (lv_at hl 4 rfl) (by omega) (by decide) dL_law_385 dL_law_386 dL_law_388 dL_law_389 dL_law_390 ?_
  refine la_arg (k := 2) G hw.2.2 (lv_at hl 0 rfl) (lv_at hl 4 rfl) (by omega) (by decide) dL_law_391 dL_law_392 dL_law_394 dL_law_395 dL_law_396 ?_
  refine la_arg (k := 3) G hw.2.2 (lv_at hl 0 rfl) (lv_at hl 4 rfl) (by omega) (by decide) dL_law_397 dL_law_398 dL_law_400 dL_law_401 dL_law_402 ?_
  refine lv_aload_n hx hb dL_law_403 rfl (lv_at hl 3 rfl) ?_
  refine th_callSW (As := [.ref (q 99), .int (xs (6 * i + 1)), .int (xs (6 * i + 2)), .int (xs (6 * i + 3)), .ref oa]) (rest := []) (u := z) (K := fun k z1 => (k = 1 ∧ M_felt (xs (6 * i + 1)) (xs (6 * i + 2)) (xs (6 * i + 3)) z1.2.1 (fun _ m' => m'.1 0 = 1 ∧ Sim z1.1.2 m')) ∨ (k = 0 ∧ ∃ r : Int32, z1.2.2 0 = r.toInt64 ∧ M_felt (xs (6 * i + 1)) (xs (6 * i + 2)) (xs (6 * i + 3)) z1.2.1 (fun r' m' => m'.1 0 = 0 ∧ r' = r ∧ Sim z1.1.2 m'))) C llH_felt (L_felt_c hlt (si_felt hS) (fun x v h => Or.inl ⟨rfl, h⟩) (fun r x v h => Or.inr ⟨rfl, r, rfl, h⟩)) hw rfl rfl ⟨by omega, by omega⟩ hl.1 (Nat.le_of_ble_eq_true rfl) ⟨by omega, by omega⟩ dL_law_404 (fun k u1 H locs hf hw => ?_)
  rcases hf with ⟨rfl, hf⟩ | ⟨rfl, r, hr, hf⟩
  · refine lv_istore (lv' := (5, .int 1) :: [(0, .ref b), (1, .ref (q 99)), (2, .ref (q2 0)), (3, .ref oa), (4, .int (nI (6 * i)))]) hx hb dL_law_407 hl (by decide) rfl (fun ls hl => ?_)
    refine lv_aload_n hx hb dL_law_409 rfl (lv_at hl 3 rfl) ?_
    refine la_arg (k := 1) G hw.2.2 (lv_at hl 1 rfl) (lv_at hl 5 rfl) (by omega) (by decide) dL_law_410 dL_law_411 dL_law_413 dL_law_414 dL_law_415 ?_
    refine la_arg (k := 2) G hw.2.2 (lv_at hl 1 rfl) (lv_at hl 5 rfl) (by omega) (by decide) dL_law_416 dL_law_417 dL_law_419 dL_law_420 dL_law_421 ?_
    refine la_arg (k := 3) G hw.2.2 (lv_at hl 1 rfl) (lv_at hl 5 rfl) (by omega) (by decide) dL_law_422 dL_law_423 dL_law_425 dL_law_426 dL_law_427 ?_
    refine th_callVi (As := [.int (xs (6 * i + 1)), .int (xs (6 * i + 2)), .int (xs (6 * i + 3))]) (rest := []) (u := u1) (K := fun r1 z2 => z2.2.1.1 0 = 1 ∧ Sim z2.1.2 z2.2.1) C llM_felt (fr_Ci (a := wXs cs ad q u1.1) (c := [(oa, .inl (cs 2, (1, .inr (.inl u1.2.2))))]) (W9 := wL cs ad q q2 oa) (f := fun m' => (u1.1, m', u1.2.2)) (w := wM cs q2) (xE_ok ad ak) (fun _ _ _ _ => trivial) (fun _ => rfl) (fun _ _ h => h) (M_felt_c hf)) hw (wL_rM C.2.2.2.2.2.1 hw.1) rfl rfl ⟨by omega, by omega⟩ hl.1 (Nat.le_of_ble_eq_true rfl) ⟨by omega, by omega⟩ dL_law_428 (fun r1 u2 H locs hf hw => ?_)
    refine lv_istore (lv' := (6, .int r1) :: (5, .int 1) :: [(0, .ref b), (1, .ref (q 99)), (2, .ref (q2 0)), (3, .ref oa), (4, .int (nI (6 * i)))]) hx hb dL_law_431 hl (by decide) rfl (fun ls hl => ?_)
    refine lv_aload_n hx hb dL_law_433 rfl (lv_at hl 4 rfl) ?_
    refine th_callVi (As := []) (rest := []) (u := u2) (K := fun r3 z3 => r3 = 1 ∧ Sim z3.1.2 z3.2.1) C llM_thrown (fr_Ci (a := wXs cs ad q u2.1) (c := [(oa, .inl (cs 2, (1, .inr (.inl u2.2.2))))]) (W9 := wL cs ad q q2 oa) (f := fun m' => (u2.1, m', u2.2.2)) (w := wM cs q2) (K := fun r3 m' => r3 = 1 ∧ Sim u2.1.2 m') (xE_ok ad ak) (fun _ _ _ _ => trivial) (fun _ => rfl) (fun _ _ h => h) (M_thrown_c (show M_thrown u2.2.1 (fun r3 m' => r3 = 1 ∧ Sim u2.1.2 m') from ⟨hf.1, hf.2⟩))) hw (wL_rM C.2.2.2.2.2.1 hw.1) rfl rfl ⟨by omega, by omega⟩ hl.1 (Nat.le_of_ble_eq_true rfl) ⟨by omega, by omega⟩ dL_law_434 (fun r3 u3 H locs hf3 hw => ?_)
    refine lv_iload hx hb dL_law_437 (lv_at hl 1 rfl) ?_
    refine lv_icmp_eq (tgt := 444) hx hb dL_law_439 (by decide) (fun _ => ?_) (fun hc => absurd hf3.1 hc)
    refine lv_iload hx hb dL_law_444 (lv_at hl 1 rfl) ?_
    refine lv_if_ne (tgt := 461) hx hb dL_law_446 (by decide) (fun _ => ?_) (fun hc => absurd hc (by decide))
    refine lv_goto (tgt := 1126) hx hb dL_law_461 (by decide) ?_
    exact hgo u3 _ _ _ _ _ (by omega) (by omega) hf3.2 hw (lv_sub hl [2, 3, 4, 5, 6] rfl)
  · refine lv_istore (lv' := (5, .int 0) :: [(0, .ref b), (1, .ref (q 99)), (2, .ref (q2 0)), (3, .ref oa), (4, .int (nI (6 * i)))]) hx hb dL_law_407 hl (by decide) rfl (fun ls hl => ?_)
    refine lv_aload_n hx hb dL_law_409 rfl (lv_at hl 3 rfl) ?_
    refine la_arg (k := 1) G hw.2.2 (lv_at hl 1 rfl) (lv_at hl 5 rfl) (by omega) (by decide) dL_law_410 dL_law_411 dL_law_413 dL_law_414 dL_law_415 ?_
    refine la_arg (k := 2) G hw.2.2 (lv_at hl 1 rfl) (lv_at hl 5 rfl) (by omega) (by decide) dL_law_416 dL_law_417 dL_law_419 dL_law_420 dL_law_421 ?_
    refine la_arg (k := 3) G hw.2.2 (lv_at hl 1 rfl) (lv_at hl 5 rfl) (by omega) (by decide) dL_law_422 dL_law_423 dL_law_425 dL_law_426 dL_law_427 ?_
    refine th_callVi (As := [.int (xs (6 * i + 1)), .int (xs (6 * i + 2)), .int (xs (6 * i + 3))]) (rest := []) (u := u1) (K := fun r1 z2 => z2.2.1.1 0 = 0 ∧ r1 = r ∧ Sim z2.1.2 z2.2.1 ∧ z2.2.2 = u1.2.2) C llM_felt (fr_Ci (a := wXs cs ad q u1.1) (c := [(oa, .inl (cs 2, (1, .inr (.inl u1.2.2))))]) (W9 := wL cs ad q q2 oa) (f := fun m' => (u1.1, m', u1.2.2)) (w := wM cs q2) (xE_ok ad ak) (fun _ _ _ _ => trivial) (fun _ => rfl) (fun _ _ h => ⟨h.1, h.2.1, h.2.2, rfl⟩) (M_felt_c hf)) hw (wL_rM C.2.2.2.2.2.1 hw.1) rfl rfl ⟨by omega, by omega⟩ hl.1 (Nat.le_of_ble_eq_true rfl) ⟨by omega, by omega⟩ dL_law_428 (fun r1 u2 H locs hf hw => ?_)
    refine lv_istore (lv' := (6, .int r1) :: (5, .int 0) :: [(0, .ref b), (1, .ref (q 99)), (2, .ref (q2 0)), (3, .ref oa), (4, .int (nI (6 * i)))]) hx hb dL_law_431 hl (by decide) rfl (fun ls hl => ?_)
    refine lv_aload_n hx hb dL_law_433 rfl (lv_at hl 4 rfl) ?_
    refine th_callVi (As := []) (rest := []) (u := u2) (K := fun r3 z3 => r3 = 0 ∧ Sim z3.1.2 z3.2.1 ∧ z3.2.2 = u1.2.2) C llM_thrown (fr_Ci (a := wXs cs ad q u2.1) (c := [(oa, .inl (cs 2, (1, .inr (.inl u2.2.2))))]) (W9 := wL cs ad q q2 oa) (f := fun m' => (u2.1, m', u2.2.2)) (w := wM cs q2) (K := fun r3 m' => r3 = 0 ∧ Sim u2.1.2 m') (xE_ok ad ak) (fun _ _ _ _ => trivial) (fun _ => rfl) (fun _ _ h => ⟨h.1, h.2, hf.2.2.2⟩) (M_thrown_c (show M_thrown u2.2.1 (fun r3 m' => r3 = 0 ∧ Sim u2.1.2 m') from ⟨hf.1, hf.2.2.1⟩))) hw (wL_rM C.2.2.2.2.2.1 hw.1) rfl rfl ⟨by omega, by omega⟩ hl.1 (Nat.le_of_ble_eq_true rfl) ⟨by omega, by omega⟩ dL_law_434 (fun r3 u3 H locs hf3 hw => ?_)
    refine lv_iload hx hb dL_law_437 (lv_at hl 1 rfl) ?_
    refine lv_icmp_eq (tgt := 444) hx hb dL_law_439 (by decide) (fun _ => ?_) (fun hc => absurd hf3.1 hc)
    refine lv_iload hx hb dL_law_444 (lv_at hl 1 rfl) ?_
    refine lv_if_ne (tgt := 461) hx hb dL_law_446 (by decide) (fun hc => absurd rfl hc) (fun _ => ?_)
    refine lv_aload_n hx hb dL_law_449 rfl (lv_at hl 5 rfl) ?_
    refine lv_iconst (v := (0 : Int32)) hx hb dL_law_450 (by decide) ?_
    refine va_lald (D := (dC, dI)) (f := u3.2.2) (n := 1) (cA := cs 2) hx hb C.2.2.2.2.2.1 hw.1 (wXs cs ad q u3.1 ++ wM cs q2 u3.2.1).length 2 wL_at rfl (by unfold vp_in; decide) dL_law_451 ?_
    refine lv_iload hx hb dL_law_452 (lv_at hl 0 rfl) ?_
    refine lv_i2l hx hb dL_law_454 rfl ?_
    refine W.lcmp hx hb dL_law_455 ?_
    refine lv_if_eq (tgt := 461) hx hb dL_law_456 (by decide) (fun _ => ?_) (fun hc => absurd (lg_eq (by rw [hf3.2.2, hf.2.1]; exact hr)) hc)
    refine lv_goto (tgt := 1126) hx hb dL_law_461 (by decide) ?_
    exact hgo u3 _ _ _ _ _ (by omega) (by omega) hf3.2.1 hw (lv_sub hl [2, 3, 4, 5, 6] rfl)
theorem llX_slips : th_LV RL RX11 76 yX11_slips cX11_slips 4 2 (some .int) := ⟨th_goodV (th_b4 21 rfl rfl) (th_b4 22 rfl rfl) (th_b4 23 rfl rfl) (th_b1 1 rfl rfl) (th_b4 24 rfl rfl), by decide +kernel⟩
theorem llM_slips : th_LV RL RX12 79 yX12_slips cX12_slips 3 2 (some .int) := ⟨th_goodV (th_b7 79 rfl rfl) (th_b7 80 rfl rfl) (th_b7 81 rfl rfl) (th_b1 15 rfl rfl) (th_b7 82 rfl rfl), by decide +kernel⟩
set_option maxHeartbeats 4000000 in
theorem lc_9 (hlt : l.stackTraces = false) (G : lw_G p s m args meth c dC dI cs ad ak A b L xs R) (hi : 6 * i + 6 ≤ L) (hc : cells + 83 ≤ R.cells) (hs : slots + 2302 ≤ R.slots) (hS : Sim z.1.2 z.2.1) (hw : th_wI (dC, dI) (wL cs ad q q2 oa) A s.heap z H locs) (hl : lv_has ls 8 [(0, .ref b), (1, .ref (q 99)), (2, .ref (q2 0)), (3, .ref oa), (4, .int (nI (6 * i)))])
    (hgo : ∀ (z1 : lSt) (H : Heap) (locs : List Loc) (ls : Array Slot) (c1 s1 : Nat), c1 ≤ cells + 83 → s1 ≤ slots + 2302 → Sim z1.1.2 z1.2.1 → th_wI (dC, dI) (wL cs ad q q2 oa) A s.heap z1 H locs → lv_has ls 8 [(0, .ref b), (1, .ref (q 99)), (2, .ref (q2 0)), (3, .ref oa), (4, .int (nI (6 * i)))] → W p l e R s m args below meth c H locs c1 s1 Q (F0 m 1126 ls [])) : W p l e R s m args below meth c H locs cells slots Q (F0 m 464 ls []) := by
  obtain ⟨C, hX, hbl, hbA, hL, hRf, hRl⟩ := id G
  have hx := C.1
  have hb := C.2.1
  refine lv_aload_n hx hb dL_law_464 rfl (lv_at hl 1 rfl) ?_
  refine la_arg (k := 1) G hw.2.2 (lv_at hl 0 rfl) (lv_at hl 4 rfl) (by omega) (by decide) dL_law_465 dL_law_466 dL_law_468 dL_law_469 dL_law_470 ?_
  refine la_arg (k := 2) G hw.2.2 (lv_at hl 0 rfl) (lv_at hl 4 rfl) (by omega) (by decide) dL_law_471 dL_law_472 dL_law_474 dL_law_475 dL_law_476 ?_
  refine th_callVi (As := [.int (xs (6 * i + 1)), .int (xs (6 * i + 2))]) (rest := []) (u := z) (K := fun r z1 => M_slips (xs (6 * i + 1)) (xs (6 * i + 2)) z1.2.1 (fun r' m' => r' = r ∧ Sim z1.1.2 m')) C llX_slips (fr_Ci (a := []) (c := wM cs q2 z.2.1 ++ [(oa, .inl (cs 2, (1, .inr (.inl z.2.2))))]) (W9 := wL cs ad q q2 oa) (f := fun x => ((z.1.1, x), z.2)) (w := wX cs ad q z.1.1 z.1.1) (xE_ok ad ak) (fun _ _ _ h => h) (fun _ => rfl) (fun _ _ h => h) (X_TH_slips_c (si_slips hS))) hw (wL_rX C.2.2.2.2.2.1 hw.1) rfl rfl ⟨by omega, by omega⟩ hl.1 (Nat.le_of_ble_eq_true rfl) ⟨by omega, by omega⟩ dL_law_477 (fun r u1 H locs hf hw => ?_)
  refine lv_aload_n hx hb dL_law_480 rfl (lv_at hl 2 rfl) ?_
  refine la_arg (k := 1) G hw.2.2 (lv_at hl 0 rfl) (lv_at hl 4 rfl) (by omega) (by decide) dL_law_481 dL_law_482 dL_law_484 dL_law_485 dL_law_486 ?_
  refine la_arg (k := 2) G hw.2.2 (lv_at hl 0 rfl) (lv_at hl 4 rfl) (by omega) (by decide) dL_law_487 dL_law_488 dL_law_490 dL_law_491 dL_law_492 ?_
  refine th_callVi (As := [.int (xs (6 * i + 1)), .int (xs (6 * i + 2))]) (rest := [.int r]) (u := u1) (K := fun r' z2 => r' = r ∧ Sim z2.1.2 z2.2.1) C llM_slips (fr_Ci (a := wXs cs ad q u1.1) (c := [(oa, .inl (cs 2, (1, .inr (.inl u1.2.2))))]) (W9 := wL cs ad q q2 oa) (f := fun m' => (u1.1, m', u1.2.2)) (w := wM cs q2) (xE_ok ad ak) (fun _ _ _ _ => trivial) (fun _ => rfl) (fun _ _ h => h) (M_slips_c hf)) hw (wL_rM C.2.2.2.2.2.1 hw.1) rfl rfl ⟨by omega, by omega⟩ hl.1 (Nat.le_of_ble_eq_true rfl) ⟨by omega, by omega⟩ dL_law_493 (fun r1 u2 H locs hf hw => ?_)
  exact lv_icmp_eq (tgt := 1126) hx hb dL_law_496 (by decide) (fun _ => hgo u2 _ _ _ _ _ (by omega) (by omega) hf.2 hw hl) (fun hc => absurd hf.1.symm hc)
theorem llH_read : GoodIn th_BIG (va_wsS RL 80 yL_read (Cond.codeWith yL_read cL_read 7 (some .int) [(0, 14, 17, 13)] :: th_BIG)) ∧ (yL_read.cls ≠ "java/lang/invoke/MethodHandle" ∧ yL_read.cls ≠ "java/lang/invoke/VarHandle" ∧ (parseMethodDescriptor yL_read.desc).map (fun d => d.parameters.length) = some 6) := ⟨th_goodW (th_b5 120 rfl rfl) (th_b5 121 rfl rfl) (th_b1 0 rfl rfl) (th_b5 122 rfl rfl), by decide +kernel⟩
theorem llM_read : th_LV RL RX12 83 yX12_read_ cX12_read_ 9 4 (some .int) := ⟨th_goodV (th_b7 83 rfl rfl) (th_b7 84 rfl rfl) (th_b7 85 rfl rfl) (th_b1 15 rfl rfl) (th_b7 86 rfl rfl), by decide +kernel⟩
set_option maxHeartbeats 4000000 in
theorem lc_10 (hlt : l.stackTraces = false) (G : lw_G p s m args meth c dC dI cs ad ak A b L xs R) (hi : 6 * i + 6 ≤ L) (hc : cells + 83 ≤ R.cells) (hs : slots + 2302 ≤ R.slots) (hS : Sim z.1.2 z.2.1) (hw : th_wI (dC, dI) (wL cs ad q q2 oa) A s.heap z H locs) (hl : lv_has ls 8 [(0, .ref b), (1, .ref (q 99)), (2, .ref (q2 0)), (3, .ref oa), (4, .int (nI (6 * i)))])
    (hgo : ∀ (z1 : lSt) (H : Heap) (locs : List Loc) (ls : Array Slot) (c1 s1 : Nat), c1 ≤ cells + 83 → s1 ≤ slots + 2302 → Sim z1.1.2 z1.2.1 → th_wI (dC, dI) (wL cs ad q q2 oa) A s.heap z1 H locs → lv_has ls 8 [(0, .ref b), (1, .ref (q 99)), (2, .ref (q2 0)), (3, .ref oa), (4, .int (nI (6 * i)))] → W p l e R s m args below meth c H locs c1 s1 Q (F0 m 1126 ls [])) : W p l e R s m args below meth c H locs cells slots Q (F0 m 501 ls []) := by
  obtain ⟨C, hX, hbl, hbA, hL, hRf, hRl⟩ := id G
  have hx := C.1
  have hb := C.2.1
  refine lv_aload_n hx hb dL_law_501 rfl (lv_at hl 1 rfl) ?_
  refine la_arg (k := 1) G hw.2.2 (lv_at hl 0 rfl) (lv_at hl 4 rfl) (by omega) (by decide) dL_law_502 dL_law_503 dL_law_505 dL_law_506 dL_law_507 ?_
  refine la_arg (k := 2) G hw.2.2 (lv_at hl 0 rfl) (lv_at hl 4 rfl) (by omega) (by decide) dL_law_508 dL_law_509 dL_law_511 dL_law_512 dL_law_513 ?_
  refine la_arg (k := 3) G hw.2.2 (lv_at hl 0 rfl) (lv_at hl 4 rfl) (by omega) (by decide) dL_law_514 dL_law_515 dL_law_517 dL_law_518 dL_law_519 ?_
  refine la_arg (k := 4) G hw.2.2 (lv_at hl 0 rfl) (lv_at hl 4 rfl) (by omega) (by decide) dL_law_520 dL_law_521 dL_law_523 dL_law_524 dL_law_525 ?_
  refine lv_aload_n hx hb dL_law_526 rfl (lv_at hl 3 rfl) ?_
  refine th_callSW (As := [.ref (q 99), .int (xs (6 * i + 1)), .int (xs (6 * i + 2)), .int (xs (6 * i + 3)), .int (xs (6 * i + 4)), .ref oa]) (rest := []) (u := z) (K := fun k z1 => (k = 1 ∧ M_read_ (xs (6 * i + 1)) (xs (6 * i + 2)) (xs (6 * i + 3)) (xs (6 * i + 4)) z1.2.1 (fun _ m' => m'.1 0 = 1 ∧ Sim z1.1.2 m')) ∨ (k = 0 ∧ ∃ r : Int32, z1.2.2 0 = r.toInt64 ∧ M_read_ (xs (6 * i + 1)) (xs (6 * i + 2)) (xs (6 * i + 3)) (xs (6 * i + 4)) z1.2.1 (fun r' m' => m'.1 0 = 0 ∧ r' = r ∧ Sim z1.1.2 m'))) C llH_read (L_read_c hlt (si_read hS) (fun x v h => Or.inl ⟨rfl, h⟩) (fun r x v h => Or.inr ⟨rfl, r, rfl, h⟩)) hw rfl rfl ⟨by omega, by omega⟩ hl.1 (Nat.le_of_ble_eq_true rfl) ⟨by omega, by omega⟩ dL_law_527 (fun k u1 H locs hf hw => ?_)
  rcases hf with ⟨rfl, hf⟩ | ⟨rfl, r, hr, hf⟩
  · refine lv_istore (lv' := (5, .int 1) :: [(0, .ref b), (1, .ref (q 99)), (2, .ref (q2 0)), (3, .ref oa), (4, .int (nI (6 * i)))]) hx hb dL_law_530 hl (by decide) rfl (fun ls hl => ?_)
    refine lv_aload_n hx hb dL_law_532 rfl (lv_at hl 3 rfl) ?_
    refine la_arg (k := 1) G hw.2.2 (lv_at hl 1 rfl) (lv_at hl 5 rfl) (by omega) (by decide) dL_law_533 dL_law_534 dL_law_536 dL_law_537 dL_law_538 ?_
    refine la_arg (k := 2) G hw.2.2 (lv_at hl 1 rfl) (lv_at hl 5 rfl) (by omega) (by decide) dL_law_539 dL_law_540 dL_law_542 dL_law_543 dL_law_544 ?_
    refine la_arg (k := 3) G hw.2.2 (lv_at hl 1 rfl) (lv_at hl 5 rfl) (by omega) (by decide) dL_law_545 dL_law_546 dL_law_548 dL_law_549 dL_law_550 ?_
    refine la_arg (k := 4) G hw.2.2 (lv_at hl 1 rfl) (lv_at hl 5 rfl) (by omega) (by decide) dL_law_551 dL_law_552 dL_law_554 dL_law_555 dL_law_556 ?_
    refine th_callVi (As := [.int (xs (6 * i + 1)), .int (xs (6 * i + 2)), .int (xs (6 * i + 3)), .int (xs (6 * i + 4))]) (rest := []) (u := u1) (K := fun r1 z2 => z2.2.1.1 0 = 1 ∧ Sim z2.1.2 z2.2.1) C llM_read (fr_Ci (a := wXs cs ad q u1.1) (c := [(oa, .inl (cs 2, (1, .inr (.inl u1.2.2))))]) (W9 := wL cs ad q q2 oa) (f := fun m' => (u1.1, m', u1.2.2)) (w := wM cs q2) (xE_ok ad ak) (fun _ _ _ _ => trivial) (fun _ => rfl) (fun _ _ h => h) (M_read__c hf)) hw (wL_rM C.2.2.2.2.2.1 hw.1) rfl rfl ⟨by omega, by omega⟩ hl.1 (Nat.le_of_ble_eq_true rfl) ⟨by omega, by omega⟩ dL_law_557 (fun r1 u2 H locs hf hw => ?_)
    refine lv_istore (lv' := (6, .int r1) :: (5, .int 1) :: [(0, .ref b), (1, .ref (q 99)), (2, .ref (q2 0)), (3, .ref oa), (4, .int (nI (6 * i)))]) hx hb dL_law_560 hl (by decide) rfl (fun ls hl => ?_)
    refine lv_aload_n hx hb dL_law_562 rfl (lv_at hl 4 rfl) ?_
    refine th_callVi (As := []) (rest := []) (u := u2) (K := fun r3 z3 => r3 = 1 ∧ Sim z3.1.2 z3.2.1) C llM_thrown (fr_Ci (a := wXs cs ad q u2.1) (c := [(oa, .inl (cs 2, (1, .inr (.inl u2.2.2))))]) (W9 := wL cs ad q q2 oa) (f := fun m' => (u2.1, m', u2.2.2)) (w := wM cs q2) (K := fun r3 m' => r3 = 1 ∧ Sim u2.1.2 m') (xE_ok ad ak) (fun _ _ _ _ => trivial) (fun _ => rfl) (fun _ _ h => h) (M_thrown_c (show M_thrown u2.2.1 (fun r3 m' => r3 = 1 ∧ Sim u2.1.2 m') from ⟨hf.1, hf.2⟩))) hw (wL_rM C.2.2.2.2.2.1 hw.1) rfl rfl ⟨by omega, by omega⟩ hl.1 (Nat.le_of_ble_eq_true rfl) ⟨by omega, by omega⟩ dL_law_563 (fun r3 u3 H locs hf3 hw => ?_)
    refine lv_iload hx hb dL_law_566 (lv_at hl 1 rfl) ?_
    refine lv_icmp_eq (tgt := 573) hx hb dL_law_568 (by decide) (fun _ => ?_) (fun hc => absurd hf3.1 hc)
    refine lv_iload hx hb dL_law_573 (lv_at hl 1 rfl) ?_
    refine lv_if_ne (tgt := 590) hx hb dL_law_575 (by decide) (fun _ => ?_) (fun hc => absurd hc (by decide))
    refine lv_goto (tgt := 1126) hx hb dL_law_590 (by decide) ?_
    exact hgo u3 _ _ _ _ _ (by omega) (by omega) hf3.2 hw (lv_sub hl [2, 3, 4, 5, 6] rfl)
  · refine lv_istore (lv' := (5, .int 0) :: [(0, .ref b), (1, .ref (q 99)), (2, .ref (q2 0)), (3, .ref oa), (4, .int (nI (6 * i)))]) hx hb dL_law_530 hl (by decide) rfl (fun ls hl => ?_)
    refine lv_aload_n hx hb dL_law_532 rfl (lv_at hl 3 rfl) ?_
    refine la_arg (k := 1) G hw.2.2 (lv_at hl 1 rfl) (lv_at hl 5 rfl) (by omega) (by decide) dL_law_533 dL_law_534 dL_law_536 dL_law_537 dL_law_538 ?_
    refine la_arg (k := 2) G hw.2.2 (lv_at hl 1 rfl) (lv_at hl 5 rfl) (by omega) (by decide) dL_law_539 dL_law_540 dL_law_542 dL_law_543 dL_law_544 ?_
    refine la_arg (k := 3) G hw.2.2 (lv_at hl 1 rfl) (lv_at hl 5 rfl) (by omega) (by decide) dL_law_545 dL_law_546 dL_law_548 dL_law_549 dL_law_550 ?_
    refine la_arg (k := 4) G hw.2.2 (lv_at hl 1 rfl) (lv_at hl 5 rfl) (by omega) (by decide) dL_law_551 dL_law_552 dL_law_554 dL_law_555 dL_law_556 ?_
    refine th_callVi (As := [.int (xs (6 * i + 1)), .int (xs (6 * i + 2)), .int (xs (6 * i + 3)), .int (xs (6 * i + 4))]) (rest := []) (u := u1) (K := fun r1 z2 => z2.2.1.1 0 = 0 ∧ r1 = r ∧ Sim z2.1.2 z2.2.1 ∧ z2.2.2 = u1.2.2) C llM_read (fr_Ci (a := wXs cs ad q u1.1) (c := [(oa, .inl (cs 2, (1, .inr (.inl u1.2.2))))]) (W9 := wL cs ad q q2 oa) (f := fun m' => (u1.1, m', u1.2.2)) (w := wM cs q2) (xE_ok ad ak) (fun _ _ _ _ => trivial) (fun _ => rfl) (fun _ _ h => ⟨h.1, h.2.1, h.2.2, rfl⟩) (M_read__c hf)) hw (wL_rM C.2.2.2.2.2.1 hw.1) rfl rfl ⟨by omega, by omega⟩ hl.1 (Nat.le_of_ble_eq_true rfl) ⟨by omega, by omega⟩ dL_law_557 (fun r1 u2 H locs hf hw => ?_)
    refine lv_istore (lv' := (6, .int r1) :: (5, .int 0) :: [(0, .ref b), (1, .ref (q 99)), (2, .ref (q2 0)), (3, .ref oa), (4, .int (nI (6 * i)))]) hx hb dL_law_560 hl (by decide) rfl (fun ls hl => ?_)
    refine lv_aload_n hx hb dL_law_562 rfl (lv_at hl 4 rfl) ?_
    refine th_callVi (As := []) (rest := []) (u := u2) (K := fun r3 z3 => r3 = 0 ∧ Sim z3.1.2 z3.2.1 ∧ z3.2.2 = u1.2.2) C llM_thrown (fr_Ci (a := wXs cs ad q u2.1) (c := [(oa, .inl (cs 2, (1, .inr (.inl u2.2.2))))]) (W9 := wL cs ad q q2 oa) (f := fun m' => (u2.1, m', u2.2.2)) (w := wM cs q2) (K := fun r3 m' => r3 = 0 ∧ Sim u2.1.2 m') (xE_ok ad ak) (fun _ _ _ _ => trivial) (fun _ => rfl) (fun _ _ h => ⟨h.1, h.2, hf.2.2.2⟩) (M_thrown_c (show M_thrown u2.2.1 (fun r3 m' => r3 = 0 ∧ Sim u2.1.2 m') from ⟨hf.1, hf.2.2.1⟩))) hw (wL_rM C.2.2.2.2.2.1 hw.1) rfl rfl ⟨by omega, by omega⟩ hl.1 (Nat.le_of_ble_eq_true rfl) ⟨by omega, by omega⟩ dL_law_563 (fun r3 u3 H locs hf3 hw => ?_)
    refine lv_iload hx hb dL_law_566 (lv_at hl 1 rfl) ?_
    refine lv_icmp_eq (tgt := 573) hx hb dL_law_568 (by decide) (fun _ => ?_) (fun hc => absurd hf3.1 hc)
    refine lv_iload hx hb dL_law_573 (lv_at hl 1 rfl) ?_
    refine lv_if_ne (tgt := 590) hx hb dL_law_575 (by decide) (fun hc => absurd rfl hc) (fun _ => ?_)
    refine lv_aload_n hx hb dL_law_578 rfl (lv_at hl 5 rfl) ?_
    refine lv_iconst (v := (0 : Int32)) hx hb dL_law_579 (by decide) ?_
    refine va_lald (D := (dC, dI)) (f := u3.2.2) (n := 1) (cA := cs 2) hx hb C.2.2.2.2.2.1 hw.1 (wXs cs ad q u3.1 ++ wM cs q2 u3.2.1).length 2 wL_at rfl (by unfold vp_in; decide) dL_law_580 ?_
    refine lv_iload hx hb dL_law_581 (lv_at hl 0 rfl) ?_
    refine lv_i2l hx hb dL_law_583 rfl ?_
    refine W.lcmp hx hb dL_law_584 ?_
    refine lv_if_eq (tgt := 590) hx hb dL_law_585 (by decide) (fun _ => ?_) (fun hc => absurd (lg_eq (by rw [hf3.2.2, hf.2.1]; exact hr)) hc)
    refine lv_goto (tgt := 1126) hx hb dL_law_590 (by decide) ?_
    exact hgo u3 _ _ _ _ _ (by omega) (by omega) hf3.2.1 hw (lv_sub hl [2, 3, 4, 5, 6] rfl)
theorem llX_alarm : th_LV RL RX11 84 yX11_alarm cX11_alarm 5 3 (some .int) := ⟨th_goodV (th_b4 75 rfl rfl) (th_b4 76 rfl rfl) (th_b4 77 rfl rfl) (th_b1 1 rfl rfl) (th_b4 78 rfl rfl), by decide +kernel⟩
theorem llM_alarm : th_LV RL RX12 87 yX12_alarm cX12_alarm 4 3 (some .int) := ⟨th_goodV (th_b7 87 rfl rfl) (th_b7 88 rfl rfl) (th_b7 89 rfl rfl) (th_b1 15 rfl rfl) (th_b7 90 rfl rfl), by decide +kernel⟩
set_option maxHeartbeats 4000000 in
theorem lc_11 (hlt : l.stackTraces = false) (G : lw_G p s m args meth c dC dI cs ad ak A b L xs R) (hi : 6 * i + 6 ≤ L) (hc : cells + 83 ≤ R.cells) (hs : slots + 2302 ≤ R.slots) (hS : Sim z.1.2 z.2.1) (hw : th_wI (dC, dI) (wL cs ad q q2 oa) A s.heap z H locs) (hl : lv_has ls 8 [(0, .ref b), (1, .ref (q 99)), (2, .ref (q2 0)), (3, .ref oa), (4, .int (nI (6 * i)))])
    (hgo : ∀ (z1 : lSt) (H : Heap) (locs : List Loc) (ls : Array Slot) (c1 s1 : Nat), c1 ≤ cells + 83 → s1 ≤ slots + 2302 → Sim z1.1.2 z1.2.1 → th_wI (dC, dI) (wL cs ad q q2 oa) A s.heap z1 H locs → lv_has ls 8 [(0, .ref b), (1, .ref (q 99)), (2, .ref (q2 0)), (3, .ref oa), (4, .int (nI (6 * i)))] → W p l e R s m args below meth c H locs c1 s1 Q (F0 m 1126 ls [])) : W p l e R s m args below meth c H locs cells slots Q (F0 m 593 ls []) := by
  obtain ⟨C, hX, hbl, hbA, hL, hRf, hRl⟩ := id G
  have hx := C.1
  have hb := C.2.1
  refine lv_aload_n hx hb dL_law_593 rfl (lv_at hl 1 rfl) ?_
  refine la_arg (k := 1) G hw.2.2 (lv_at hl 0 rfl) (lv_at hl 4 rfl) (by omega) (by decide) dL_law_594 dL_law_595 dL_law_597 dL_law_598 dL_law_599 ?_
  refine la_arg (k := 2) G hw.2.2 (lv_at hl 0 rfl) (lv_at hl 4 rfl) (by omega) (by decide) dL_law_600 dL_law_601 dL_law_603 dL_law_604 dL_law_605 ?_
  refine la_arg (k := 3) G hw.2.2 (lv_at hl 0 rfl) (lv_at hl 4 rfl) (by omega) (by decide) dL_law_606 dL_law_607 dL_law_609 dL_law_610 dL_law_611 ?_
  refine th_callVi (As := [.int (xs (6 * i + 1)), .int (xs (6 * i + 2)), .int (xs (6 * i + 3))]) (rest := []) (u := z) (K := fun r z1 => M_alarm (xs (6 * i + 1)) (xs (6 * i + 2)) (xs (6 * i + 3)) z1.2.1 (fun r' m' => r' = r ∧ Sim z1.1.2 m')) C llX_alarm (fr_Ci (a := []) (c := wM cs q2 z.2.1 ++ [(oa, .inl (cs 2, (1, .inr (.inl z.2.2))))]) (W9 := wL cs ad q q2 oa) (f := fun x => ((z.1.1, x), z.2)) (w := wX cs ad q z.1.1 z.1.1) (xE_ok ad ak) (fun _ _ _ h => h) (fun _ => rfl) (fun _ _ h => h) (X_TH_alarm_c (si_alarm hS))) hw (wL_rX C.2.2.2.2.2.1 hw.1) rfl rfl ⟨by omega, by omega⟩ hl.1 (Nat.le_of_ble_eq_true rfl) ⟨by omega, by omega⟩ dL_law_612 (fun r u1 H locs hf hw => ?_)
  refine lv_aload_n hx hb dL_law_615 rfl (lv_at hl 2 rfl) ?_
  refine la_arg (k := 1) G hw.2.2 (lv_at hl 0 rfl) (lv_at hl 4 rfl) (by omega) (by decide) dL_law_616 dL_law_617 dL_law_619 dL_law_620 dL_law_621 ?_
  refine la_arg (k := 2) G hw.2.2 (lv_at hl 0 rfl) (lv_at hl 4 rfl) (by omega) (by decide) dL_law_622 dL_law_623 dL_law_625 dL_law_626 dL_law_627 ?_
  refine la_arg (k := 3) G hw.2.2 (lv_at hl 0 rfl) (lv_at hl 4 rfl) (by omega) (by decide) dL_law_628 dL_law_629 dL_law_631 dL_law_632 dL_law_633 ?_
  refine th_callVi (As := [.int (xs (6 * i + 1)), .int (xs (6 * i + 2)), .int (xs (6 * i + 3))]) (rest := [.int r]) (u := u1) (K := fun r' z2 => r' = r ∧ Sim z2.1.2 z2.2.1) C llM_alarm (fr_Ci (a := wXs cs ad q u1.1) (c := [(oa, .inl (cs 2, (1, .inr (.inl u1.2.2))))]) (W9 := wL cs ad q q2 oa) (f := fun m' => (u1.1, m', u1.2.2)) (w := wM cs q2) (xE_ok ad ak) (fun _ _ _ _ => trivial) (fun _ => rfl) (fun _ _ h => h) (M_alarm_c hf)) hw (wL_rM C.2.2.2.2.2.1 hw.1) rfl rfl ⟨by omega, by omega⟩ hl.1 (Nat.le_of_ble_eq_true rfl) ⟨by omega, by omega⟩ dL_law_634 (fun r1 u2 H locs hf hw => ?_)
  exact lv_icmp_eq (tgt := 1126) hx hb dL_law_637 (by decide) (fun _ => hgo u2 _ _ _ _ _ (by omega) (by omega) hf.2 hw hl) (fun hc => absurd hf.1.symm hc)
theorem llX_alarmed : th_LV RL RX11 88 yX11_alarmed cX11_alarmed 3 2 (some .int) := ⟨th_goodV (th_b4 106 rfl rfl) (th_b4 107 rfl rfl) (th_b4 108 rfl rfl) (th_b1 1 rfl rfl) (th_b4 109 rfl rfl), by decide +kernel⟩
theorem llM_alarmed : th_LV RL RX12 91 yX12_alarmed cX12_alarmed 4 2 (some .int) := ⟨th_goodV (th_b7 107 rfl rfl) (th_b7 108 rfl rfl) (th_b7 109 rfl rfl) (th_b1 15 rfl rfl) (th_b7 110 rfl rfl), by decide +kernel⟩
set_option maxHeartbeats 4000000 in
theorem lc_12 (hlt : l.stackTraces = false) (G : lw_G p s m args meth c dC dI cs ad ak A b L xs R) (hi : 6 * i + 6 ≤ L) (hc : cells + 83 ≤ R.cells) (hs : slots + 2302 ≤ R.slots) (hS : Sim z.1.2 z.2.1) (hw : th_wI (dC, dI) (wL cs ad q q2 oa) A s.heap z H locs) (hl : lv_has ls 8 [(0, .ref b), (1, .ref (q 99)), (2, .ref (q2 0)), (3, .ref oa), (4, .int (nI (6 * i)))])
    (hgo : ∀ (z1 : lSt) (H : Heap) (locs : List Loc) (ls : Array Slot) (c1 s1 : Nat), c1 ≤ cells + 83 → s1 ≤ slots + 2302 → Sim z1.1.2 z1.2.1 → th_wI (dC, dI) (wL cs ad q q2 oa) A s.heap z1 H locs → lv_has ls 8 [(0, .ref b), (1, .ref (q 99)), (2, .ref (q2 0)), (3, .ref oa), (4, .int (nI (6 * i)))] → W p l e R s m args below meth c H locs c1 s1 Q (F0 m 1126 ls [])) : W p l e R s m args below meth c H locs cells slots Q (F0 m 642 ls []) := by
  obtain ⟨C, hX, hbl, hbA, hL, hRf, hRl⟩ := id G
  have hx := C.1
  have hb := C.2.1
  refine lv_aload_n hx hb dL_law_642 rfl (lv_at hl 1 rfl) ?_
  refine la_arg (k := 1) G hw.2.2 (lv_at hl 0 rfl) (lv_at hl 4 rfl) (by omega) (by decide) dL_law_643 dL_law_644 dL_law_646 dL_law_647 dL_law_648 ?_
  refine la_arg (k := 2) G hw.2.2 (lv_at hl 0 rfl) (lv_at hl 4 rfl) (by omega) (by decide) dL_law_649 dL_law_650 dL_law_652 dL_law_653 dL_law_654 ?_
  refine th_callVi (As := [.int (xs (6 * i + 1)), .int (xs (6 * i + 2))]) (rest := []) (u := z) (K := fun r z1 => M_alarmed (xs (6 * i + 1)) (xs (6 * i + 2)) z1.2.1 (fun r' m' => r' = r ∧ Sim z1.1.2 m')) C llX_alarmed (fr_Ci (a := []) (c := wM cs q2 z.2.1 ++ [(oa, .inl (cs 2, (1, .inr (.inl z.2.2))))]) (W9 := wL cs ad q q2 oa) (f := fun x => ((z.1.1, x), z.2)) (w := wX cs ad q z.1.1 z.1.1) (xE_ok ad ak) (fun _ _ _ h => h) (fun _ => rfl) (fun _ _ h => h) (X_TH_alarmed_c (si_alarmed hS))) hw (wL_rX C.2.2.2.2.2.1 hw.1) rfl rfl ⟨by omega, by omega⟩ hl.1 (Nat.le_of_ble_eq_true rfl) ⟨by omega, by omega⟩ dL_law_655 (fun r u1 H locs hf hw => ?_)
  refine lv_aload_n hx hb dL_law_658 rfl (lv_at hl 2 rfl) ?_
  refine la_arg (k := 1) G hw.2.2 (lv_at hl 0 rfl) (lv_at hl 4 rfl) (by omega) (by decide) dL_law_659 dL_law_660 dL_law_662 dL_law_663 dL_law_664 ?_
  refine la_arg (k := 2) G hw.2.2 (lv_at hl 0 rfl) (lv_at hl 4 rfl) (by omega) (by decide) dL_law_665 dL_law_666 dL_law_668 dL_law_669 dL_law_670 ?_
  refine th_callVi (As := [.int (xs (6 * i + 1)), .int (xs (6 * i + 2))]) (rest := [.int r]) (u := u1) (K := fun r' z2 => r' = r ∧ Sim z2.1.2 z2.2.1) C llM_alarmed (fr_Ci (a := wXs cs ad q u1.1) (c := [(oa, .inl (cs 2, (1, .inr (.inl u1.2.2))))]) (W9 := wL cs ad q q2 oa) (f := fun m' => (u1.1, m', u1.2.2)) (w := wM cs q2) (xE_ok ad ak) (fun _ _ _ _ => trivial) (fun _ => rfl) (fun _ _ h => h) (M_alarmed_c hf)) hw (wL_rM C.2.2.2.2.2.1 hw.1) rfl rfl ⟨by omega, by omega⟩ hl.1 (Nat.le_of_ble_eq_true rfl) ⟨by omega, by omega⟩ dL_law_671 (fun r1 u2 H locs hf hw => ?_)
  exact lv_icmp_eq (tgt := 1126) hx hb dL_law_674 (by decide) (fun _ => hgo u2 _ _ _ _ _ (by omega) (by omega) hf.2 hw hl) (fun hc => absurd hf.1.symm hc)
theorem llX_tellings : th_LV RL RX11 92 yX11_tellings cX11_tellings 3 0 (some .long) := ⟨th_goodV (th_b4 115 rfl rfl) (th_b4 116 rfl rfl) (th_b4 117 rfl rfl) (th_b1 1 rfl rfl) (th_b4 118 rfl rfl), by decide +kernel⟩
theorem llM_tellings : th_LV RL RX12 96 yX12_tellings cX12_tellings 8 0 (some .long) := ⟨th_goodV (th_b7 111 rfl rfl) (th_b7 112 rfl rfl) (th_b7 113 rfl rfl) (th_b1 15 rfl rfl) (th_b7 114 rfl rfl), by decide +kernel⟩
set_option maxHeartbeats 4000000 in
theorem lc_13 (hlt : l.stackTraces = false) (G : lw_G p s m args meth c dC dI cs ad ak A b L xs R) (hi : 6 * i + 6 ≤ L) (hc : cells + 83 ≤ R.cells) (hs : slots + 2302 ≤ R.slots) (hS : Sim z.1.2 z.2.1) (hw : th_wI (dC, dI) (wL cs ad q q2 oa) A s.heap z H locs) (hl : lv_has ls 8 [(0, .ref b), (1, .ref (q 99)), (2, .ref (q2 0)), (3, .ref oa), (4, .int (nI (6 * i)))])
    (hgo : ∀ (z1 : lSt) (H : Heap) (locs : List Loc) (ls : Array Slot) (c1 s1 : Nat), c1 ≤ cells + 83 → s1 ≤ slots + 2302 → Sim z1.1.2 z1.2.1 → th_wI (dC, dI) (wL cs ad q q2 oa) A s.heap z1 H locs → lv_has ls 8 [(0, .ref b), (1, .ref (q 99)), (2, .ref (q2 0)), (3, .ref oa), (4, .int (nI (6 * i)))] → W p l e R s m args below meth c H locs c1 s1 Q (F0 m 1126 ls [])) : W p l e R s m args below meth c H locs cells slots Q (F0 m 679 ls []) := by
  obtain ⟨C, hX, hbl, hbA, hL, hRf, hRl⟩ := id G
  have hx := C.1
  have hb := C.2.1
  refine lv_aload_n hx hb dL_law_679 rfl (lv_at hl 1 rfl) ?_
  refine th_callVl (As := []) (rest := []) (u := z) (K := fun r z1 => M_tellings  z1.2.1 (fun r' m' => r' = r ∧ Sim z1.1.2 m')) C llX_tellings (fr_Cl (a := []) (c := wM cs q2 z.2.1 ++ [(oa, .inl (cs 2, (1, .inr (.inl z.2.2))))]) (W9 := wL cs ad q q2 oa) (f := fun x => (x, z.2)) (w := wXs cs ad q) (xE_ok ad ak) (fun _ _ _ h => h) (fun _ => rfl) (fun _ _ h => h) (X_TH_tellings_c (si_tellings hS))) hw (wL_rX C.2.2.2.2.2.1 hw.1) rfl rfl ⟨by omega, by omega⟩ hl.1 (Nat.le_of_ble_eq_true rfl) ⟨by omega, by omega⟩ dL_law_680 (fun r u1 H locs hf hw => ?_)
  refine lv_aload_n hx hb dL_law_683 rfl (lv_at hl 2 rfl) ?_
  refine th_callVl (As := []) (rest := [.long r]) (u := u1) (K := fun r' z2 => r' = r ∧ Sim z2.1.2 z2.2.1) C llM_tellings (fr_Cl (a := wXs cs ad q u1.1) (c := [(oa, .inl (cs 2, (1, .inr (.inl u1.2.2))))]) (W9 := wL cs ad q q2 oa) (f := fun m' => (u1.1, m', u1.2.2)) (w := wM cs q2) (xE_ok ad ak) (fun _ _ _ _ => trivial) (fun _ => rfl) (fun _ _ h => h) (M_tellings_c hf)) hw (wL_rM C.2.2.2.2.2.1 hw.1) rfl rfl ⟨by omega, by omega⟩ hl.1 (Nat.le_of_ble_eq_true rfl) ⟨by omega, by omega⟩ dL_law_684 (fun r1 u2 H locs hf hw => ?_)
  refine W.lcmp hx hb dL_law_687 ?_
  exact lv_if_eq (tgt := 1126) hx hb dL_law_688 (by decide) (fun _ => hgo u2 _ _ _ _ _ (by omega) (by omega) hf.2 hw hl) (fun hc => absurd (lg_eq hf.1.symm) hc)
theorem llH_mayFeel : GoodIn th_BIG (va_wsS RL 97 yL_mayFeel (Cond.codeWith yL_mayFeel cL_mayFeel 5 (some .int) [(0, 10, 13, 13)] :: th_BIG)) ∧ (yL_mayFeel.cls ≠ "java/lang/invoke/MethodHandle" ∧ yL_mayFeel.cls ≠ "java/lang/invoke/VarHandle" ∧ (parseMethodDescriptor yL_mayFeel.desc).map (fun d => d.parameters.length) = some 4) := ⟨th_goodW (th_b5 136 rfl rfl) (th_b5 137 rfl rfl) (th_b1 0 rfl rfl) (th_b5 138 rfl rfl), by decide +kernel⟩
theorem llM_mayFeel : th_LV RL RX12 100 yX12_mayFeel cX12_mayFeel 3 2 (some .int) := ⟨th_goodV (th_b7 133 rfl rfl) (th_b7 134 rfl rfl) (th_b7 135 rfl rfl) (th_b1 15 rfl rfl) (th_b7 136 rfl rfl), by decide +kernel⟩
set_option maxHeartbeats 4000000 in
theorem lc_14 (hlt : l.stackTraces = false) (G : lw_G p s m args meth c dC dI cs ad ak A b L xs R) (hi : 6 * i + 6 ≤ L) (hc : cells + 83 ≤ R.cells) (hs : slots + 2302 ≤ R.slots) (hS : Sim z.1.2 z.2.1) (hw : th_wI (dC, dI) (wL cs ad q q2 oa) A s.heap z H locs) (hl : lv_has ls 8 [(0, .ref b), (1, .ref (q 99)), (2, .ref (q2 0)), (3, .ref oa), (4, .int (nI (6 * i)))])
    (hgo : ∀ (z1 : lSt) (H : Heap) (locs : List Loc) (ls : Array Slot) (c1 s1 : Nat), c1 ≤ cells + 83 → s1 ≤ slots + 2302 → Sim z1.1.2 z1.2.1 → th_wI (dC, dI) (wL cs ad q q2 oa) A s.heap z1 H locs → lv_has ls 8 [(0, .ref b), (1, .ref (q 99)), (2, .ref (q2 0)), (3, .ref oa), (4, .int (nI (6 * i)))] → W p l e R s m args below meth c H locs c1 s1 Q (F0 m 1126 ls [])) : W p l e R s m args below meth c H locs cells slots Q (F0 m 693 ls []) := by
  obtain ⟨C, hX, hbl, hbA, hL, hRf, hRl⟩ := id G
  have hx := C.1
  have hb := C.2.1
  refine lv_aload_n hx hb dL_law_693 rfl (lv_at hl 1 rfl) ?_
  refine la_arg (k := 1) G hw.2.2 (lv_at hl 0 rfl) (lv_at hl 4 rfl) (by omega) (by decide) dL_law_694 dL_law_695 dL_law_697 dL_law_698 dL_law_699 ?_
  refine la_arg (k := 2) G hw.2.2 (lv_at hl 0 rfl) (lv_at hl 4 rfl) (by omega) (by decide) dL_law_700 dL_law_701 dL_law_703 dL_law_704 dL_law_705 ?_
  refine lv_aload_n hx hb dL_law_706 rfl (lv_at hl 3 rfl) ?_
  refine th_callSW (As := [.ref (q 99), .int (xs (6 * i + 1)), .int (xs (6 * i + 2)), .ref oa]) (rest := []) (u := z) (K := fun k z1 => (k = 1 ∧ M_mayFeel (xs (6 * i + 1)) (xs (6 * i + 2)) z1.2.1 (fun _ m' => m'.1 0 = 1 ∧ Sim z1.1.2 m')) ∨ (k = 0 ∧ ∃ r : Int32, z1.2.2 0 = r.toInt64 ∧ M_mayFeel (xs (6 * i + 1)) (xs (6 * i + 2)) z1.2.1 (fun r' m' => m'.1 0 = 0 ∧ r' = r ∧ Sim z1.1.2 m'))) C llH_mayFeel (L_mayFeel_c hlt (si_mayFeel hS) (fun x v h => Or.inl ⟨rfl, h⟩) (fun r x v h => Or.inr ⟨rfl, r, rfl, h⟩)) hw rfl rfl ⟨by omega, by omega⟩ hl.1 (Nat.le_of_ble_eq_true rfl) ⟨by omega, by omega⟩ dL_law_707 (fun k u1 H locs hf hw => ?_)
  rcases hf with ⟨rfl, hf⟩ | ⟨rfl, r, hr, hf⟩
  · refine lv_istore (lv' := (5, .int 1) :: [(0, .ref b), (1, .ref (q 99)), (2, .ref (q2 0)), (3, .ref oa), (4, .int (nI (6 * i)))]) hx hb dL_law_710 hl (by decide) rfl (fun ls hl => ?_)
    refine lv_aload_n hx hb dL_law_712 rfl (lv_at hl 3 rfl) ?_
    refine la_arg (k := 1) G hw.2.2 (lv_at hl 1 rfl) (lv_at hl 5 rfl) (by omega) (by decide) dL_law_713 dL_law_714 dL_law_716 dL_law_717 dL_law_718 ?_
    refine la_arg (k := 2) G hw.2.2 (lv_at hl 1 rfl) (lv_at hl 5 rfl) (by omega) (by decide) dL_law_719 dL_law_720 dL_law_722 dL_law_723 dL_law_724 ?_
    refine th_callVi (As := [.int (xs (6 * i + 1)), .int (xs (6 * i + 2))]) (rest := []) (u := u1) (K := fun r1 z2 => z2.2.1.1 0 = 1 ∧ Sim z2.1.2 z2.2.1) C llM_mayFeel (fr_Ci (a := wXs cs ad q u1.1) (c := [(oa, .inl (cs 2, (1, .inr (.inl u1.2.2))))]) (W9 := wL cs ad q q2 oa) (f := fun m' => (u1.1, m', u1.2.2)) (w := wM cs q2) (xE_ok ad ak) (fun _ _ _ _ => trivial) (fun _ => rfl) (fun _ _ h => h) (M_mayFeel_c hf)) hw (wL_rM C.2.2.2.2.2.1 hw.1) rfl rfl ⟨by omega, by omega⟩ hl.1 (Nat.le_of_ble_eq_true rfl) ⟨by omega, by omega⟩ dL_law_725 (fun r1 u2 H locs hf hw => ?_)
    refine lv_istore (lv' := (6, .int r1) :: (5, .int 1) :: [(0, .ref b), (1, .ref (q 99)), (2, .ref (q2 0)), (3, .ref oa), (4, .int (nI (6 * i)))]) hx hb dL_law_728 hl (by decide) rfl (fun ls hl => ?_)
    refine lv_aload_n hx hb dL_law_730 rfl (lv_at hl 4 rfl) ?_
    refine th_callVi (As := []) (rest := []) (u := u2) (K := fun r3 z3 => r3 = 1 ∧ Sim z3.1.2 z3.2.1) C llM_thrown (fr_Ci (a := wXs cs ad q u2.1) (c := [(oa, .inl (cs 2, (1, .inr (.inl u2.2.2))))]) (W9 := wL cs ad q q2 oa) (f := fun m' => (u2.1, m', u2.2.2)) (w := wM cs q2) (K := fun r3 m' => r3 = 1 ∧ Sim u2.1.2 m') (xE_ok ad ak) (fun _ _ _ _ => trivial) (fun _ => rfl) (fun _ _ h => h) (M_thrown_c (show M_thrown u2.2.1 (fun r3 m' => r3 = 1 ∧ Sim u2.1.2 m') from ⟨hf.1, hf.2⟩))) hw (wL_rM C.2.2.2.2.2.1 hw.1) rfl rfl ⟨by omega, by omega⟩ hl.1 (Nat.le_of_ble_eq_true rfl) ⟨by omega, by omega⟩ dL_law_731 (fun r3 u3 H locs hf3 hw => ?_)
    refine lv_iload hx hb dL_law_734 (lv_at hl 1 rfl) ?_
    refine lv_icmp_eq (tgt := 741) hx hb dL_law_736 (by decide) (fun _ => ?_) (fun hc => absurd hf3.1 hc)
    refine lv_iload hx hb dL_law_741 (lv_at hl 1 rfl) ?_
    refine lv_if_ne (tgt := 758) hx hb dL_law_743 (by decide) (fun _ => ?_) (fun hc => absurd hc (by decide))
    refine lv_goto (tgt := 1126) hx hb dL_law_758 (by decide) ?_
    exact hgo u3 _ _ _ _ _ (by omega) (by omega) hf3.2 hw (lv_sub hl [2, 3, 4, 5, 6] rfl)
  · refine lv_istore (lv' := (5, .int 0) :: [(0, .ref b), (1, .ref (q 99)), (2, .ref (q2 0)), (3, .ref oa), (4, .int (nI (6 * i)))]) hx hb dL_law_710 hl (by decide) rfl (fun ls hl => ?_)
    refine lv_aload_n hx hb dL_law_712 rfl (lv_at hl 3 rfl) ?_
    refine la_arg (k := 1) G hw.2.2 (lv_at hl 1 rfl) (lv_at hl 5 rfl) (by omega) (by decide) dL_law_713 dL_law_714 dL_law_716 dL_law_717 dL_law_718 ?_
    refine la_arg (k := 2) G hw.2.2 (lv_at hl 1 rfl) (lv_at hl 5 rfl) (by omega) (by decide) dL_law_719 dL_law_720 dL_law_722 dL_law_723 dL_law_724 ?_
    refine th_callVi (As := [.int (xs (6 * i + 1)), .int (xs (6 * i + 2))]) (rest := []) (u := u1) (K := fun r1 z2 => z2.2.1.1 0 = 0 ∧ r1 = r ∧ Sim z2.1.2 z2.2.1 ∧ z2.2.2 = u1.2.2) C llM_mayFeel (fr_Ci (a := wXs cs ad q u1.1) (c := [(oa, .inl (cs 2, (1, .inr (.inl u1.2.2))))]) (W9 := wL cs ad q q2 oa) (f := fun m' => (u1.1, m', u1.2.2)) (w := wM cs q2) (xE_ok ad ak) (fun _ _ _ _ => trivial) (fun _ => rfl) (fun _ _ h => ⟨h.1, h.2.1, h.2.2, rfl⟩) (M_mayFeel_c hf)) hw (wL_rM C.2.2.2.2.2.1 hw.1) rfl rfl ⟨by omega, by omega⟩ hl.1 (Nat.le_of_ble_eq_true rfl) ⟨by omega, by omega⟩ dL_law_725 (fun r1 u2 H locs hf hw => ?_)
    refine lv_istore (lv' := (6, .int r1) :: (5, .int 0) :: [(0, .ref b), (1, .ref (q 99)), (2, .ref (q2 0)), (3, .ref oa), (4, .int (nI (6 * i)))]) hx hb dL_law_728 hl (by decide) rfl (fun ls hl => ?_)
    refine lv_aload_n hx hb dL_law_730 rfl (lv_at hl 4 rfl) ?_
    refine th_callVi (As := []) (rest := []) (u := u2) (K := fun r3 z3 => r3 = 0 ∧ Sim z3.1.2 z3.2.1 ∧ z3.2.2 = u1.2.2) C llM_thrown (fr_Ci (a := wXs cs ad q u2.1) (c := [(oa, .inl (cs 2, (1, .inr (.inl u2.2.2))))]) (W9 := wL cs ad q q2 oa) (f := fun m' => (u2.1, m', u2.2.2)) (w := wM cs q2) (K := fun r3 m' => r3 = 0 ∧ Sim u2.1.2 m') (xE_ok ad ak) (fun _ _ _ _ => trivial) (fun _ => rfl) (fun _ _ h => ⟨h.1, h.2, hf.2.2.2⟩) (M_thrown_c (show M_thrown u2.2.1 (fun r3 m' => r3 = 0 ∧ Sim u2.1.2 m') from ⟨hf.1, hf.2.2.1⟩))) hw (wL_rM C.2.2.2.2.2.1 hw.1) rfl rfl ⟨by omega, by omega⟩ hl.1 (Nat.le_of_ble_eq_true rfl) ⟨by omega, by omega⟩ dL_law_731 (fun r3 u3 H locs hf3 hw => ?_)
    refine lv_iload hx hb dL_law_734 (lv_at hl 1 rfl) ?_
    refine lv_icmp_eq (tgt := 741) hx hb dL_law_736 (by decide) (fun _ => ?_) (fun hc => absurd hf3.1 hc)
    refine lv_iload hx hb dL_law_741 (lv_at hl 1 rfl) ?_
    refine lv_if_ne (tgt := 758) hx hb dL_law_743 (by decide) (fun hc => absurd rfl hc) (fun _ => ?_)
    refine lv_aload_n hx hb dL_law_746 rfl (lv_at hl 5 rfl) ?_
    refine lv_iconst (v := (0 : Int32)) hx hb dL_law_747 (by decide) ?_
    refine va_lald (D := (dC, dI)) (f := u3.2.2) (n := 1) (cA := cs 2) hx hb C.2.2.2.2.2.1 hw.1 (wXs cs ad q u3.1 ++ wM cs q2 u3.2.1).length 2 wL_at rfl (by unfold vp_in; decide) dL_law_748 ?_
    refine lv_iload hx hb dL_law_749 (lv_at hl 0 rfl) ?_
    refine lv_i2l hx hb dL_law_751 rfl ?_
    refine W.lcmp hx hb dL_law_752 ?_
    refine lv_if_eq (tgt := 758) hx hb dL_law_753 (by decide) (fun _ => ?_) (fun hc => absurd (lg_eq (by rw [hf3.2.2, hf.2.1]; exact hr)) hc)
    refine lv_goto (tgt := 1126) hx hb dL_law_758 (by decide) ?_
    exact hgo u3 _ _ _ _ _ (by omega) (by omega) hf3.2.1 hw (lv_sub hl [2, 3, 4, 5, 6] rfl)
theorem llX_shape : th_LV RL RX11 101 yX11_shape cX11_shape 3 1 (some .boolean) := ⟨th_goodV (th_b4 162 rfl rfl) (th_b4 163 rfl rfl) (th_b4 164 rfl rfl) (th_b1 1 rfl rfl) (th_b4 165 rfl rfl), by decide +kernel⟩
theorem llM_shape : th_LV RL RX12 104 yX12_shape cX12_shape 3 1 (some .boolean) := ⟨th_goodV (th_b7 137 rfl rfl) (th_b7 138 rfl rfl) (th_b7 139 rfl rfl) (th_b1 15 rfl rfl) (th_b7 140 rfl rfl), by decide +kernel⟩
set_option maxHeartbeats 4000000 in
theorem lc_15 (hlt : l.stackTraces = false) (G : lw_G p s m args meth c dC dI cs ad ak A b L xs R) (hi : 6 * i + 6 ≤ L) (hc : cells + 83 ≤ R.cells) (hs : slots + 2302 ≤ R.slots) (hS : Sim z.1.2 z.2.1) (hw : th_wI (dC, dI) (wL cs ad q q2 oa) A s.heap z H locs) (hl : lv_has ls 8 [(0, .ref b), (1, .ref (q 99)), (2, .ref (q2 0)), (3, .ref oa), (4, .int (nI (6 * i)))])
    (hgo : ∀ (z1 : lSt) (H : Heap) (locs : List Loc) (ls : Array Slot) (c1 s1 : Nat), c1 ≤ cells + 83 → s1 ≤ slots + 2302 → Sim z1.1.2 z1.2.1 → th_wI (dC, dI) (wL cs ad q q2 oa) A s.heap z1 H locs → lv_has ls 8 [(0, .ref b), (1, .ref (q 99)), (2, .ref (q2 0)), (3, .ref oa), (4, .int (nI (6 * i)))] → W p l e R s m args below meth c H locs c1 s1 Q (F0 m 1126 ls [])) : W p l e R s m args below meth c H locs cells slots Q (F0 m 761 ls []) := by
  obtain ⟨C, hX, hbl, hbA, hL, hRf, hRl⟩ := id G
  have hx := C.1
  have hb := C.2.1
  refine lv_aload_n hx hb dL_law_761 rfl (lv_at hl 1 rfl) ?_
  refine la_arg (k := 1) G hw.2.2 (lv_at hl 0 rfl) (lv_at hl 4 rfl) (by omega) (by decide) dL_law_762 dL_law_763 dL_law_765 dL_law_766 dL_law_767 ?_
  refine th_callVi (As := [.int (xs (6 * i + 1))]) (rest := []) (u := z) (K := fun r z1 => M_shape (xs (6 * i + 1)) z1.2.1 (fun r' m' => r' = r ∧ Sim z1.1.2 m')) C llX_shape (fr_Ci (a := []) (c := wM cs q2 z.2.1 ++ [(oa, .inl (cs 2, (1, .inr (.inl z.2.2))))]) (W9 := wL cs ad q q2 oa) (f := fun x => ((z.1.1, x), z.2)) (w := wX cs ad q z.1.1 z.1.1) (xE_ok ad ak) (fun _ _ _ h => h) (fun _ => rfl) (fun _ _ h => h) (X_TH_shape_c (si_shape hS))) hw (wL_rX C.2.2.2.2.2.1 hw.1) rfl rfl ⟨by omega, by omega⟩ hl.1 (Nat.le_of_ble_eq_true rfl) ⟨by omega, by omega⟩ dL_law_768 (fun r u1 H locs hf hw => ?_)
  refine lv_aload_n hx hb dL_law_771 rfl (lv_at hl 2 rfl) ?_
  refine la_arg (k := 1) G hw.2.2 (lv_at hl 0 rfl) (lv_at hl 4 rfl) (by omega) (by decide) dL_law_772 dL_law_773 dL_law_775 dL_law_776 dL_law_777 ?_
  refine th_callVi (As := [.int (xs (6 * i + 1))]) (rest := [.int r]) (u := u1) (K := fun r' z2 => r' = r ∧ Sim z2.1.2 z2.2.1) C llM_shape (fr_Ci (a := wXs cs ad q u1.1) (c := [(oa, .inl (cs 2, (1, .inr (.inl u1.2.2))))]) (W9 := wL cs ad q q2 oa) (f := fun m' => (u1.1, m', u1.2.2)) (w := wM cs q2) (xE_ok ad ak) (fun _ _ _ _ => trivial) (fun _ => rfl) (fun _ _ h => h) (M_shape_c hf)) hw (wL_rM C.2.2.2.2.2.1 hw.1) rfl rfl ⟨by omega, by omega⟩ hl.1 (Nat.le_of_ble_eq_true rfl) ⟨by omega, by omega⟩ dL_law_778 (fun r1 u2 H locs hf hw => ?_)
  exact lv_icmp_eq (tgt := 1126) hx hb dL_law_781 (by decide) (fun _ => hgo u2 _ _ _ _ _ (by omega) (by omega) hf.2 hw hl) (fun hc => absurd hf.1.symm hc)
theorem llX_explain : th_LV RL RX11 105 yX11_explain cX11_explain 2 0 (some .int) := ⟨th_goodV (th_b4 172 rfl rfl) (th_b4 173 rfl rfl) (th_b4 174 rfl rfl) (th_b1 1 rfl rfl) (th_b4 175 rfl rfl), by decide +kernel⟩
theorem llM_explain : th_LV RL RX12 108 yX12_explain cX12_explain 5 0 (some .int) := ⟨th_goodV (th_b7 141 rfl rfl) (th_b7 142 rfl rfl) (th_b7 143 rfl rfl) (th_b1 15 rfl rfl) (th_b7 144 rfl rfl), by decide +kernel⟩
set_option maxHeartbeats 4000000 in
theorem lc_16 (hlt : l.stackTraces = false) (G : lw_G p s m args meth c dC dI cs ad ak A b L xs R) (hi : 6 * i + 6 ≤ L) (hc : cells + 83 ≤ R.cells) (hs : slots + 2302 ≤ R.slots) (hS : Sim z.1.2 z.2.1) (hw : th_wI (dC, dI) (wL cs ad q q2 oa) A s.heap z H locs) (hl : lv_has ls 8 [(0, .ref b), (1, .ref (q 99)), (2, .ref (q2 0)), (3, .ref oa), (4, .int (nI (6 * i)))])
    (hgo : ∀ (z1 : lSt) (H : Heap) (locs : List Loc) (ls : Array Slot) (c1 s1 : Nat), c1 ≤ cells + 83 → s1 ≤ slots + 2302 → Sim z1.1.2 z1.2.1 → th_wI (dC, dI) (wL cs ad q q2 oa) A s.heap z1 H locs → lv_has ls 8 [(0, .ref b), (1, .ref (q 99)), (2, .ref (q2 0)), (3, .ref oa), (4, .int (nI (6 * i)))] → W p l e R s m args below meth c H locs c1 s1 Q (F0 m 1126 ls [])) : W p l e R s m args below meth c H locs cells slots Q (F0 m 786 ls []) := by
  obtain ⟨C, hX, hbl, hbA, hL, hRf, hRl⟩ := id G
  have hx := C.1
  have hb := C.2.1
  refine lv_aload_n hx hb dL_law_786 rfl (lv_at hl 1 rfl) ?_
  refine th_callVi (As := []) (rest := []) (u := z) (K := fun r z1 => M_explain  z1.2.1 (fun r' m' => r' = r ∧ Sim z1.1.2 m')) C llX_explain (fr_Ci (a := []) (c := wM cs q2 z.2.1 ++ [(oa, .inl (cs 2, (1, .inr (.inl z.2.2))))]) (W9 := wL cs ad q q2 oa) (f := fun x => ((z.1.1, x), z.2)) (w := wX cs ad q z.1.1 z.1.1) (xE_ok ad ak) (fun _ _ _ h => h) (fun _ => rfl) (fun _ _ h => h) (X_TH_explain_c (si_explain hS))) hw (wL_rX C.2.2.2.2.2.1 hw.1) rfl rfl ⟨by omega, by omega⟩ hl.1 (Nat.le_of_ble_eq_true rfl) ⟨by omega, by omega⟩ dL_law_787 (fun r u1 H locs hf hw => ?_)
  refine lv_aload_n hx hb dL_law_790 rfl (lv_at hl 2 rfl) ?_
  refine th_callVi (As := []) (rest := [.int r]) (u := u1) (K := fun r' z2 => r' = r ∧ Sim z2.1.2 z2.2.1) C llM_explain (fr_Ci (a := wXs cs ad q u1.1) (c := [(oa, .inl (cs 2, (1, .inr (.inl u1.2.2))))]) (W9 := wL cs ad q q2 oa) (f := fun m' => (u1.1, m', u1.2.2)) (w := wM cs q2) (xE_ok ad ak) (fun _ _ _ _ => trivial) (fun _ => rfl) (fun _ _ h => h) (M_explain_c hf)) hw (wL_rM C.2.2.2.2.2.1 hw.1) rfl rfl ⟨by omega, by omega⟩ hl.1 (Nat.le_of_ble_eq_true rfl) ⟨by omega, by omega⟩ dL_law_791 (fun r1 u2 H locs hf hw => ?_)
  exact lv_icmp_eq (tgt := 1126) hx hb dL_law_794 (by decide) (fun _ => hgo u2 _ _ _ _ _ (by omega) (by omega) hf.2 hw hl) (fun hc => absurd hf.1.symm hc)
theorem llX_event : th_LV RL RX11 109 yX11_event cX11_event 3 2 (some .int) := ⟨th_goodV (th_b4 199 rfl rfl) (th_b4 200 rfl rfl) (th_b4 201 rfl rfl) (th_b1 1 rfl rfl) (th_b4 202 rfl rfl), by decide +kernel⟩
theorem llM_event : th_LV RL RX12 112 yX12_event cX12_event 3 2 (some .int) := ⟨th_goodV (th_b7 153 rfl rfl) (th_b7 154 rfl rfl) (th_b7 155 rfl rfl) (th_b1 15 rfl rfl) (th_b7 156 rfl rfl), by decide +kernel⟩
set_option maxHeartbeats 4000000 in
theorem lc_17 (hlt : l.stackTraces = false) (G : lw_G p s m args meth c dC dI cs ad ak A b L xs R) (hi : 6 * i + 6 ≤ L) (hc : cells + 83 ≤ R.cells) (hs : slots + 2302 ≤ R.slots) (hS : Sim z.1.2 z.2.1) (hw : th_wI (dC, dI) (wL cs ad q q2 oa) A s.heap z H locs) (hl : lv_has ls 8 [(0, .ref b), (1, .ref (q 99)), (2, .ref (q2 0)), (3, .ref oa), (4, .int (nI (6 * i)))])
    (hgo : ∀ (z1 : lSt) (H : Heap) (locs : List Loc) (ls : Array Slot) (c1 s1 : Nat), c1 ≤ cells + 83 → s1 ≤ slots + 2302 → Sim z1.1.2 z1.2.1 → th_wI (dC, dI) (wL cs ad q q2 oa) A s.heap z1 H locs → lv_has ls 8 [(0, .ref b), (1, .ref (q 99)), (2, .ref (q2 0)), (3, .ref oa), (4, .int (nI (6 * i)))] → W p l e R s m args below meth c H locs c1 s1 Q (F0 m 1126 ls [])) : W p l e R s m args below meth c H locs cells slots Q (F0 m 799 ls []) := by
  obtain ⟨C, hX, hbl, hbA, hL, hRf, hRl⟩ := id G
  have hx := C.1
  have hb := C.2.1
  refine lv_aload_n hx hb dL_law_799 rfl (lv_at hl 1 rfl) ?_
  refine la_arg (k := 1) G hw.2.2 (lv_at hl 0 rfl) (lv_at hl 4 rfl) (by omega) (by decide) dL_law_800 dL_law_801 dL_law_803 dL_law_804 dL_law_805 ?_
  refine la_arg (k := 2) G hw.2.2 (lv_at hl 0 rfl) (lv_at hl 4 rfl) (by omega) (by decide) dL_law_806 dL_law_807 dL_law_809 dL_law_810 dL_law_811 ?_
  refine th_callVi (As := [.int (xs (6 * i + 1)), .int (xs (6 * i + 2))]) (rest := []) (u := z) (K := fun r z1 => M_event (xs (6 * i + 1)) (xs (6 * i + 2)) z1.2.1 (fun r' m' => r' = r ∧ Sim z1.1.2 m')) C llX_event (fr_Ci (a := []) (c := wM cs q2 z.2.1 ++ [(oa, .inl (cs 2, (1, .inr (.inl z.2.2))))]) (W9 := wL cs ad q q2 oa) (f := fun x => ((z.1.1, x), z.2)) (w := wX cs ad q z.1.1 z.1.1) (xE_ok ad ak) (fun _ _ _ h => h) (fun _ => rfl) (fun _ _ h => h) (X_TH_event_c (si_event hS))) hw (wL_rX C.2.2.2.2.2.1 hw.1) rfl rfl ⟨by omega, by omega⟩ hl.1 (Nat.le_of_ble_eq_true rfl) ⟨by omega, by omega⟩ dL_law_812 (fun r u1 H locs hf hw => ?_)
  refine lv_aload_n hx hb dL_law_815 rfl (lv_at hl 2 rfl) ?_
  refine la_arg (k := 1) G hw.2.2 (lv_at hl 0 rfl) (lv_at hl 4 rfl) (by omega) (by decide) dL_law_816 dL_law_817 dL_law_819 dL_law_820 dL_law_821 ?_
  refine la_arg (k := 2) G hw.2.2 (lv_at hl 0 rfl) (lv_at hl 4 rfl) (by omega) (by decide) dL_law_822 dL_law_823 dL_law_825 dL_law_826 dL_law_827 ?_
  refine th_callVi (As := [.int (xs (6 * i + 1)), .int (xs (6 * i + 2))]) (rest := [.int r]) (u := u1) (K := fun r' z2 => r' = r ∧ Sim z2.1.2 z2.2.1) C llM_event (fr_Ci (a := wXs cs ad q u1.1) (c := [(oa, .inl (cs 2, (1, .inr (.inl u1.2.2))))]) (W9 := wL cs ad q q2 oa) (f := fun m' => (u1.1, m', u1.2.2)) (w := wM cs q2) (xE_ok ad ak) (fun _ _ _ _ => trivial) (fun _ => rfl) (fun _ _ h => h) (M_event_c hf)) hw (wL_rM C.2.2.2.2.2.1 hw.1) rfl rfl ⟨by omega, by omega⟩ hl.1 (Nat.le_of_ble_eq_true rfl) ⟨by omega, by omega⟩ dL_law_828 (fun r1 u2 H locs hf hw => ?_)
  exact lv_icmp_eq (tgt := 1126) hx hb dL_law_831 (by decide) (fun _ => hgo u2 _ _ _ _ _ (by omega) (by omega) hf.2 hw hl) (fun hc => absurd hf.1.symm hc)
theorem llX_walk : th_LV RL RX11 113 yX11_walk cX11_walk 6 4 (some .int) := ⟨th_goodV (th_b4 203 rfl rfl) (th_b4 204 rfl rfl) (th_b4 205 rfl rfl) (th_b1 1 rfl rfl) (th_b4 206 rfl rfl), by decide +kernel⟩
theorem llM_walk : th_LV RL RX12 116 yX12_walk cX12_walk 10 4 (some .int) := ⟨th_goodV (th_b7 157 rfl rfl) (th_b7 158 rfl rfl) (th_b7 159 rfl rfl) (th_b1 15 rfl rfl) (th_b7 160 rfl rfl), by decide +kernel⟩
set_option maxHeartbeats 4000000 in
theorem lc_18 (hlt : l.stackTraces = false) (G : lw_G p s m args meth c dC dI cs ad ak A b L xs R) (hi : 6 * i + 6 ≤ L) (hc : cells + 83 ≤ R.cells) (hs : slots + 2302 ≤ R.slots) (hS : Sim z.1.2 z.2.1) (hw : th_wI (dC, dI) (wL cs ad q q2 oa) A s.heap z H locs) (hl : lv_has ls 8 [(0, .ref b), (1, .ref (q 99)), (2, .ref (q2 0)), (3, .ref oa), (4, .int (nI (6 * i)))])
    (hgo : ∀ (z1 : lSt) (H : Heap) (locs : List Loc) (ls : Array Slot) (c1 s1 : Nat), c1 ≤ cells + 83 → s1 ≤ slots + 2302 → Sim z1.1.2 z1.2.1 → th_wI (dC, dI) (wL cs ad q q2 oa) A s.heap z1 H locs → lv_has ls 8 [(0, .ref b), (1, .ref (q 99)), (2, .ref (q2 0)), (3, .ref oa), (4, .int (nI (6 * i)))] → W p l e R s m args below meth c H locs c1 s1 Q (F0 m 1126 ls [])) : W p l e R s m args below meth c H locs cells slots Q (F0 m 836 ls []) := by
  obtain ⟨C, hX, hbl, hbA, hL, hRf, hRl⟩ := id G
  have hx := C.1
  have hb := C.2.1
  refine lv_aload_n hx hb dL_law_836 rfl (lv_at hl 1 rfl) ?_
  refine la_arg (k := 1) G hw.2.2 (lv_at hl 0 rfl) (lv_at hl 4 rfl) (by omega) (by decide) dL_law_837 dL_law_838 dL_law_840 dL_law_841 dL_law_842 ?_
  refine la_arg (k := 2) G hw.2.2 (lv_at hl 0 rfl) (lv_at hl 4 rfl) (by omega) (by decide) dL_law_843 dL_law_844 dL_law_846 dL_law_847 dL_law_848 ?_
  refine la_arg (k := 3) G hw.2.2 (lv_at hl 0 rfl) (lv_at hl 4 rfl) (by omega) (by decide) dL_law_849 dL_law_850 dL_law_852 dL_law_853 dL_law_854 ?_
  refine la_arg (k := 4) G hw.2.2 (lv_at hl 0 rfl) (lv_at hl 4 rfl) (by omega) (by decide) dL_law_855 dL_law_856 dL_law_858 dL_law_859 dL_law_860 ?_
  refine th_callVi (As := [.int (xs (6 * i + 1)), .int (xs (6 * i + 2)), .int (xs (6 * i + 3)), .int (xs (6 * i + 4))]) (rest := []) (u := z) (K := fun r z1 => M_walk (xs (6 * i + 1)) (xs (6 * i + 2)) (xs (6 * i + 3)) (xs (6 * i + 4)) z1.2.1 (fun r' m' => r' = r ∧ Sim z1.1.2 m')) C llX_walk (fr_Ci (a := []) (c := wM cs q2 z.2.1 ++ [(oa, .inl (cs 2, (1, .inr (.inl z.2.2))))]) (W9 := wL cs ad q q2 oa) (f := fun x => (x, z.2)) (w := wXs cs ad q) (xE_ok ad ak) (fun _ _ _ h => h) (fun _ => rfl) (fun _ _ h => h) (X_TH_walk_c (si_walk hS))) hw (wL_rX C.2.2.2.2.2.1 hw.1) rfl rfl ⟨by omega, by omega⟩ hl.1 (Nat.le_of_ble_eq_true rfl) ⟨by omega, by omega⟩ dL_law_861 (fun r u1 H locs hf hw => ?_)
  refine lv_aload_n hx hb dL_law_864 rfl (lv_at hl 2 rfl) ?_
  refine la_arg (k := 1) G hw.2.2 (lv_at hl 0 rfl) (lv_at hl 4 rfl) (by omega) (by decide) dL_law_865 dL_law_866 dL_law_868 dL_law_869 dL_law_870 ?_
  refine la_arg (k := 2) G hw.2.2 (lv_at hl 0 rfl) (lv_at hl 4 rfl) (by omega) (by decide) dL_law_871 dL_law_872 dL_law_874 dL_law_875 dL_law_876 ?_
  refine la_arg (k := 3) G hw.2.2 (lv_at hl 0 rfl) (lv_at hl 4 rfl) (by omega) (by decide) dL_law_877 dL_law_878 dL_law_880 dL_law_881 dL_law_882 ?_
  refine la_arg (k := 4) G hw.2.2 (lv_at hl 0 rfl) (lv_at hl 4 rfl) (by omega) (by decide) dL_law_883 dL_law_884 dL_law_886 dL_law_887 dL_law_888 ?_
  refine th_callVi (As := [.int (xs (6 * i + 1)), .int (xs (6 * i + 2)), .int (xs (6 * i + 3)), .int (xs (6 * i + 4))]) (rest := [.int r]) (u := u1) (K := fun r' z2 => r' = r ∧ Sim z2.1.2 z2.2.1) C llM_walk (fr_Ci (a := wXs cs ad q u1.1) (c := [(oa, .inl (cs 2, (1, .inr (.inl u1.2.2))))]) (W9 := wL cs ad q q2 oa) (f := fun m' => (u1.1, m', u1.2.2)) (w := wM cs q2) (xE_ok ad ak) (fun _ _ _ _ => trivial) (fun _ => rfl) (fun _ _ h => h) (M_walk_c hf)) hw (wL_rM C.2.2.2.2.2.1 hw.1) rfl rfl ⟨by omega, by omega⟩ hl.1 (Nat.le_of_ble_eq_true rfl) ⟨by omega, by omega⟩ dL_law_889 (fun r1 u2 H locs hf hw => ?_)
  exact lv_icmp_eq (tgt := 1126) hx hb dL_law_892 (by decide) (fun _ => hgo u2 _ _ _ _ _ (by omega) (by omega) hf.2 hw hl) (fun hc => absurd hf.1.symm hc)
theorem llX_walked : th_LV RL RX11 117 yX11_walked cX11_walked 2 1 (some .int) := ⟨th_goodV (th_b4 222 rfl rfl) (th_b4 223 rfl rfl) (th_b4 224 rfl rfl) (th_b1 1 rfl rfl) (th_b4 225 rfl rfl), by decide +kernel⟩
theorem llM_walked : th_LV RL RX12 120 yX12_walked cX12_walked 2 1 (some .int) := ⟨th_goodV (th_b7 161 rfl rfl) (th_b7 162 rfl rfl) (th_b7 163 rfl rfl) (th_b1 15 rfl rfl) (th_b7 164 rfl rfl), by decide +kernel⟩
set_option maxHeartbeats 4000000 in
theorem lc_19 (hlt : l.stackTraces = false) (G : lw_G p s m args meth c dC dI cs ad ak A b L xs R) (hi : 6 * i + 6 ≤ L) (hc : cells + 83 ≤ R.cells) (hs : slots + 2302 ≤ R.slots) (hS : Sim z.1.2 z.2.1) (hw : th_wI (dC, dI) (wL cs ad q q2 oa) A s.heap z H locs) (hl : lv_has ls 8 [(0, .ref b), (1, .ref (q 99)), (2, .ref (q2 0)), (3, .ref oa), (4, .int (nI (6 * i)))])
    (hgo : ∀ (z1 : lSt) (H : Heap) (locs : List Loc) (ls : Array Slot) (c1 s1 : Nat), c1 ≤ cells + 83 → s1 ≤ slots + 2302 → Sim z1.1.2 z1.2.1 → th_wI (dC, dI) (wL cs ad q q2 oa) A s.heap z1 H locs → lv_has ls 8 [(0, .ref b), (1, .ref (q 99)), (2, .ref (q2 0)), (3, .ref oa), (4, .int (nI (6 * i)))] → W p l e R s m args below meth c H locs c1 s1 Q (F0 m 1126 ls [])) : W p l e R s m args below meth c H locs cells slots Q (F0 m 897 ls []) := by
  obtain ⟨C, hX, hbl, hbA, hL, hRf, hRl⟩ := id G
  have hx := C.1
  have hb := C.2.1
  refine lv_aload_n hx hb dL_law_897 rfl (lv_at hl 1 rfl) ?_
  refine la_arg (k := 1) G hw.2.2 (lv_at hl 0 rfl) (lv_at hl 4 rfl) (by omega) (by decide) dL_law_898 dL_law_899 dL_law_901 dL_law_902 dL_law_903 ?_
  refine th_callVi (As := [.int (xs (6 * i + 1))]) (rest := []) (u := z) (K := fun r z1 => M_walked (xs (6 * i + 1)) z1.2.1 (fun r' m' => r' = r ∧ Sim z1.1.2 m')) C llX_walked (fr_Ci (a := []) (c := wM cs q2 z.2.1 ++ [(oa, .inl (cs 2, (1, .inr (.inl z.2.2))))]) (W9 := wL cs ad q q2 oa) (f := fun x => ((z.1.1, x), z.2)) (w := wX cs ad q z.1.1 z.1.1) (xE_ok ad ak) (fun _ _ _ h => h) (fun _ => rfl) (fun _ _ h => h) (X_TH_walked_c (si_walked hS))) hw (wL_rX C.2.2.2.2.2.1 hw.1) rfl rfl ⟨by omega, by omega⟩ hl.1 (Nat.le_of_ble_eq_true rfl) ⟨by omega, by omega⟩ dL_law_904 (fun r u1 H locs hf hw => ?_)
  refine lv_aload_n hx hb dL_law_907 rfl (lv_at hl 2 rfl) ?_
  refine la_arg (k := 1) G hw.2.2 (lv_at hl 0 rfl) (lv_at hl 4 rfl) (by omega) (by decide) dL_law_908 dL_law_909 dL_law_911 dL_law_912 dL_law_913 ?_
  refine th_callVi (As := [.int (xs (6 * i + 1))]) (rest := [.int r]) (u := u1) (K := fun r' z2 => r' = r ∧ Sim z2.1.2 z2.2.1) C llM_walked (fr_Ci (a := wXs cs ad q u1.1) (c := [(oa, .inl (cs 2, (1, .inr (.inl u1.2.2))))]) (W9 := wL cs ad q q2 oa) (f := fun m' => (u1.1, m', u1.2.2)) (w := wM cs q2) (xE_ok ad ak) (fun _ _ _ _ => trivial) (fun _ => rfl) (fun _ _ h => h) (M_walked_c hf)) hw (wL_rM C.2.2.2.2.2.1 hw.1) rfl rfl ⟨by omega, by omega⟩ hl.1 (Nat.le_of_ble_eq_true rfl) ⟨by omega, by omega⟩ dL_law_914 (fun r1 u2 H locs hf hw => ?_)
  exact lv_icmp_eq (tgt := 1126) hx hb dL_law_917 (by decide) (fun _ => hgo u2 _ _ _ _ _ (by omega) (by omega) hf.2 hw hl) (fun hc => absurd hf.1.symm hc)
theorem llX_lined : th_LV RL RX11 121 yX11_lined cX11_lined 4 2 (some .int) := ⟨th_goodV (th_b4 226 rfl rfl) (th_b4 227 rfl rfl) (th_b4 228 rfl rfl) (th_b1 1 rfl rfl) (th_b4 229 rfl rfl), by decide +kernel⟩
theorem llM_lined : th_LV RL RX12 124 yX12_lined cX12_lined 8 2 (some .int) := ⟨th_goodV (th_b7 165 rfl rfl) (th_b7 166 rfl rfl) (th_b7 167 rfl rfl) (th_b1 15 rfl rfl) (th_b7 168 rfl rfl), by decide +kernel⟩
set_option maxHeartbeats 4000000 in
theorem lc_20 (hlt : l.stackTraces = false) (G : lw_G p s m args meth c dC dI cs ad ak A b L xs R) (hi : 6 * i + 6 ≤ L) (hc : cells + 83 ≤ R.cells) (hs : slots + 2302 ≤ R.slots) (hS : Sim z.1.2 z.2.1) (hw : th_wI (dC, dI) (wL cs ad q q2 oa) A s.heap z H locs) (hl : lv_has ls 8 [(0, .ref b), (1, .ref (q 99)), (2, .ref (q2 0)), (3, .ref oa), (4, .int (nI (6 * i)))])
    (hgo : ∀ (z1 : lSt) (H : Heap) (locs : List Loc) (ls : Array Slot) (c1 s1 : Nat), c1 ≤ cells + 83 → s1 ≤ slots + 2302 → Sim z1.1.2 z1.2.1 → th_wI (dC, dI) (wL cs ad q q2 oa) A s.heap z1 H locs → lv_has ls 8 [(0, .ref b), (1, .ref (q 99)), (2, .ref (q2 0)), (3, .ref oa), (4, .int (nI (6 * i)))] → W p l e R s m args below meth c H locs c1 s1 Q (F0 m 1126 ls [])) : W p l e R s m args below meth c H locs cells slots Q (F0 m 922 ls []) := by
  obtain ⟨C, hX, hbl, hbA, hL, hRf, hRl⟩ := id G
  have hx := C.1
  have hb := C.2.1
  refine lv_aload_n hx hb dL_law_922 rfl (lv_at hl 1 rfl) ?_
  refine la_arg (k := 1) G hw.2.2 (lv_at hl 0 rfl) (lv_at hl 4 rfl) (by omega) (by decide) dL_law_923 dL_law_924 dL_law_926 dL_law_927 dL_law_928 ?_
  refine la_arg (k := 2) G hw.2.2 (lv_at hl 0 rfl) (lv_at hl 4 rfl) (by omega) (by decide) dL_law_929 dL_law_930 dL_law_932 dL_law_933 dL_law_934 ?_
  refine th_callVi (As := [.int (xs (6 * i + 1)), .int (xs (6 * i + 2))]) (rest := []) (u := z) (K := fun r z1 => M_lined (xs (6 * i + 1)) (xs (6 * i + 2)) z1.2.1 (fun r' m' => r' = r ∧ Sim z1.1.2 m')) C llX_lined (fr_Ci (a := []) (c := wM cs q2 z.2.1 ++ [(oa, .inl (cs 2, (1, .inr (.inl z.2.2))))]) (W9 := wL cs ad q q2 oa) (f := fun x => ((z.1.1, x), z.2)) (w := wX cs ad q z.1.1 z.1.1) (xE_ok ad ak) (fun _ _ _ h => h) (fun _ => rfl) (fun _ _ h => h) (X_TH_lined_c (si_lined hS))) hw (wL_rX C.2.2.2.2.2.1 hw.1) rfl rfl ⟨by omega, by omega⟩ hl.1 (Nat.le_of_ble_eq_true rfl) ⟨by omega, by omega⟩ dL_law_935 (fun r u1 H locs hf hw => ?_)
  refine lv_aload_n hx hb dL_law_938 rfl (lv_at hl 2 rfl) ?_
  refine la_arg (k := 1) G hw.2.2 (lv_at hl 0 rfl) (lv_at hl 4 rfl) (by omega) (by decide) dL_law_939 dL_law_940 dL_law_942 dL_law_943 dL_law_944 ?_
  refine la_arg (k := 2) G hw.2.2 (lv_at hl 0 rfl) (lv_at hl 4 rfl) (by omega) (by decide) dL_law_945 dL_law_946 dL_law_948 dL_law_949 dL_law_950 ?_
  refine th_callVi (As := [.int (xs (6 * i + 1)), .int (xs (6 * i + 2))]) (rest := [.int r]) (u := u1) (K := fun r' z2 => r' = r ∧ Sim z2.1.2 z2.2.1) C llM_lined (fr_Ci (a := wXs cs ad q u1.1) (c := [(oa, .inl (cs 2, (1, .inr (.inl u1.2.2))))]) (W9 := wL cs ad q q2 oa) (f := fun m' => (u1.1, m', u1.2.2)) (w := wM cs q2) (xE_ok ad ak) (fun _ _ _ _ => trivial) (fun _ => rfl) (fun _ _ h => h) (M_lined_c hf)) hw (wL_rM C.2.2.2.2.2.1 hw.1) rfl rfl ⟨by omega, by omega⟩ hl.1 (Nat.le_of_ble_eq_true rfl) ⟨by omega, by omega⟩ dL_law_951 (fun r1 u2 H locs hf hw => ?_)
  exact lv_icmp_eq (tgt := 1126) hx hb dL_law_954 (by decide) (fun _ => hgo u2 _ _ _ _ _ (by omega) (by omega) hf.2 hw hl) (fun hc => absurd hf.1.symm hc)
theorem llX_paired : th_LV RL RX11 125 yX11_paired cX11_paired 2 1 (some .int) := ⟨th_goodV (th_b5 17 rfl rfl) (th_b5 18 rfl rfl) (th_b5 19 rfl rfl) (th_b1 1 rfl rfl) (th_b5 20 rfl rfl), by decide +kernel⟩
theorem llM_paired : th_LV RL RX12 128 yX12_paired cX12_paired 2 1 (some .int) := ⟨th_goodV (th_b7 174 rfl rfl) (th_b7 175 rfl rfl) (th_b7 176 rfl rfl) (th_b1 15 rfl rfl) (th_b7 177 rfl rfl), by decide +kernel⟩
set_option maxHeartbeats 4000000 in
theorem lc_21 (hlt : l.stackTraces = false) (G : lw_G p s m args meth c dC dI cs ad ak A b L xs R) (hi : 6 * i + 6 ≤ L) (hc : cells + 83 ≤ R.cells) (hs : slots + 2302 ≤ R.slots) (hS : Sim z.1.2 z.2.1) (hw : th_wI (dC, dI) (wL cs ad q q2 oa) A s.heap z H locs) (hl : lv_has ls 8 [(0, .ref b), (1, .ref (q 99)), (2, .ref (q2 0)), (3, .ref oa), (4, .int (nI (6 * i)))])
    (hgo : ∀ (z1 : lSt) (H : Heap) (locs : List Loc) (ls : Array Slot) (c1 s1 : Nat), c1 ≤ cells + 83 → s1 ≤ slots + 2302 → Sim z1.1.2 z1.2.1 → th_wI (dC, dI) (wL cs ad q q2 oa) A s.heap z1 H locs → lv_has ls 8 [(0, .ref b), (1, .ref (q 99)), (2, .ref (q2 0)), (3, .ref oa), (4, .int (nI (6 * i)))] → W p l e R s m args below meth c H locs c1 s1 Q (F0 m 1126 ls [])) : W p l e R s m args below meth c H locs cells slots Q (F0 m 959 ls []) := by
  obtain ⟨C, hX, hbl, hbA, hL, hRf, hRl⟩ := id G
  have hx := C.1
  have hb := C.2.1
  refine lv_aload_n hx hb dL_law_959 rfl (lv_at hl 1 rfl) ?_
  refine la_arg (k := 1) G hw.2.2 (lv_at hl 0 rfl) (lv_at hl 4 rfl) (by omega) (by decide) dL_law_960 dL_law_961 dL_law_963 dL_law_964 dL_law_965 ?_
  refine th_callVi (As := [.int (xs (6 * i + 1))]) (rest := []) (u := z) (K := fun r z1 => M_paired (xs (6 * i + 1)) z1.2.1 (fun r' m' => r' = r ∧ Sim z1.1.2 m')) C llX_paired (fr_Ci (a := []) (c := wM cs q2 z.2.1 ++ [(oa, .inl (cs 2, (1, .inr (.inl z.2.2))))]) (W9 := wL cs ad q q2 oa) (f := fun x => ((z.1.1, x), z.2)) (w := wX cs ad q z.1.1 z.1.1) (xE_ok ad ak) (fun _ _ _ h => h) (fun _ => rfl) (fun _ _ h => h) (X_TH_paired_c (si_paired hS))) hw (wL_rX C.2.2.2.2.2.1 hw.1) rfl rfl ⟨by omega, by omega⟩ hl.1 (Nat.le_of_ble_eq_true rfl) ⟨by omega, by omega⟩ dL_law_966 (fun r u1 H locs hf hw => ?_)
  refine lv_aload_n hx hb dL_law_969 rfl (lv_at hl 2 rfl) ?_
  refine la_arg (k := 1) G hw.2.2 (lv_at hl 0 rfl) (lv_at hl 4 rfl) (by omega) (by decide) dL_law_970 dL_law_971 dL_law_973 dL_law_974 dL_law_975 ?_
  refine th_callVi (As := [.int (xs (6 * i + 1))]) (rest := [.int r]) (u := u1) (K := fun r' z2 => r' = r ∧ Sim z2.1.2 z2.2.1) C llM_paired (fr_Ci (a := wXs cs ad q u1.1) (c := [(oa, .inl (cs 2, (1, .inr (.inl u1.2.2))))]) (W9 := wL cs ad q q2 oa) (f := fun m' => (u1.1, m', u1.2.2)) (w := wM cs q2) (xE_ok ad ak) (fun _ _ _ _ => trivial) (fun _ => rfl) (fun _ _ h => h) (M_paired_c hf)) hw (wL_rM C.2.2.2.2.2.1 hw.1) rfl rfl ⟨by omega, by omega⟩ hl.1 (Nat.le_of_ble_eq_true rfl) ⟨by omega, by omega⟩ dL_law_976 (fun r1 u2 H locs hf hw => ?_)
  exact lv_icmp_eq (tgt := 1126) hx hb dL_law_979 (by decide) (fun _ => hgo u2 _ _ _ _ _ (by omega) (by omega) hf.2 hw hl) (fun hc => absurd hf.1.symm hc)
theorem llH_falseShare : GoodIn th_BIG (va_wsS RL 129 yL_falseShare (Cond.codeWith yL_falseShare cL_falseShare 6 (some .int) [(0, 11, 14, 13)] :: th_BIG)) ∧ (yL_falseShare.cls ≠ "java/lang/invoke/MethodHandle" ∧ yL_falseShare.cls ≠ "java/lang/invoke/VarHandle" ∧ (parseMethodDescriptor yL_falseShare.desc).map (fun d => d.parameters.length) = some 5) := ⟨th_goodW (th_b5 144 rfl rfl) (th_b5 145 rfl rfl) (th_b1 0 rfl rfl) (th_b5 146 rfl rfl), by decide +kernel⟩
theorem llM_falseShare : th_LV RL RX12 131 yX12_falseShare cX12_falseShare 10 3 (some .long) := ⟨th_goodV (th_b7 178 rfl rfl) (th_b7 179 rfl rfl) (th_b7 180 rfl rfl) (th_b1 15 rfl rfl) (th_b7 181 rfl rfl), by decide +kernel⟩
set_option maxHeartbeats 4000000 in
theorem lc_22 (hlt : l.stackTraces = false) (G : lw_G p s m args meth c dC dI cs ad ak A b L xs R) (hi : 6 * i + 6 ≤ L) (hc : cells + 83 ≤ R.cells) (hs : slots + 2302 ≤ R.slots) (hS : Sim z.1.2 z.2.1) (hw : th_wI (dC, dI) (wL cs ad q q2 oa) A s.heap z H locs) (hl : lv_has ls 8 [(0, .ref b), (1, .ref (q 99)), (2, .ref (q2 0)), (3, .ref oa), (4, .int (nI (6 * i)))])
    (hgo : ∀ (z1 : lSt) (H : Heap) (locs : List Loc) (ls : Array Slot) (c1 s1 : Nat), c1 ≤ cells + 83 → s1 ≤ slots + 2302 → Sim z1.1.2 z1.2.1 → th_wI (dC, dI) (wL cs ad q q2 oa) A s.heap z1 H locs → lv_has ls 8 [(0, .ref b), (1, .ref (q 99)), (2, .ref (q2 0)), (3, .ref oa), (4, .int (nI (6 * i)))] → W p l e R s m args below meth c H locs c1 s1 Q (F0 m 1126 ls [])) : W p l e R s m args below meth c H locs cells slots Q (F0 m 984 ls []) := by
  obtain ⟨C, hX, hbl, hbA, hL, hRf, hRl⟩ := id G
  have hx := C.1
  have hb := C.2.1
  refine lv_aload_n hx hb dL_law_984 rfl (lv_at hl 1 rfl) ?_
  refine la_arg (k := 1) G hw.2.2 (lv_at hl 0 rfl) (lv_at hl 4 rfl) (by omega) (by decide) dL_law_985 dL_law_986 dL_law_988 dL_law_989 dL_law_990 ?_
  refine la_arg (k := 2) G hw.2.2 (lv_at hl 0 rfl) (lv_at hl 4 rfl) (by omega) (by decide) dL_law_991 dL_law_992 dL_law_994 dL_law_995 dL_law_996 ?_
  refine la_arg (k := 3) G hw.2.2 (lv_at hl 0 rfl) (lv_at hl 4 rfl) (by omega) (by decide) dL_law_997 dL_law_998 dL_law_1000 dL_law_1001 dL_law_1002 ?_
  refine lv_aload_n hx hb dL_law_1003 rfl (lv_at hl 3 rfl) ?_
  refine th_callSW (As := [.ref (q 99), .int (xs (6 * i + 1)), .int (xs (6 * i + 2)), .int (xs (6 * i + 3)), .ref oa]) (rest := []) (u := z) (K := fun k z1 => (k = 1 ∧ M_falseShare (xs (6 * i + 1)) (xs (6 * i + 2)) (xs (6 * i + 3)) z1.2.1 (fun _ m' => m'.1 0 = 1 ∧ Sim z1.1.2 m')) ∨ (k = 0 ∧ ∃ r : Int64, z1.2.2 0 = r ∧ M_falseShare (xs (6 * i + 1)) (xs (6 * i + 2)) (xs (6 * i + 3)) z1.2.1 (fun r' m' => m'.1 0 = 0 ∧ r' = r ∧ Sim z1.1.2 m'))) C llH_falseShare (L_falseShare_c hlt (si_falseShare hS) (fun x v h => Or.inl ⟨rfl, h⟩) (fun r x v h => Or.inr ⟨rfl, r, rfl, h⟩)) hw rfl rfl ⟨by omega, by omega⟩ hl.1 (Nat.le_of_ble_eq_true rfl) ⟨by omega, by omega⟩ dL_law_1004 (fun k u1 H locs hf hw => ?_)
  rcases hf with ⟨rfl, hf⟩ | ⟨rfl, r, hr, hf⟩
  · refine lv_istore (lv' := (5, .int 1) :: [(0, .ref b), (1, .ref (q 99)), (2, .ref (q2 0)), (3, .ref oa), (4, .int (nI (6 * i)))]) hx hb dL_law_1007 hl (by decide) rfl (fun ls hl => ?_)
    refine lv_aload_n hx hb dL_law_1009 rfl (lv_at hl 3 rfl) ?_
    refine la_arg (k := 1) G hw.2.2 (lv_at hl 1 rfl) (lv_at hl 5 rfl) (by omega) (by decide) dL_law_1010 dL_law_1011 dL_law_1013 dL_law_1014 dL_law_1015 ?_
    refine la_arg (k := 2) G hw.2.2 (lv_at hl 1 rfl) (lv_at hl 5 rfl) (by omega) (by decide) dL_law_1016 dL_law_1017 dL_law_1019 dL_law_1020 dL_law_1021 ?_
    refine la_arg (k := 3) G hw.2.2 (lv_at hl 1 rfl) (lv_at hl 5 rfl) (by omega) (by decide) dL_law_1022 dL_law_1023 dL_law_1025 dL_law_1026 dL_law_1027 ?_
    refine th_callVl (As := [.int (xs (6 * i + 1)), .int (xs (6 * i + 2)), .int (xs (6 * i + 3))]) (rest := []) (u := u1) (K := fun r1 z2 => z2.2.1.1 0 = 1 ∧ Sim z2.1.2 z2.2.1) C llM_falseShare (fr_Cl (a := wXs cs ad q u1.1) (c := [(oa, .inl (cs 2, (1, .inr (.inl u1.2.2))))]) (W9 := wL cs ad q q2 oa) (f := fun m' => (u1.1, m', u1.2.2)) (w := wM cs q2) (xE_ok ad ak) (fun _ _ _ _ => trivial) (fun _ => rfl) (fun _ _ h => h) (M_falseShare_c hf)) hw (wL_rM C.2.2.2.2.2.1 hw.1) rfl rfl ⟨by omega, by omega⟩ hl.1 (Nat.le_of_ble_eq_true rfl) ⟨by omega, by omega⟩ dL_law_1028 (fun r1 u2 H locs hf hw => ?_)
    refine lv_lstore (lv' := (6, .long r1) :: (5, .int 1) :: [(0, .ref b), (1, .ref (q 99)), (2, .ref (q2 0)), (3, .ref oa), (4, .int (nI (6 * i)))]) hx hb dL_law_1031 hl (by decide) rfl (fun ls hl => ?_)
    refine lv_aload_n hx hb dL_law_1033 rfl (lv_at hl 4 rfl) ?_
    refine th_callVi (As := []) (rest := []) (u := u2) (K := fun r3 z3 => r3 = 1 ∧ Sim z3.1.2 z3.2.1) C llM_thrown (fr_Ci (a := wXs cs ad q u2.1) (c := [(oa, .inl (cs 2, (1, .inr (.inl u2.2.2))))]) (W9 := wL cs ad q q2 oa) (f := fun m' => (u2.1, m', u2.2.2)) (w := wM cs q2) (K := fun r3 m' => r3 = 1 ∧ Sim u2.1.2 m') (xE_ok ad ak) (fun _ _ _ _ => trivial) (fun _ => rfl) (fun _ _ h => h) (M_thrown_c (show M_thrown u2.2.1 (fun r3 m' => r3 = 1 ∧ Sim u2.1.2 m') from ⟨hf.1, hf.2⟩))) hw (wL_rM C.2.2.2.2.2.1 hw.1) rfl rfl ⟨by omega, by omega⟩ hl.1 (Nat.le_of_ble_eq_true rfl) ⟨by omega, by omega⟩ dL_law_1034 (fun r3 u3 H locs hf3 hw => ?_)
    refine lv_iload hx hb dL_law_1037 (lv_at hl 1 rfl) ?_
    refine lv_icmp_eq (tgt := 1044) hx hb dL_law_1039 (by decide) (fun _ => ?_) (fun hc => absurd hf3.1 hc)
    refine lv_iload hx hb dL_law_1044 (lv_at hl 1 rfl) ?_
    refine lv_if_ne (tgt := 1060) hx hb dL_law_1046 (by decide) (fun _ => ?_) (fun hc => absurd hc (by decide))
    refine lv_goto (tgt := 1126) hx hb dL_law_1060 (by decide) ?_
    exact hgo u3 _ _ _ _ _ (by omega) (by omega) hf3.2 hw (lv_sub hl [2, 3, 4, 5, 6] rfl)
  · refine lv_istore (lv' := (5, .int 0) :: [(0, .ref b), (1, .ref (q 99)), (2, .ref (q2 0)), (3, .ref oa), (4, .int (nI (6 * i)))]) hx hb dL_law_1007 hl (by decide) rfl (fun ls hl => ?_)
    refine lv_aload_n hx hb dL_law_1009 rfl (lv_at hl 3 rfl) ?_
    refine la_arg (k := 1) G hw.2.2 (lv_at hl 1 rfl) (lv_at hl 5 rfl) (by omega) (by decide) dL_law_1010 dL_law_1011 dL_law_1013 dL_law_1014 dL_law_1015 ?_
    refine la_arg (k := 2) G hw.2.2 (lv_at hl 1 rfl) (lv_at hl 5 rfl) (by omega) (by decide) dL_law_1016 dL_law_1017 dL_law_1019 dL_law_1020 dL_law_1021 ?_
    refine la_arg (k := 3) G hw.2.2 (lv_at hl 1 rfl) (lv_at hl 5 rfl) (by omega) (by decide) dL_law_1022 dL_law_1023 dL_law_1025 dL_law_1026 dL_law_1027 ?_
    refine th_callVl (As := [.int (xs (6 * i + 1)), .int (xs (6 * i + 2)), .int (xs (6 * i + 3))]) (rest := []) (u := u1) (K := fun r1 z2 => z2.2.1.1 0 = 0 ∧ r1 = r ∧ Sim z2.1.2 z2.2.1 ∧ z2.2.2 = u1.2.2) C llM_falseShare (fr_Cl (a := wXs cs ad q u1.1) (c := [(oa, .inl (cs 2, (1, .inr (.inl u1.2.2))))]) (W9 := wL cs ad q q2 oa) (f := fun m' => (u1.1, m', u1.2.2)) (w := wM cs q2) (xE_ok ad ak) (fun _ _ _ _ => trivial) (fun _ => rfl) (fun _ _ h => ⟨h.1, h.2.1, h.2.2, rfl⟩) (M_falseShare_c hf)) hw (wL_rM C.2.2.2.2.2.1 hw.1) rfl rfl ⟨by omega, by omega⟩ hl.1 (Nat.le_of_ble_eq_true rfl) ⟨by omega, by omega⟩ dL_law_1028 (fun r1 u2 H locs hf hw => ?_)
    refine lv_lstore (lv' := (6, .long r1) :: (5, .int 0) :: [(0, .ref b), (1, .ref (q 99)), (2, .ref (q2 0)), (3, .ref oa), (4, .int (nI (6 * i)))]) hx hb dL_law_1031 hl (by decide) rfl (fun ls hl => ?_)
    refine lv_aload_n hx hb dL_law_1033 rfl (lv_at hl 4 rfl) ?_
    refine th_callVi (As := []) (rest := []) (u := u2) (K := fun r3 z3 => r3 = 0 ∧ Sim z3.1.2 z3.2.1 ∧ z3.2.2 = u1.2.2) C llM_thrown (fr_Ci (a := wXs cs ad q u2.1) (c := [(oa, .inl (cs 2, (1, .inr (.inl u2.2.2))))]) (W9 := wL cs ad q q2 oa) (f := fun m' => (u2.1, m', u2.2.2)) (w := wM cs q2) (K := fun r3 m' => r3 = 0 ∧ Sim u2.1.2 m') (xE_ok ad ak) (fun _ _ _ _ => trivial) (fun _ => rfl) (fun _ _ h => ⟨h.1, h.2, hf.2.2.2⟩) (M_thrown_c (show M_thrown u2.2.1 (fun r3 m' => r3 = 0 ∧ Sim u2.1.2 m') from ⟨hf.1, hf.2.2.1⟩))) hw (wL_rM C.2.2.2.2.2.1 hw.1) rfl rfl ⟨by omega, by omega⟩ hl.1 (Nat.le_of_ble_eq_true rfl) ⟨by omega, by omega⟩ dL_law_1034 (fun r3 u3 H locs hf3 hw => ?_)
    refine lv_iload hx hb dL_law_1037 (lv_at hl 1 rfl) ?_
    refine lv_icmp_eq (tgt := 1044) hx hb dL_law_1039 (by decide) (fun _ => ?_) (fun hc => absurd hf3.1 hc)
    refine lv_iload hx hb dL_law_1044 (lv_at hl 1 rfl) ?_
    refine lv_if_ne (tgt := 1060) hx hb dL_law_1046 (by decide) (fun hc => absurd rfl hc) (fun _ => ?_)
    refine lv_aload_n hx hb dL_law_1049 rfl (lv_at hl 5 rfl) ?_
    refine lv_iconst (v := (0 : Int32)) hx hb dL_law_1050 (by decide) ?_
    refine va_lald (D := (dC, dI)) (f := u3.2.2) (n := 1) (cA := cs 2) hx hb C.2.2.2.2.2.1 hw.1 (wXs cs ad q u3.1 ++ wM cs q2 u3.2.1).length 2 wL_at rfl (by unfold vp_in; decide) dL_law_1051 ?_
    refine lv_lload hx hb dL_law_1052 (lv_at hl 0 rfl) ?_
    refine W.lcmp hx hb dL_law_1054 ?_
    refine lv_if_eq (tgt := 1060) hx hb dL_law_1055 (by decide) (fun _ => ?_) (fun hc => absurd (lg_eq (by rw [hf3.2.2, hf.2.1]; exact hr)) hc)
    refine lv_goto (tgt := 1126) hx hb dL_law_1060 (by decide) ?_
    exact hgo u3 _ _ _ _ _ (by omega) (by omega) hf3.2.1 hw (lv_sub hl [2, 3, 4, 5, 6] rfl)
theorem llX_gauges : th_LV RL RX11 132 yX11_gauges cX11_gauges 2 0 (some .int) := ⟨th_goodV (th_b5 21 rfl rfl) (th_b5 22 rfl rfl) (th_b5 23 rfl rfl) (th_b1 1 rfl rfl) (th_b5 24 rfl rfl), by decide +kernel⟩
theorem llM_gauges : th_LV RL RX12 135 yX12_gauges cX12_gauges 6 0 (some .int) := ⟨th_goodV (th_b7 185 rfl rfl) (th_b7 186 rfl rfl) (th_b7 187 rfl rfl) (th_b1 15 rfl rfl) (th_b7 188 rfl rfl), by decide +kernel⟩
set_option maxHeartbeats 4000000 in
theorem lc_23 (hlt : l.stackTraces = false) (G : lw_G p s m args meth c dC dI cs ad ak A b L xs R) (hi : 6 * i + 6 ≤ L) (hc : cells + 83 ≤ R.cells) (hs : slots + 2302 ≤ R.slots) (hS : Sim z.1.2 z.2.1) (hw : th_wI (dC, dI) (wL cs ad q q2 oa) A s.heap z H locs) (hl : lv_has ls 8 [(0, .ref b), (1, .ref (q 99)), (2, .ref (q2 0)), (3, .ref oa), (4, .int (nI (6 * i)))])
    (hgo : ∀ (z1 : lSt) (H : Heap) (locs : List Loc) (ls : Array Slot) (c1 s1 : Nat), c1 ≤ cells + 83 → s1 ≤ slots + 2302 → Sim z1.1.2 z1.2.1 → th_wI (dC, dI) (wL cs ad q q2 oa) A s.heap z1 H locs → lv_has ls 8 [(0, .ref b), (1, .ref (q 99)), (2, .ref (q2 0)), (3, .ref oa), (4, .int (nI (6 * i)))] → W p l e R s m args below meth c H locs c1 s1 Q (F0 m 1126 ls [])) : W p l e R s m args below meth c H locs cells slots Q (F0 m 1063 ls []) := by
  obtain ⟨C, hX, hbl, hbA, hL, hRf, hRl⟩ := id G
  have hx := C.1
  have hb := C.2.1
  refine lv_aload_n hx hb dL_law_1063 rfl (lv_at hl 1 rfl) ?_
  refine th_callVi (As := []) (rest := []) (u := z) (K := fun r z1 => M_gauges  z1.2.1 (fun r' m' => r' = r ∧ Sim z1.1.2 m')) C llX_gauges (fr_Ci (a := []) (c := wM cs q2 z.2.1 ++ [(oa, .inl (cs 2, (1, .inr (.inl z.2.2))))]) (W9 := wL cs ad q q2 oa) (f := fun x => ((z.1.1, x), z.2)) (w := wX cs ad q z.1.1 z.1.1) (xE_ok ad ak) (fun _ _ _ h => h) (fun _ => rfl) (fun _ _ h => h) (X_TH_gauges_c (si_gauges hS))) hw (wL_rX C.2.2.2.2.2.1 hw.1) rfl rfl ⟨by omega, by omega⟩ hl.1 (Nat.le_of_ble_eq_true rfl) ⟨by omega, by omega⟩ dL_law_1064 (fun r u1 H locs hf hw => ?_)
  refine lv_aload_n hx hb dL_law_1067 rfl (lv_at hl 2 rfl) ?_
  refine th_callVi (As := []) (rest := [.int r]) (u := u1) (K := fun r' z2 => r' = r ∧ Sim z2.1.2 z2.2.1) C llM_gauges (fr_Ci (a := wXs cs ad q u1.1) (c := [(oa, .inl (cs 2, (1, .inr (.inl u1.2.2))))]) (W9 := wL cs ad q q2 oa) (f := fun m' => (u1.1, m', u1.2.2)) (w := wM cs q2) (xE_ok ad ak) (fun _ _ _ _ => trivial) (fun _ => rfl) (fun _ _ h => h) (M_gauges_c hf)) hw (wL_rM C.2.2.2.2.2.1 hw.1) rfl rfl ⟨by omega, by omega⟩ hl.1 (Nat.le_of_ble_eq_true rfl) ⟨by omega, by omega⟩ dL_law_1068 (fun r1 u2 H locs hf hw => ?_)
  exact lv_icmp_eq (tgt := 1126) hx hb dL_law_1071 (by decide) (fun _ => hgo u2 _ _ _ _ _ (by omega) (by omega) hf.2 hw hl) (fun hc => absurd hf.1.symm hc)
theorem llX_gauge : th_LV RL RX11 136 yX11_gauge cX11_gauge 2 1 (some .int) := ⟨th_goodV (th_b5 38 rfl rfl) (th_b5 39 rfl rfl) (th_b5 40 rfl rfl) (th_b1 1 rfl rfl) (th_b5 41 rfl rfl), by decide +kernel⟩
theorem llM_gauge : th_LV RL RX12 139 yX12_gauge cX12_gauge 2 1 (some .int) := ⟨th_goodV (th_b7 189 rfl rfl) (th_b7 190 rfl rfl) (th_b7 191 rfl rfl) (th_b1 15 rfl rfl) (th_b7 192 rfl rfl), by decide +kernel⟩
set_option maxHeartbeats 4000000 in
theorem lc_24 (hlt : l.stackTraces = false) (G : lw_G p s m args meth c dC dI cs ad ak A b L xs R) (hi : 6 * i + 6 ≤ L) (hc : cells + 83 ≤ R.cells) (hs : slots + 2302 ≤ R.slots) (hS : Sim z.1.2 z.2.1) (hw : th_wI (dC, dI) (wL cs ad q q2 oa) A s.heap z H locs) (hl : lv_has ls 8 [(0, .ref b), (1, .ref (q 99)), (2, .ref (q2 0)), (3, .ref oa), (4, .int (nI (6 * i)))])
    (hgo : ∀ (z1 : lSt) (H : Heap) (locs : List Loc) (ls : Array Slot) (c1 s1 : Nat), c1 ≤ cells + 83 → s1 ≤ slots + 2302 → Sim z1.1.2 z1.2.1 → th_wI (dC, dI) (wL cs ad q q2 oa) A s.heap z1 H locs → lv_has ls 8 [(0, .ref b), (1, .ref (q 99)), (2, .ref (q2 0)), (3, .ref oa), (4, .int (nI (6 * i)))] → W p l e R s m args below meth c H locs c1 s1 Q (F0 m 1126 ls [])) : W p l e R s m args below meth c H locs cells slots Q (F0 m 1076 ls []) := by
  obtain ⟨C, hX, hbl, hbA, hL, hRf, hRl⟩ := id G
  have hx := C.1
  have hb := C.2.1
  refine lv_aload_n hx hb dL_law_1076 rfl (lv_at hl 1 rfl) ?_
  refine la_arg (k := 1) G hw.2.2 (lv_at hl 0 rfl) (lv_at hl 4 rfl) (by omega) (by decide) dL_law_1077 dL_law_1078 dL_law_1080 dL_law_1081 dL_law_1082 ?_
  refine th_callVi (As := [.int (xs (6 * i + 1))]) (rest := []) (u := z) (K := fun r z1 => M_gauge (xs (6 * i + 1)) z1.2.1 (fun r' m' => r' = r ∧ Sim z1.1.2 m')) C llX_gauge (fr_Ci (a := []) (c := wM cs q2 z.2.1 ++ [(oa, .inl (cs 2, (1, .inr (.inl z.2.2))))]) (W9 := wL cs ad q q2 oa) (f := fun x => ((z.1.1, x), z.2)) (w := wX cs ad q z.1.1 z.1.1) (xE_ok ad ak) (fun _ _ _ h => h) (fun _ => rfl) (fun _ _ h => h) (X_TH_gauge_c (si_gauge hS))) hw (wL_rX C.2.2.2.2.2.1 hw.1) rfl rfl ⟨by omega, by omega⟩ hl.1 (Nat.le_of_ble_eq_true rfl) ⟨by omega, by omega⟩ dL_law_1083 (fun r u1 H locs hf hw => ?_)
  refine lv_aload_n hx hb dL_law_1086 rfl (lv_at hl 2 rfl) ?_
  refine la_arg (k := 1) G hw.2.2 (lv_at hl 0 rfl) (lv_at hl 4 rfl) (by omega) (by decide) dL_law_1087 dL_law_1088 dL_law_1090 dL_law_1091 dL_law_1092 ?_
  refine th_callVi (As := [.int (xs (6 * i + 1))]) (rest := [.int r]) (u := u1) (K := fun r' z2 => r' = r ∧ Sim z2.1.2 z2.2.1) C llM_gauge (fr_Ci (a := wXs cs ad q u1.1) (c := [(oa, .inl (cs 2, (1, .inr (.inl u1.2.2))))]) (W9 := wL cs ad q q2 oa) (f := fun m' => (u1.1, m', u1.2.2)) (w := wM cs q2) (xE_ok ad ak) (fun _ _ _ _ => trivial) (fun _ => rfl) (fun _ _ h => h) (M_gauge_c hf)) hw (wL_rM C.2.2.2.2.2.1 hw.1) rfl rfl ⟨by omega, by omega⟩ hl.1 (Nat.le_of_ble_eq_true rfl) ⟨by omega, by omega⟩ dL_law_1093 (fun r1 u2 H locs hf hw => ?_)
  exact lv_icmp_eq (tgt := 1126) hx hb dL_law_1096 (by decide) (fun _ => hgo u2 _ _ _ _ _ (by omega) (by omega) hf.2 hw hl) (fun hc => absurd hf.1.symm hc)
theorem llX_count : th_LV RL RX11 140 yX11_count cX11_count 2 1 (some .int) := ⟨th_goodV (th_b5 42 rfl rfl) (th_b5 43 rfl rfl) (th_b5 44 rfl rfl) (th_b1 1 rfl rfl) (th_b5 45 rfl rfl), by decide +kernel⟩
theorem llM_count : th_LV RL RX12 143 yX12_count cX12_count 2 1 (some .int) := ⟨th_goodV (th_b7 193 rfl rfl) (th_b7 194 rfl rfl) (th_b7 195 rfl rfl) (th_b1 15 rfl rfl) (th_b7 196 rfl rfl), by decide +kernel⟩
set_option maxHeartbeats 4000000 in
theorem lc_25 (hlt : l.stackTraces = false) (G : lw_G p s m args meth c dC dI cs ad ak A b L xs R) (hi : 6 * i + 6 ≤ L) (hc : cells + 83 ≤ R.cells) (hs : slots + 2302 ≤ R.slots) (hS : Sim z.1.2 z.2.1) (hw : th_wI (dC, dI) (wL cs ad q q2 oa) A s.heap z H locs) (hl : lv_has ls 8 [(0, .ref b), (1, .ref (q 99)), (2, .ref (q2 0)), (3, .ref oa), (4, .int (nI (6 * i)))])
    (hgo : ∀ (z1 : lSt) (H : Heap) (locs : List Loc) (ls : Array Slot) (c1 s1 : Nat), c1 ≤ cells + 83 → s1 ≤ slots + 2302 → Sim z1.1.2 z1.2.1 → th_wI (dC, dI) (wL cs ad q q2 oa) A s.heap z1 H locs → lv_has ls 8 [(0, .ref b), (1, .ref (q 99)), (2, .ref (q2 0)), (3, .ref oa), (4, .int (nI (6 * i)))] → W p l e R s m args below meth c H locs c1 s1 Q (F0 m 1126 ls [])) : W p l e R s m args below meth c H locs cells slots Q (F0 m 1101 ls []) := by
  obtain ⟨C, hX, hbl, hbA, hL, hRf, hRl⟩ := id G
  have hx := C.1
  have hb := C.2.1
  refine lv_aload_n hx hb dL_law_1101 rfl (lv_at hl 1 rfl) ?_
  refine la_arg (k := 1) G hw.2.2 (lv_at hl 0 rfl) (lv_at hl 4 rfl) (by omega) (by decide) dL_law_1102 dL_law_1103 dL_law_1105 dL_law_1106 dL_law_1107 ?_
  refine th_callVi (As := [.int (xs (6 * i + 1))]) (rest := []) (u := z) (K := fun r z1 => M_count (xs (6 * i + 1)) z1.2.1 (fun r' m' => r' = r ∧ Sim z1.1.2 m')) C llX_count (fr_Ci (a := []) (c := wM cs q2 z.2.1 ++ [(oa, .inl (cs 2, (1, .inr (.inl z.2.2))))]) (W9 := wL cs ad q q2 oa) (f := fun x => ((z.1.1, x), z.2)) (w := wX cs ad q z.1.1 z.1.1) (xE_ok ad ak) (fun _ _ _ h => h) (fun _ => rfl) (fun _ _ h => h) (X_TH_count_c (si_count hS))) hw (wL_rX C.2.2.2.2.2.1 hw.1) rfl rfl ⟨by omega, by omega⟩ hl.1 (Nat.le_of_ble_eq_true rfl) ⟨by omega, by omega⟩ dL_law_1108 (fun r u1 H locs hf hw => ?_)
  refine lv_aload_n hx hb dL_law_1111 rfl (lv_at hl 2 rfl) ?_
  refine la_arg (k := 1) G hw.2.2 (lv_at hl 0 rfl) (lv_at hl 4 rfl) (by omega) (by decide) dL_law_1112 dL_law_1113 dL_law_1115 dL_law_1116 dL_law_1117 ?_
  refine th_callVi (As := [.int (xs (6 * i + 1))]) (rest := [.int r]) (u := u1) (K := fun r' z2 => r' = r ∧ Sim z2.1.2 z2.2.1) C llM_count (fr_Ci (a := wXs cs ad q u1.1) (c := [(oa, .inl (cs 2, (1, .inr (.inl u1.2.2))))]) (W9 := wL cs ad q q2 oa) (f := fun m' => (u1.1, m', u1.2.2)) (w := wM cs q2) (xE_ok ad ak) (fun _ _ _ _ => trivial) (fun _ => rfl) (fun _ _ h => h) (M_count_c hf)) hw (wL_rM C.2.2.2.2.2.1 hw.1) rfl rfl ⟨by omega, by omega⟩ hl.1 (Nat.le_of_ble_eq_true rfl) ⟨by omega, by omega⟩ dL_law_1118 (fun r1 u2 H locs hf hw => ?_)
  exact lv_icmp_eq (tgt := 1126) hx hb dL_law_1121 (by decide) (fun _ => hgo u2 _ _ _ _ _ (by omega) (by omega) hf.2 hw hl) (fun hc => absurd hf.1.symm hc)
end

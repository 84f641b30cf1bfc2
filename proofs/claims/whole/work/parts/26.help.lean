/-! the law's own four methods: a call that may throw, its handler -/
abbrev lSt : Type := ((Nat → Nat) × xs_St) × th_St × (Nat → Int64)
/-- the class, the reference, the law's row of one number -/
def wL (cs : Nat → ClassId) (ad q q2 : Nat → Nat) (oa : Nat) (z : lSt) : va_W := wXs cs ad q z.1 ++ (wM cs q2 z.2.1 ++ [(oa, .inl (cs 2, (1, .inr (.inl z.2.2))))])
def th_CW {α : Type} (l : Launch) (y : MethodName) (cc : ByteArray) (n : Nat) (ret : Option FieldType) (hh : List (Nat × Nat × Nat × Nat)) (d mc ms : Nat) (D : va_G) (tys : List (ClassId × FieldType)) (E : th_Ex) (w : α → va_W) (av : List Value) (u : α) (K : Int32 → α → Prop) : Prop :=
  ∀ sz, Met l y (Cond.codeWith y cc n ret hh :: th_BIG) (th_rm d mc ms) (va_Pc av (th_Pre D tys E w u sz)) (va_Qi K (th_Post D w (va_A (w u) sz)) (va_A (w u) sz)) mc ms (va_A (w u) sz)
theorem th_ofCW {α : Type} {l : Launch} {y : MethodName} {cc : ByteArray} {n : Nat} {ret : Option FieldType} {hh : List (Nat × Nat × Nat × Nat)} {d mc ms : Nat} {D : va_G} {tys : List (ClassId × FieldType)} {E : th_Ex} {w : α → va_W} {av : List Value} {u : α} {K : Int32 → α → Prop} (hy : plainName y.cls = true) (hav : (lg_sl av).length ≤ n) (hE : th_EO E)
    (body : ∀ (p : Program) (e : Env) (s : State) (m : MethodId) (below : List Frame) (meth : Method) (c : Code) (A : Nat → Prop) (ls : Array Slot), th_Cx p s m av.toArray meth c cc y.cls n ret D tys E A → c.exceptionTable.toList = tableOf hh → th_wI D w A s.heap u s.heap [] → lv_has ls n (lv_args 0 av) →
      W p l e (th_rm d mc ms) s m av.toArray below meth c s.heap [] 0 0 (MQ below (va_Qi K (th_Post D w A) A) av.toArray s mc ms A) (F0 m 0 ls [])) : th_CW l y cc n ret hh d mc ms D tys E w av u K := by
  intro sz
  have h : vx_Met l y (Cond.codeWith y cc n ret hh :: th_BIG) (th_rm d mc ms) (va_Pc av (th_Pre D tys E w u sz)) (va_Qi K (th_Post D w (va_A (w u) sz)) (va_A (w u) sz)) (fun _ _ _ => False) mc ms (va_A (w u) sz) := by
    refine vx_ofWH (cc := cc) (maxL := n) (ret := ret) (hh := hh) hy rfl ?_
    intro p e s m args below meth c s₁ B hml hv
    obtain ⟨rfl, hsz, hP, hK, hD0, hE0⟩ := hv
    subst hsz
    have hl := lv_entry av (n := n) hav
    rw [lg_entry_eq]
    exact vx_ret (body p e s m below meth c _ _ ⟨B.exec, B.bytes, hml, findClass_of_methodNamed B.named, fun w hw => atoms_spec (ws := Cond.codeWith y cc n ret hh :: th_BIG) B.pre w (List.mem_cons_of_mem _ hw), hK, B.returns, B.notSynchronized, fun q h => Or.inr h, hE0, hE⟩ (vx_table (x := y) B (atoms_spec (ws := Cond.codeWith y cc n ret hh :: th_BIG) B.pre _ List.mem_cons_self)) ⟨hP, hD0.self, va_S.rf⟩ hl)
  exact fr_met h (fun _ _ hp => hp) (fun _ _ _ _ _ hq => hq.elim id (fun ⟨_, _, _, _, _, hx, _⟩ => hx.elim))
section
variable {α : Type} {p : Program} {l : Launch} {e : Env} {R : Room} {s : State} {m : MethodId} {args : Array Value} {below : List Frame} {meth : Method} {c : Code} {H : Heap} {locs : List Loc} {cells slots : Nat} {Q : State → Prop} {cc bytes : ByteArray} {own : String} {nL pc idx n k d mc ms : Nat} {ret ret0 : Option FieldType} {D : va_G} {tys : List (ClassId × FieldType)} {E : th_Ex} {A : Nat → Prop} {w : α → va_W} {u : α} {y : MethodName} {ls : Array Slot} {rest As : List Value} {b : Addr} {C0 : String}
theorem th_callXi {K : Int32 → α → Prop} {T : α → Prop} {st : List Value} (C : th_Cx p s m args meth c cc own nL ret0 D tys E A) (hL : th_LV own C0 idx y bytes n k ret) (hM : th_Xi l y bytes n ret d mc ms D tys E w (.ref b :: As) u K T) (hw : th_wI D w A s.heap u H locs) (hrc : th_Rc s H C0 b) (hst : st = As.reverse ++ .ref b :: rest) (hn : As.length = k) (hR : d + 1 ≤ R.frames ∧ 8 + (n + 11) + 50 * d ≤ R.locals) (hz : ls.size = nL) (hrest : (rest.map fun v => v.category).sum ≤ 8) (hcs : cells + mc ≤ R.cells ∧ slots + ms ≤ R.slots) (hd : decode cc pc = .ok (.invokevirtual idx, 3))
    (kx : ∀ (ce : Cell) (q9 : Addr) (u1 : α) (H1 : Heap) (locs1 : List Loc), T u1 → th_wI D w A s.heap u1 H1 locs1 → H1[q9]? = some ce → ce.vm = .none → s.vm.findClass tn_N = some ce.cls → vx_W p l e R s m args below meth c H1 locs1 (cells + mc) (slots + ms) Q (F0 m pc ls rest) q9)
    (kk : ∀ (r : Int32) (u1 : α) (H1 : Heap) (locs1 : List Loc), K r u1 → th_wI D w A s.heap u1 H1 locs1 → W p l e R s m args below meth c H1 locs1 (cells + mc) (slots + ms) Q (F0 m (pc + 3) ls (.int r :: rest))) : W p l e R s m args below meth c H locs cells slots Q (F0 m pc ls st) := by
  obtain ⟨hx, hb, hml, hown, hts, hK, -, -, hA, hE0, hE⟩ := C
  subst hst
  have hF := hw.free hA
  refine vx_calli (vx_runV (As := As) (rest := rest) ⟨hx, hb, hml, hown, hts⟩ (hM H.size) (cwV k hts hL.1 rfl rfl rfl hL.2 hR) ⟨th_blind hE, hrc, th_start hK hA hE0 hE hw⟩ rfl hn hz rfl (lv_room hrest) hd hcs) hw.2.2 (fun q _ h => hF q h) hF (fun q _ h => hF q h) (fun E9 ce q9 u1 t H1 locs1 ht _ hp hB _ _ hS h1 h2 h3 => ?_) (fun r u1 t H1 locs1 ht _ hp hB _ _ hS => kk r u1 H1 locs1 hp ⟨by rw [← ht]; exact hB.1, hB.2.weaken (fun _ q _ h => hF q.1 h), hS⟩)
  obtain ⟨rfl, hB1, hB2⟩ := hB
  exact kx ce q9 u1 H1 locs1 hp ⟨by rw [← ht]; exact hB1, hB2.weaken (fun _ q _ h => hF q.1 h), hS⟩ h1 h2 h3
theorem th_callXl {K : Int64 → α → Prop} {T : α → Prop} {st : List Value} (C : th_Cx p s m args meth c cc own nL ret0 D tys E A) (hL : th_LV own C0 idx y bytes n k ret) (hM : th_Xl l y bytes n ret d mc ms D tys E w (.ref b :: As) u K T) (hw : th_wI D w A s.heap u H locs) (hrc : th_Rc s H C0 b) (hst : st = As.reverse ++ .ref b :: rest) (hn : As.length = k) (hR : d + 1 ≤ R.frames ∧ 8 + (n + 11) + 50 * d ≤ R.locals) (hz : ls.size = nL) (hrest : (rest.map fun v => v.category).sum ≤ 8) (hcs : cells + mc ≤ R.cells ∧ slots + ms ≤ R.slots) (hd : decode cc pc = .ok (.invokevirtual idx, 3))
    (kx : ∀ (ce : Cell) (q9 : Addr) (u1 : α) (H1 : Heap) (locs1 : List Loc), T u1 → th_wI D w A s.heap u1 H1 locs1 → H1[q9]? = some ce → ce.vm = .none → s.vm.findClass tn_N = some ce.cls → vx_W p l e R s m args below meth c H1 locs1 (cells + mc) (slots + ms) Q (F0 m pc ls rest) q9)
    (kk : ∀ (r : Int64) (u1 : α) (H1 : Heap) (locs1 : List Loc), K r u1 → th_wI D w A s.heap u1 H1 locs1 → W p l e R s m args below meth c H1 locs1 (cells + mc) (slots + ms) Q (F0 m (pc + 3) ls (.long r :: rest))) : W p l e R s m args below meth c H locs cells slots Q (F0 m pc ls st) := by
  obtain ⟨hx, hb, hml, hown, hts, hK, -, -, hA, hE0, hE⟩ := C
  subst hst
  have hF := hw.free hA
  refine vx_calll (vx_runV (As := As) (rest := rest) ⟨hx, hb, hml, hown, hts⟩ (hM H.size) (cwV k hts hL.1 rfl rfl rfl hL.2 hR) ⟨th_blind hE, hrc, th_start hK hA hE0 hE hw⟩ rfl hn hz rfl (lv_room hrest) hd hcs) hw.2.2 (fun q _ h => hF q h) hF (fun q _ h => hF q h) (fun E9 ce q9 u1 t H1 locs1 ht _ hp hB _ _ hS h1 h2 h3 => ?_) (fun r u1 t H1 locs1 ht _ hp hB _ _ hS => kk r u1 H1 locs1 hp ⟨by rw [← ht]; exact hB.1, hB.2.weaken (fun _ q _ h => hF q.1 h), hS⟩)
  obtain ⟨rfl, hB1, hB2⟩ := hB
  exact kx ce q9 u1 H1 locs1 hp ⟨by rw [← ht]; exact hB1, hB2.weaken (fun _ q _ h => hF q.1 h), hS⟩ h1 h2 h3
theorem th_callSW {K : Int32 → α → Prop} {st : List Value} {hh : List (Nat × Nat × Nat × Nat)} (C : th_Cx p s m args meth c cc own nL ret0 D tys E A) (hL : GoodIn th_BIG (va_wsS own idx y (Cond.codeWith y bytes n ret hh :: th_BIG)) ∧ (y.cls ≠ "java/lang/invoke/MethodHandle" ∧ y.cls ≠ "java/lang/invoke/VarHandle" ∧ (parseMethodDescriptor y.desc).map (fun d => d.parameters.length) = some k)) (hM : th_CW l y bytes n ret hh d mc ms D tys E w As u K) (hw : th_wI D w A s.heap u H locs) (hst : st = As.reverse ++ rest) (hn : As.length = k) (hR : d + 1 ≤ R.frames ∧ 8 + (n + 11) + 50 * d ≤ R.locals) (hz : ls.size = nL) (hrest : (rest.map fun v => v.category).sum ≤ 8) (hcs : cells + mc ≤ R.cells ∧ slots + ms ≤ R.slots) (hd : decode cc pc = .ok (.invokestatic idx, 3))
    (kk : ∀ (r : Int32) (u1 : α) (H1 : Heap) (locs1 : List Loc), K r u1 → th_wI D w A s.heap u1 H1 locs1 → W p l e R s m args below meth c H1 locs1 (cells + mc) (slots + ms) Q (F0 m (pc + 3) ls (.int r :: rest))) : W p l e R s m args below meth c H locs cells slots Q (F0 m pc ls st) := by
  obtain ⟨hx, hb, hml, hown, hts, hK, -, -, hA, hE0, hE⟩ := C
  subst hst
  have hF := hw.free hA
  refine va_calli (vx_runSW (As := As) (rest := rest) ⟨hx, hb, hml, hown, hts⟩ (hM H.size) (vx_cwSW k hts hL.1 rfl rfl rfl hL.2 hR) ⟨th_blind hE, th_start hK hA hE0 hE hw⟩ rfl hn hz rfl (lv_room hrest) hd hcs) hw.2.2 (fun q _ h => hF q h) hF (fun r u1 t H1 locs1 ht _ hp hB _ _ hS => kk r u1 H1 locs1 hp ⟨by rw [← ht]; exact hB.1, hB.2.weaken (fun _ q _ h => hF q.1 h), hS⟩)
theorem wL_set {cs : Nat → ClassId} {ad q q2 : Nat → Nat} {oa : Nat} {z : lSt} {f : Nat → Int64} : (wL cs ad q q2 oa z).set (wXs cs ad q z.1 ++ wM cs q2 z.2.1).length (oa, .inl (cs 2, (1, .inr (.inl f)))) = wL cs ad q q2 oa (z.1, z.2.1, f) := by
  unfold wL
  rw [← List.append_assoc, ← List.append_assoc, List.set_append_right _ _ (Nat.le_refl _), Nat.sub_self]
  rfl
theorem wL_at {cs : Nat → ClassId} {ad q q2 : Nat → Nat} {oa : Nat} {z : lSt} : (wL cs ad q q2 oa z)[(wXs cs ad q z.1 ++ wM cs q2 z.2.1).length]? = some (oa, .inl (cs 2, (1, .inr (.inl z.2.2)))) := by
  unfold wL
  rw [← List.append_assoc, List.getElem?_append_right (Nat.le_refl _), Nat.sub_self]
  rfl
theorem wL_rX {s : State} {H : Heap} {D : va_G} {cs : Nat → ClassId} {ad q q2 : Nat → Nat} {oa : Nat} {z : lSt} {tys : List (ClassId × FieldType)} (hK : va_K D vwCl tys s) (hP : va_P D vwCl (wL cs ad q q2 oa z) H) : th_Rc s H RX11 (q 99) := va_recv hK hP (ci := 10) (q0 := 0) rfl rfl
theorem wL_rM {s : State} {H : Heap} {D : va_G} {cs : Nat → ClassId} {ad q q2 : Nat → Nat} {oa : Nat} {z : lSt} {tys : List (ClassId × FieldType)} (hK : va_K D vwCl tys s) (hP : va_P D vwCl (wL cs ad q q2 oa z) H) : th_Rc s H RX12 (q2 0) := va_recv (q := (RX12, TX12, 67)) (ci := 11) hK hP rfl (q0 := (wXs cs ad q z.1).length) (by
  unfold wL
  rw [List.getElem?_append_right (Nat.le_refl _), Nat.sub_self]
  rfl)
end
theorem ll_cl : Cond.classLink RL 13 tn_N ∈ th_BIG := th_b5 49 rfl rfl
theorem ll_ca : Cond.castable tn_N tn_N ∈ xs_nest := xs_n5 56 rfl rfl
theorem ll_felt : th_LV RL RX11 7 yX11_felt cX11_felt 5 3 (some .int) := ⟨th_goodV (th_b5 50 rfl rfl) (th_b5 51 rfl rfl) (th_b5 52 rfl rfl) (th_b1 1 rfl rfl) (th_b5 53 rfl rfl), by decide +kernel⟩
theorem dL_felt_0 : decode cL_felt 0 = .ok (.aload 4, 2) := by decide +kernel
theorem dL_felt_2 : decode cL_felt 2 = .ok (.iconst 0, 1) := by decide +kernel
theorem dL_felt_3 : decode cL_felt 3 = .ok (.aload_n 0, 1) := by decide +kernel
theorem dL_felt_4 : decode cL_felt 4 = .ok (.iload_n 1, 1) := by decide +kernel
theorem dL_felt_5 : decode cL_felt 5 = .ok (.iload_n 2, 1) := by decide +kernel
theorem dL_felt_6 : decode cL_felt 6 = .ok (.iload_n 3, 1) := by decide +kernel
theorem dL_felt_7 : decode cL_felt 7 = .ok (.invokevirtual 7, 3) := by decide +kernel
theorem dL_felt_10 : decode cL_felt 10 = .ok (.i2l, 1) := by decide +kernel
theorem dL_felt_11 : decode cL_felt 11 = .ok (.lastore, 1) := by decide +kernel
theorem dL_felt_12 : decode cL_felt 12 = .ok (.goto 7, 3) := by decide +kernel
theorem dL_felt_15 : decode cL_felt 15 = .ok (.astore 5, 2) := by decide +kernel
theorem dL_felt_17 : decode cL_felt 17 = .ok (.iconst 1, 1) := by decide +kernel
theorem dL_felt_18 : decode cL_felt 18 = .ok (.ireturn, 1) := by decide +kernel
theorem dL_felt_19 : decode cL_felt 19 = .ok (.iconst 0, 1) := by decide +kernel
theorem dL_felt_20 : decode cL_felt 20 = .ok (.ireturn, 1) := by decide +kernel
theorem L_felt_c {l : Launch} {dC : Nat → ClassId} {dI : Nat → Nat → Nat} {cs : Nat → ClassId} {ad ak : Nat → Nat} {q q2 : Nat → Nat} {oa : Nat} (hlt : l.stackTraces = false) {a1 : Int32} {a2 : Int32} {a3 : Int32} {z : lSt} {K : Int32 → lSt → Prop} {KT : xs_St → Prop} {KR : Int32 → xs_St → Prop} (hf : X_TH_felt KT a1 a2 a3 z.1.2 KR) (h1 : ∀ x v, KT x → K 1 ((v, x), z.2)) (h2 : ∀ r x v, KR r x → K 0 ((v, x), z.2.1, vp_updL z.2.2 0 r.toInt64)) : th_CW l yL_felt cL_felt 6 (some .int) [(0, 12, 15, 13)] 7 83 2302 (dC, dI) (th_ty cs) (xE ad ak) (wL cs ad q q2 oa) [.ref (q 99), .int a1, .int a2, .int a3, .ref oa] z K := by
  refine th_ofCW (by decide) (Nat.le_of_ble_eq_true rfl) (xE_ok ad ak) ?_
  intro p e s m below meth c A ls C htab hw hl
  have hx := C.1
  have hb := C.2.1
  refine lv_aload hx hb dL_felt_0 (lv_at hl 4 rfl) ?_
  refine lv_iconst hx hb dL_felt_2 rfl ?_
  refine lv_aload_n hx hb dL_felt_3 rfl (lv_at hl 0 rfl) ?_
  refine lv_iload_n hx hb dL_felt_4 rfl (lv_at hl 1 rfl) ?_
  refine lv_iload_n hx hb dL_felt_5 rfl (lv_at hl 2 rfl) ?_
  refine lv_iload_n hx hb dL_felt_6 rfl (lv_at hl 3 rfl) ?_
  refine th_callXi (As := [.int a1, .int a2, .int a3]) (rest := [.int 0, .ref oa]) (u := z) C ll_felt (fr_Xi (a := []) (c := wM cs q2 z.2.1 ++ [(oa, .inl (cs 2, (1, .inr (.inl z.2.2))))]) (W9 := wL cs ad q q2 oa) (f := fun x => ((z.1.1, x), z.2)) (w := wX cs ad q z.1.1 z.1.1) (K' := fun r z1 => K 0 (z1.1, z1.2.1, vp_updL z1.2.2 0 r.toInt64)) (T' := fun z1 => K 1 z1) (xE_ok ad ak) (fun _ _ _ h => h) (fun _ => rfl) (fun r x h => h2 r x z.1.1 h) (fun x h => h1 x z.1.1 h) (X_TH_felt_c hlt hf)) hw (wL_rX C.2.2.2.2.2.1 hw.1) rfl rfl ⟨Nat.le_of_ble_eq_true rfl, Nat.le_of_ble_eq_true rfl⟩ hl.1 (Nat.le_of_ble_eq_true rfl) ⟨by simp only [th_rm]; omega, by simp only [th_rm]; omega⟩ dL_felt_7 (fun ce q9 u1 H1 locs1 hT hw h1 h2 h3 => ?_) (fun r u1 H1 locs1 hf hw => ?_)
  · refine ct_catch (own := RL) (name := tn_N) (E := tn_N) (x := ⟨0, 12, 15, 13⟩) C.2.2.2.1 htab rfl (by decide) (C.2.2.2.2.1 _ ll_cl) (va_tabs rfl rfl (C.2.2.2.2.2.2.2.2.2.1.1 _ ll_ca)) h1 h2 h3 ?_
    refine lv_astore (lv' := [(5, .ref q9), (0, .ref (q 99)), (1, .int a1), (2, .int a2), (3, .int a3), (4, .ref oa)]) hx hb dL_felt_15 hl (by decide) rfl (fun ls hl => ?_)
    refine lv_iconst hx hb dL_felt_17 rfl ?_
    exact th_iret C hw hT dL_felt_18
  · refine lv_i2l hx hb dL_felt_10 rfl ?_
    refine va_last (D := (dC, dI)) (f := u1.2.2) (n := 1) (cA := cs 2) hx hb C.2.2.2.2.2.1 hw.1 hw.2.1 hw.2.2 (wXs cs ad q u1.1 ++ wM cs q2 u1.2.1).length 2 wL_at rfl (by unfold vp_in; decide) dL_felt_11 (fun H locs hP hD hS => ?_)
    rw [wL_set] at hP hD
    refine lv_goto (tgt := 19) hx hb dL_felt_12 (by decide) ?_
    refine lv_iconst hx hb dL_felt_19 rfl ?_
    exact th_iret C (u := (u1.1, u1.2.1, vp_updL u1.2.2 0 r.toInt64)) ⟨hP, hD, hS⟩ hf dL_felt_20
theorem ll_read : th_LV RL RX11 15 yX11_read cX11_read 7 4 (some .int) := ⟨th_goodV (th_b5 123 rfl rfl) (th_b5 124 rfl rfl) (th_b5 125 rfl rfl) (th_b1 1 rfl rfl) (th_b5 126 rfl rfl), by decide +kernel⟩
theorem dL_read_0 : decode cL_read 0 = .ok (.aload 5, 2) := by decide +kernel
theorem dL_read_2 : decode cL_read 2 = .ok (.iconst 0, 1) := by decide +kernel
theorem dL_read_3 : decode cL_read 3 = .ok (.aload_n 0, 1) := by decide +kernel
theorem dL_read_4 : decode cL_read 4 = .ok (.iload_n 1, 1) := by decide +kernel
theorem dL_read_5 : decode cL_read 5 = .ok (.iload_n 2, 1) := by decide +kernel
theorem dL_read_6 : decode cL_read 6 = .ok (.iload_n 3, 1) := by decide +kernel
theorem dL_read_7 : decode cL_read 7 = .ok (.iload 4, 2) := by decide +kernel
theorem dL_read_9 : decode cL_read 9 = .ok (.invokevirtual 15, 3) := by decide +kernel
theorem dL_read_12 : decode cL_read 12 = .ok (.i2l, 1) := by decide +kernel
theorem dL_read_13 : decode cL_read 13 = .ok (.lastore, 1) := by decide +kernel
theorem dL_read_14 : decode cL_read 14 = .ok (.goto 7, 3) := by decide +kernel
theorem dL_read_17 : decode cL_read 17 = .ok (.astore 6, 2) := by decide +kernel
theorem dL_read_19 : decode cL_read 19 = .ok (.iconst 1, 1) := by decide +kernel
theorem dL_read_20 : decode cL_read 20 = .ok (.ireturn, 1) := by decide +kernel
theorem dL_read_21 : decode cL_read 21 = .ok (.iconst 0, 1) := by decide +kernel
theorem dL_read_22 : decode cL_read 22 = .ok (.ireturn, 1) := by decide +kernel
theorem L_read_c {l : Launch} {dC : Nat → ClassId} {dI : Nat → Nat → Nat} {cs : Nat → ClassId} {ad ak : Nat → Nat} {q q2 : Nat → Nat} {oa : Nat} (hlt : l.stackTraces = false) {a1 : Int32} {a2 : Int32} {a3 : Int32} {a4 : Int32} {z : lSt} {K : Int32 → lSt → Prop} {KT : xs_St → Prop} {KR : Int32 → xs_St → Prop} (hf : X_TH_read KT a1 a2 a3 a4 z.1.2 KR) (h1 : ∀ x v, KT x → K 1 ((v, x), z.2)) (h2 : ∀ r x v, KR r x → K 0 ((v, x), z.2.1, vp_updL z.2.2 0 r.toInt64)) : th_CW l yL_read cL_read 7 (some .int) [(0, 14, 17, 13)] 7 83 2302 (dC, dI) (th_ty cs) (xE ad ak) (wL cs ad q q2 oa) [.ref (q 99), .int a1, .int a2, .int a3, .int a4, .ref oa] z K := by
  refine th_ofCW (by decide) (Nat.le_of_ble_eq_true rfl) (xE_ok ad ak) ?_
  intro p e s m below meth c A ls C htab hw hl
  have hx := C.1
  have hb := C.2.1
  refine lv_aload hx hb dL_read_0 (lv_at hl 5 rfl) ?_
  refine lv_iconst hx hb dL_read_2 rfl ?_
  refine lv_aload_n hx hb dL_read_3 rfl (lv_at hl 0 rfl) ?_
  refine lv_iload_n hx hb dL_read_4 rfl (lv_at hl 1 rfl) ?_
  refine lv_iload_n hx hb dL_read_5 rfl (lv_at hl 2 rfl) ?_
  refine lv_iload_n hx hb dL_read_6 rfl (lv_at hl 3 rfl) ?_
  refine lv_iload hx hb dL_read_7 (lv_at hl 4 rfl) ?_
  refine th_callXi (As := [.int a1, .int a2, .int a3, .int a4]) (rest := [.int 0, .ref oa]) (u := z) C ll_read (fr_Xi (a := []) (c := wM cs q2 z.2.1 ++ [(oa, .inl (cs 2, (1, .inr (.inl z.2.2))))]) (W9 := wL cs ad q q2 oa) (f := fun x => ((z.1.1, x), z.2)) (w := wX cs ad q z.1.1 z.1.1) (K' := fun r z1 => K 0 (z1.1, z1.2.1, vp_updL z1.2.2 0 r.toInt64)) (T' := fun z1 => K 1 z1) (xE_ok ad ak) (fun _ _ _ h => h) (fun _ => rfl) (fun r x h => h2 r x z.1.1 h) (fun x h => h1 x z.1.1 h) (X_TH_read_c hlt hf)) hw (wL_rX C.2.2.2.2.2.1 hw.1) rfl rfl ⟨Nat.le_of_ble_eq_true rfl, Nat.le_of_ble_eq_true rfl⟩ hl.1 (Nat.le_of_ble_eq_true rfl) ⟨by simp only [th_rm]; omega, by simp only [th_rm]; omega⟩ dL_read_9 (fun ce q9 u1 H1 locs1 hT hw h1 h2 h3 => ?_) (fun r u1 H1 locs1 hf hw => ?_)
  · refine ct_catch (own := RL) (name := tn_N) (E := tn_N) (x := ⟨0, 14, 17, 13⟩) C.2.2.2.1 htab rfl (by decide) (C.2.2.2.2.1 _ ll_cl) (va_tabs rfl rfl (C.2.2.2.2.2.2.2.2.2.1.1 _ ll_ca)) h1 h2 h3 ?_
    refine lv_astore (lv' := [(6, .ref q9), (0, .ref (q 99)), (1, .int a1), (2, .int a2), (3, .int a3), (4, .int a4), (5, .ref oa)]) hx hb dL_read_17 hl (by decide) rfl (fun ls hl => ?_)
    refine lv_iconst hx hb dL_read_19 rfl ?_
    exact th_iret C hw hT dL_read_20
  · refine lv_i2l hx hb dL_read_12 rfl ?_
    refine va_last (D := (dC, dI)) (f := u1.2.2) (n := 1) (cA := cs 2) hx hb C.2.2.2.2.2.1 hw.1 hw.2.1 hw.2.2 (wXs cs ad q u1.1 ++ wM cs q2 u1.2.1).length 2 wL_at rfl (by unfold vp_in; decide) dL_read_13 (fun H locs hP hD hS => ?_)
    rw [wL_set] at hP hD
    refine lv_goto (tgt := 21) hx hb dL_read_14 (by decide) ?_
    refine lv_iconst hx hb dL_read_21 rfl ?_
    exact th_iret C (u := (u1.1, u1.2.1, vp_updL u1.2.2 0 r.toInt64)) ⟨hP, hD, hS⟩ hf dL_read_22
theorem ll_mayFeel : th_LV RL RX11 19 yX11_mayFeel cX11_mayFeel 3 2 (some .int) := ⟨th_goodV (th_b5 139 rfl rfl) (th_b5 140 rfl rfl) (th_b5 141 rfl rfl) (th_b1 1 rfl rfl) (th_b5 142 rfl rfl), by decide +kernel⟩
theorem dL_mayFeel_0 : decode cL_mayFeel 0 = .ok (.aload_n 3, 1) := by decide +kernel
theorem dL_mayFeel_1 : decode cL_mayFeel 1 = .ok (.iconst 0, 1) := by decide +kernel
theorem dL_mayFeel_2 : decode cL_mayFeel 2 = .ok (.aload_n 0, 1) := by decide +kernel
theorem dL_mayFeel_3 : decode cL_mayFeel 3 = .ok (.iload_n 1, 1) := by decide +kernel
theorem dL_mayFeel_4 : decode cL_mayFeel 4 = .ok (.iload_n 2, 1) := by decide +kernel
theorem dL_mayFeel_5 : decode cL_mayFeel 5 = .ok (.invokevirtual 19, 3) := by decide +kernel
theorem dL_mayFeel_8 : decode cL_mayFeel 8 = .ok (.i2l, 1) := by decide +kernel
theorem dL_mayFeel_9 : decode cL_mayFeel 9 = .ok (.lastore, 1) := by decide +kernel
theorem dL_mayFeel_10 : decode cL_mayFeel 10 = .ok (.goto 7, 3) := by decide +kernel
theorem dL_mayFeel_13 : decode cL_mayFeel 13 = .ok (.astore 4, 2) := by decide +kernel
theorem dL_mayFeel_15 : decode cL_mayFeel 15 = .ok (.iconst 1, 1) := by decide +kernel
theorem dL_mayFeel_16 : decode cL_mayFeel 16 = .ok (.ireturn, 1) := by decide +kernel
theorem dL_mayFeel_17 : decode cL_mayFeel 17 = .ok (.iconst 0, 1) := by decide +kernel
theorem dL_mayFeel_18 : decode cL_mayFeel 18 = .ok (.ireturn, 1) := by decide +kernel
theorem L_mayFeel_c {l : Launch} {dC : Nat → ClassId} {dI : Nat → Nat → Nat} {cs : Nat → ClassId} {ad ak : Nat → Nat} {q q2 : Nat → Nat} {oa : Nat} (hlt : l.stackTraces = false) {a1 : Int32} {a2 : Int32} {z : lSt} {K : Int32 → lSt → Prop} {KT : xs_St → Prop} {KR : Int32 → xs_St → Prop} (hf : X_TH_mayFeel KT a1 a2 z.1.2 KR) (h1 : ∀ x v, KT x → K 1 ((v, x), z.2)) (h2 : ∀ r x v, KR r x → K 0 ((v, x), z.2.1, vp_updL z.2.2 0 r.toInt64)) : th_CW l yL_mayFeel cL_mayFeel 5 (some .int) [(0, 10, 13, 13)] 7 1 6 (dC, dI) (th_ty cs) (xE ad ak) (wL cs ad q q2 oa) [.ref (q 99), .int a1, .int a2, .ref oa] z K := by
  refine th_ofCW (by decide) (Nat.le_of_ble_eq_true rfl) (xE_ok ad ak) ?_
  intro p e s m below meth c A ls C htab hw hl
  have hx := C.1
  have hb := C.2.1
  refine lv_aload_n hx hb dL_mayFeel_0 rfl (lv_at hl 3 rfl) ?_
  refine lv_iconst hx hb dL_mayFeel_1 rfl ?_
  refine lv_aload_n hx hb dL_mayFeel_2 rfl (lv_at hl 0 rfl) ?_
  refine lv_iload_n hx hb dL_mayFeel_3 rfl (lv_at hl 1 rfl) ?_
  refine lv_iload_n hx hb dL_mayFeel_4 rfl (lv_at hl 2 rfl) ?_
  refine th_callXi (As := [.int a1, .int a2]) (rest := [.int 0, .ref oa]) (u := z) C ll_mayFeel (fr_Xi (a := []) (c := wM cs q2 z.2.1 ++ [(oa, .inl (cs 2, (1, .inr (.inl z.2.2))))]) (W9 := wL cs ad q q2 oa) (f := fun x => ((z.1.1, x), z.2)) (w := wX cs ad q z.1.1 z.1.1) (K' := fun r z1 => K 0 (z1.1, z1.2.1, vp_updL z1.2.2 0 r.toInt64)) (T' := fun z1 => K 1 z1) (xE_ok ad ak) (fun _ _ _ h => h) (fun _ => rfl) (fun r x h => h2 r x z.1.1 h) (fun x h => h1 x z.1.1 h) (X_TH_mayFeel_c hlt hf)) hw (wL_rX C.2.2.2.2.2.1 hw.1) rfl rfl ⟨Nat.le_of_ble_eq_true rfl, Nat.le_of_ble_eq_true rfl⟩ hl.1 (Nat.le_of_ble_eq_true rfl) ⟨by simp only [th_rm]; omega, by simp only [th_rm]; omega⟩ dL_mayFeel_5 (fun ce q9 u1 H1 locs1 hT hw h1 h2 h3 => ?_) (fun r u1 H1 locs1 hf hw => ?_)
  · refine ct_catch (own := RL) (name := tn_N) (E := tn_N) (x := ⟨0, 10, 13, 13⟩) C.2.2.2.1 htab rfl (by decide) (C.2.2.2.2.1 _ ll_cl) (va_tabs rfl rfl (C.2.2.2.2.2.2.2.2.2.1.1 _ ll_ca)) h1 h2 h3 ?_
    refine lv_astore (lv' := [(4, .ref q9), (0, .ref (q 99)), (1, .int a1), (2, .int a2), (3, .ref oa)]) hx hb dL_mayFeel_13 hl (by decide) rfl (fun ls hl => ?_)
    refine lv_iconst hx hb dL_mayFeel_15 rfl ?_
    exact th_iret C hw hT dL_mayFeel_16
  · refine lv_i2l hx hb dL_mayFeel_8 rfl ?_
    refine va_last (D := (dC, dI)) (f := u1.2.2) (n := 1) (cA := cs 2) hx hb C.2.2.2.2.2.1 hw.1 hw.2.1 hw.2.2 (wXs cs ad q u1.1 ++ wM cs q2 u1.2.1).length 2 wL_at rfl (by unfold vp_in; decide) dL_mayFeel_9 (fun H locs hP hD hS => ?_)
    rw [wL_set] at hP hD
    refine lv_goto (tgt := 17) hx hb dL_mayFeel_10 (by decide) ?_
    refine lv_iconst hx hb dL_mayFeel_17 rfl ?_
    exact th_iret C (u := (u1.1, u1.2.1, vp_updL u1.2.2 0 r.toInt64)) ⟨hP, hD, hS⟩ hf dL_mayFeel_18
theorem ll_falseShare : th_LV RL RX11 23 yX11_falseShare cX11_falseShare 10 3 (some .long) := ⟨th_goodV (th_b5 147 rfl rfl) (th_b5 148 rfl rfl) (th_b5 149 rfl rfl) (th_b1 1 rfl rfl) (th_b5 150 rfl rfl), by decide +kernel⟩
theorem dL_falseShare_0 : decode cL_falseShare 0 = .ok (.aload 4, 2) := by decide +kernel
theorem dL_falseShare_2 : decode cL_falseShare 2 = .ok (.iconst 0, 1) := by decide +kernel
theorem dL_falseShare_3 : decode cL_falseShare 3 = .ok (.aload_n 0, 1) := by decide +kernel
theorem dL_falseShare_4 : decode cL_falseShare 4 = .ok (.iload_n 1, 1) := by decide +kernel
theorem dL_falseShare_5 : decode cL_falseShare 5 = .ok (.iload_n 2, 1) := by decide +kernel
theorem dL_falseShare_6 : decode cL_falseShare 6 = .ok (.iload_n 3, 1) := by decide +kernel
theorem dL_falseShare_7 : decode cL_falseShare 7 = .ok (.invokevirtual 23, 3) := by decide +kernel
theorem dL_falseShare_10 : decode cL_falseShare 10 = .ok (.lastore, 1) := by decide +kernel
theorem dL_falseShare_11 : decode cL_falseShare 11 = .ok (.goto 7, 3) := by decide +kernel
theorem dL_falseShare_14 : decode cL_falseShare 14 = .ok (.astore 5, 2) := by decide +kernel
theorem dL_falseShare_16 : decode cL_falseShare 16 = .ok (.iconst 1, 1) := by decide +kernel
theorem dL_falseShare_17 : decode cL_falseShare 17 = .ok (.ireturn, 1) := by decide +kernel
theorem dL_falseShare_18 : decode cL_falseShare 18 = .ok (.iconst 0, 1) := by decide +kernel
theorem dL_falseShare_19 : decode cL_falseShare 19 = .ok (.ireturn, 1) := by decide +kernel
theorem L_falseShare_c {l : Launch} {dC : Nat → ClassId} {dI : Nat → Nat → Nat} {cs : Nat → ClassId} {ad ak : Nat → Nat} {q q2 : Nat → Nat} {oa : Nat} (hlt : l.stackTraces = false) {a1 : Int32} {a2 : Int32} {a3 : Int32} {z : lSt} {K : Int32 → lSt → Prop} {KT : xs_St → Prop} {KR : Int64 → xs_St → Prop} (hf : X_TH_falseShare KT a1 a2 a3 z.1.2 KR) (h1 : ∀ x v, KT x → K 1 ((v, x), z.2)) (h2 : ∀ r x v, KR r x → K 0 ((v, x), z.2.1, vp_updL z.2.2 0 r)) : th_CW l yL_falseShare cL_falseShare 6 (some .int) [(0, 11, 14, 13)] 7 1 6 (dC, dI) (th_ty cs) (xE ad ak) (wL cs ad q q2 oa) [.ref (q 99), .int a1, .int a2, .int a3, .ref oa] z K := by
  refine th_ofCW (by decide) (Nat.le_of_ble_eq_true rfl) (xE_ok ad ak) ?_
  intro p e s m below meth c A ls C htab hw hl
  have hx := C.1
  have hb := C.2.1
  refine lv_aload hx hb dL_falseShare_0 (lv_at hl 4 rfl) ?_
  refine lv_iconst hx hb dL_falseShare_2 rfl ?_
  refine lv_aload_n hx hb dL_falseShare_3 rfl (lv_at hl 0 rfl) ?_
  refine lv_iload_n hx hb dL_falseShare_4 rfl (lv_at hl 1 rfl) ?_
  refine lv_iload_n hx hb dL_falseShare_5 rfl (lv_at hl 2 rfl) ?_
  refine lv_iload_n hx hb dL_falseShare_6 rfl (lv_at hl 3 rfl) ?_
  refine th_callXl (As := [.int a1, .int a2, .int a3]) (rest := [.int 0, .ref oa]) (u := z) C ll_falseShare (fr_Xl (a := []) (c := wM cs q2 z.2.1 ++ [(oa, .inl (cs 2, (1, .inr (.inl z.2.2))))]) (W9 := wL cs ad q q2 oa) (f := fun x => (x, z.2)) (w := wXs cs ad q) (K' := fun r z1 => K 0 (z1.1, z1.2.1, vp_updL z1.2.2 0 r)) (T' := fun z1 => K 1 z1) (xE_ok ad ak) (fun _ _ _ h => h) (fun _ => rfl) (fun r x h => h2 r x.2 x.1 h) (fun x h => h1 x.2 x.1 h) (X_TH_falseShare_c hlt hf)) hw (wL_rX C.2.2.2.2.2.1 hw.1) rfl rfl ⟨Nat.le_of_ble_eq_true rfl, Nat.le_of_ble_eq_true rfl⟩ hl.1 (Nat.le_of_ble_eq_true rfl) ⟨by simp only [th_rm]; omega, by simp only [th_rm]; omega⟩ dL_falseShare_7 (fun ce q9 u1 H1 locs1 hT hw h1 h2 h3 => ?_) (fun r u1 H1 locs1 hf hw => ?_)
  · refine ct_catch (own := RL) (name := tn_N) (E := tn_N) (x := ⟨0, 11, 14, 13⟩) C.2.2.2.1 htab rfl (by decide) (C.2.2.2.2.1 _ ll_cl) (va_tabs rfl rfl (C.2.2.2.2.2.2.2.2.2.1.1 _ ll_ca)) h1 h2 h3 ?_
    refine lv_astore (lv' := [(5, .ref q9), (0, .ref (q 99)), (1, .int a1), (2, .int a2), (3, .int a3), (4, .ref oa)]) hx hb dL_falseShare_14 hl (by decide) rfl (fun ls hl => ?_)
    refine lv_iconst hx hb dL_falseShare_16 rfl ?_
    exact th_iret C hw hT dL_falseShare_17
  · refine va_last (D := (dC, dI)) (f := u1.2.2) (n := 1) (cA := cs 2) hx hb C.2.2.2.2.2.1 hw.1 hw.2.1 hw.2.2 (wXs cs ad q u1.1 ++ wM cs q2 u1.2.1).length 2 wL_at rfl (by unfold vp_in; decide) dL_falseShare_10 (fun H locs hP hD hS => ?_)
    rw [wL_set] at hP hD
    refine lv_goto (tgt := 18) hx hb dL_falseShare_11 (by decide) ?_
    refine lv_iconst hx hb dL_falseShare_18 rfl ?_
    exact th_iret C (u := (u1.1, u1.2.1, vp_updL u1.2.2 0 r)) ⟨hP, hD, hS⟩ hf dL_falseShare_19

/-! the constructors: the world grows behind the object that is made -/
theorem kc_at {r t : va_W} {X : Nat × va_E} : (r ++ (X :: t))[r.length]? = some X := by rw [List.getElem?_append_right (Nat.le_refl _), Nat.sub_self]; rfl
theorem kc_set {r t : va_W} {X Y : Nat × va_E} : (r ++ (X :: t)).set r.length Y = r ++ (Y :: t) := by rw [List.set_append_right _ _ (Nat.le_refl _), Nat.sub_self]; rfl
theorem ka_nm {U : State} {cA : ClassId} {ty : FieldType} (h : va_RA U cA ty) : U.vm.findClass ("[" ++ ty.toString) = some cA := by
  cases ty with
  | object C => exact h.choose_spec.choose_spec.2.2.2
  | _ => exact h
section
variable {p : Program} {l : Launch} {e : Env} {R : Room} {s : State} {m : MethodId} {args : Array Value} {below : List Frame} {meth : Method} {c : Code} {H : Heap} {locs : List Loc} {cells slots : Nat} {Q : State → Prop} {cc : ByteArray} {nL pc idx : Nat} {ret : Option FieldType} {dC : Nat → ClassId} {dI : Nat → Nat → Nat} {cs : Nat → ClassId} {ad ak : Nat → Nat} {E : th_Ex} {A : Nat → Prop} {ls : Array Slot} {rest : List Value} {own : String} {r t : va_W}
theorem kn_a {atype : ArrayType} {ty : FieldType} {i N : Nat} {a0 : vp_A} {n : Int32} (C : th_Cx p s m args meth c cc own nL ret (dC, dI) (th_ty cs) E A) (hw : th_wI (dC, dI) wI9 A s.heap (r ++ t) H locs) (hA9 : Cond.arrayClass ty ∈ th_BIG) (hty : newarray.typeOf atype = ty) (hi : (th_ty cs)[i]? = some (cs i, ty)) (ha : ∀ cA : ClassId, vp_cell cA a0 = arrV cA N (fun _ => defaultValue ty)) (hn : ¬ n < 0) (hN : n.toNatClampNeg = N) (hby : N * componentBytes ty ≤ 536870912) (hc : cells + 1 ≤ R.cells) (hs : slots + N ≤ R.slots) (hd : decode cc pc = .ok (.newarray atype, 2)) (kk : ∀ (b : Nat) (H : Heap), th_wI (dC, dI) wI9 A s.heap (r ++ (t ++ [(b, .inl (cs i, a0))])) H locs → W p l e R s m args below meth c H locs (cells + 1) (slots + N) Q (F0 m (pc + 2) ls (.ref b :: rest))) : W p l e R s m args below meth c H locs cells slots Q (F0 m pc ls (.int n :: rest)) := by
  refine va_newa (D := (dC, dI)) (atype := atype) (ty := ty) (a0 := a0) C.1 C.2.1 (by rw [hty]; exact C.2.2.2.2.1 _ hA9) hty C.2.2.2.2.2.1 hw.1 hw.2.1 hw.2.2 C.2.2.2.2.2.2.2.2.1 ha hn hN hby hc hs hd (fun b cA H hK hP hD hS => ?_)
  have h1 : s.vm.findClass ("[" ++ ty.toString) = some cA := ka_nm (hK.2 6 (cA, ty) rfl).2
  have h2 : s.vm.findClass ("[" ++ ty.toString) = some (cs i) := ka_nm (C.2.2.2.2.2.1.2 i (cs i, ty) hi).2
  obtain rfl : cA = cs i := Option.some.inj (h1.symm.trans h2)
  unfold wI9 at hP hD
  rw [List.append_assoc] at hP hD
  exact kk b H ⟨hP, hD, hS⟩
theorem kn_q {C9 : String} {i N : Nat} {n : Int32} (C : th_Cx p s m args meth c cc own nL ret (dC, dI) (th_ty cs) E A) (hw : th_wI (dC, dI) wI9 A s.heap (r ++ t) H locs) (hl : (Cond.classLink own idx C9).before args s = true) (ho : va_AO C9 s) (hi : (th_ty cs)[i]? = some (cs i, .object C9)) (hn : ¬ n < 0) (hN : n.toNatClampNeg = N) (hby : N * 4 ≤ 536870912) (hc : cells + 1 ≤ R.cells) (hs : slots + N ≤ R.slots) (hd : decode cc pc = .ok (.anewarray idx, 3)) (kk : ∀ (b : Nat) (H : Heap), th_wI (dC, dI) wI9 A s.heap (r ++ (t ++ [(b, .inl (cs i, (N, .inr (.inr (.inr (.inr (fun _ => none)))))))])) H locs → W p l e R s m args below meth c H locs (cells + 1) (slots + N) Q (F0 m (pc + 3) ls (.ref b :: rest))) : W p l e R s m args below meth c H locs cells slots Q (F0 m pc ls (.int n :: rest)) := by
  refine va_newq (D := (dC, dI)) C.1 C.2.1 C.2.2.2.1 hl ho C.2.2.2.2.2.1 hw.1 hw.2.1 hw.2.2 C.2.2.2.2.2.2.2.2.1 hn hN hby hc hs hd (fun b cA H hK hP hD hS => ?_)
  have h1 : s.vm.findClass ("[" ++ (FieldType.object C9).toString) = some cA := ka_nm (hK.2 6 (cA, .object C9) rfl).2
  have h2 : s.vm.findClass ("[" ++ (FieldType.object C9).toString) = some (cs i) := ka_nm (C.2.2.2.2.2.1.2 i (cs i, .object C9) hi).2
  obtain rfl : cA = cs i := Option.some.inj (h1.symm.trans h2)
  unfold wI9 at hP hD
  rw [List.append_assoc] at hP hD
  exact kk b H ⟨hP, hD, hS⟩
theorem kn_o {C9 : String} {T : u_T} {N ci : Nat} {ty : Nat → FieldType} {fs : List Value} (C : th_Cx p s m args meth c cc own nL ret (dC, dI) (th_ty cs) E A) (hw : th_wI (dC, dI) wI9 A s.heap (r ++ t) H locs) (hin : ∀ w ∈ u_ws C9 T N, w ∈ th_BIG) (hty : ∀ k, k < N → parseFieldDescriptor (T k).2.2.1 = some (ty k)) (hl : (Cond.classLink own idx C9).before args s = true) (hins : Cond.instantiable C9 N ∈ th_BIG) (hini : Cond.initialized C9 ∈ th_BIG) (hci : vwCl[ci]? = some (C9, T, N)) (hfs : ∀ j, j < N → defaultValue (ty j) = vp_V fs j) (hc : cells + 1 ≤ R.cells) (hs : slots + N ≤ R.slots) (hd : decode cc pc = .ok (.new idx, 3)) (kk : ∀ (b : Nat) (H : Heap), th_wI (dC, dI) wI9 A s.heap (r ++ (t ++ [(b, .inr (ci, fs))])) H locs → W p l e R s m args below meth c H locs (cells + 1) (slots + N) Q (F0 m (pc + 3) ls (.ref b :: rest))) : W p l e R s m args below meth c H locs cells slots Q (F0 m pc ls rest) := by
  refine va_new (D := (dC, dI)) (ci := ci) (fs := fs) (C := C9) (T := T) (N := N) C.1 C.2.1 C.2.2.2.2.1 hin ty hty C.2.2.2.1 hl (C.2.2.2.2.1 _ hins) (C.2.2.2.2.1 _ hini) C.2.2.2.2.2.1 hw.1 hw.2.1 hw.2.2 C.2.2.2.2.2.2.2.2.1 hci hfs hc hs hd (fun b H hP hD hS => ?_)
  unfold wI9 at hP hD
  rw [List.append_assoc] at hP hD
  exact kk b H ⟨hP, hD, hS⟩
theorem th_callIn {α : Type} {w : α → va_W} {u : α} {k n d mc ms : Nat} {y : MethodName} {bytes : ByteArray} {b : Addr} {As : List Value} {D : va_G} {tys : List (ClassId × FieldType)} {K : α → Prop} {st : List Value} {host : String} (C : th_Cx p s m args meth c cc own nL ret D tys E A) (h2 : Cond.instanceMethod y ∈ th_BIG) (h3 : Cond.initialized y.cls ∈ th_BIG) (h4 : Cond.code y bytes n none ∈ th_BIG) (h5 : y.name = "<init>") (h6 : y.cls ≠ "java/lang/invoke/MethodHandle" ∧ y.cls ≠ "java/lang/invoke/VarHandle" ∧ (parseMethodDescriptor y.desc).map (fun d => d.parameters.length) = some k) (h1 : va_Nw (.methodLinkNest own idx y host) s) (hM : th_Cv l y bytes n none d mc ms D tys E w (.ref b :: As) u K) (hw : th_wI D w A s.heap u H locs) (hst : st = As.reverse ++ .ref b :: rest) (hn : As.length = k) (hR : d + 1 ≤ R.frames ∧ 8 + (n + 11) + 50 * d ≤ R.locals) (hz : ls.size = nL) (hrest : (rest.map fun v => v.category).sum ≤ 8) (hcs : cells + mc ≤ R.cells ∧ slots + ms ≤ R.slots) (hd : decode cc pc = .ok (.invokespecial idx, 3))
    (kk : ∀ (u1 : α) (H1 : Heap) (locs1 : List Loc), K u1 → th_wI D w A s.heap u1 H1 locs1 → W p l e R s m args below meth c H1 locs1 (cells + mc) (slots + ms) Q (F0 m (pc + 3) ls rest)) : W p l e R s m args below meth c H locs cells slots Q (F0 m pc ls st) := by
  obtain ⟨hx, hb, hml, hown, hts, hK, -, -, hA, hE0, hE⟩ := C
  subst hst
  have hF := hw.free hA
  refine va_callv (va_runIN (As := As) (rest := rest) ⟨hx, hb, hml, hown, hts⟩ (hM H.size) ⟨va_cnB k hts (th_good (fun w hw => (List.mem_cons.mp hw).elim (fun e => e ▸ h4) id)) rfl rfl rfl h1 (hts _ h3) h6 hR, h5, hts _ h2⟩ ⟨th_blind hE, th_start hK hA hE0 hE hw⟩ rfl hn hz rfl (lv_room hrest) hd hcs) hw.2.2 (fun q _ h => hF q h) hF (fun u1 t H1 locs1 ht _ hp hB _ _ hS => kk u1 H1 locs1 hp ⟨by rw [← ht]; exact hB.1, hB.2.weaken (fun _ q _ h => hF q.1 h), hS⟩)
end
theorem lkN_X7_40 : th_LV RX7 RX7 40 yX7_empty cX7_empty 2 0 none := ⟨th_goodV (th_b1 68 rfl rfl) (th_b1 70 rfl rfl) (th_bs 0 rfl rfl) (th_b1 4 rfl rfl) (th_b1 71 rfl rfl), by decide +kernel⟩
theorem dX6_init_0 : decode cX6_init 0 = .ok (.aload_n 0, 1) := by decide +kernel
theorem dX6_init_1 : decode cX6_init 1 = .ok (.invokespecial 1, 3) := by decide +kernel
theorem dX6_init_4 : decode cX6_init 4 = .ok (.aload_n 0, 1) := by decide +kernel
theorem dX6_init_5 : decode cX6_init 5 = .ok (.sipush 440, 3) := by decide +kernel
theorem dX6_init_8 : decode cX6_init 8 = .ok (.newarray .byte, 2) := by decide +kernel
theorem dX6_init_10 : decode cX6_init 10 = .ok (.putfield 9, 3) := by decide +kernel
theorem dX6_init_13 : decode cX6_init 13 = .ok (.aload_n 0, 1) := by decide +kernel
theorem dX6_init_14 : decode cX6_init 14 = .ok (.iconst 0, 1) := by decide +kernel
theorem dX6_init_15 : decode cX6_init 15 = .ok (.putfield 13, 3) := by decide +kernel
theorem dX6_init_18 : decode cX6_init 18 = .ok (.return_, 1) := by decide +kernel
set_option maxHeartbeats 4000000 in
set_option maxRecDepth 100000 in
theorem N_X6_c {l : Launch} {dC : Nat → ClassId} {dI : Nat → Nat → Nat} {cs : Nat → ClassId} {ad ak : Nat → Nat}  {r : va_W} {x : Nat} (hE : th_EO (xE5 ad ak)) : th_Cv l yX6_init cX6_init 1 none 1 1 440 (dC, dI) (th_ty cs) (xE5 ad ak) wI9 [.ref x] (r ++ [(x, .inr (6, [.null, .int 0]))]) (fun ws => ∃ b1 : Nat, ws = r ++ [(x, .inr (6, [.ref b1, .int 0])), (b1, .inl (cs 0, (440, .inl (fun _ => 0))))]) := by
  refine th_ofvI (by decide) (Nat.le_of_ble_eq_true rfl) hE rfl ?_
  intro p e s m below meth c A ls C hin hw hl
  have C : th_Cx p s m _ meth c cX6_init RX6 1 none (dC, dI) (th_ty cs) (xE5 ad ak) A := C
  have hl : lv_has ls 1 [(0, .ref x)] := hl
  generalize (List.toArray _ : Array Value) = args at C ⊢
  have hx := C.1
  have hb := C.2.1
  refine lv_aload_n hx hb dX6_init_0 rfl (lv_at hl 0 rfl) ?_
  refine W.objInit hx hb C.2.2.2.1 (C.2.2.2.2.1 _ (th_b1 39 rfl rfl)) (C.2.2.2.2.1 _ (th_b1 32 rfl rfl)) (C.2.2.2.2.1 _ (th_b1 33 rfl rfl)) rfl (by rw [C.2.2.1]; exact hl.1) rfl dX6_init_1 (Nat.le_of_ble_eq_true rfl) (Nat.le_of_ble_eq_true rfl) ?_
  refine W.eq (g2 := F0 m 4 ls []) rfl ?_
  refine lv_aload_n hx hb dX6_init_4 rfl (lv_at hl 0 rfl) ?_
  refine lv_sipush (v := (440 : Int32)) hx hb dX6_init_5 (by decide) ?_
  refine kn_a (N := 440) (i := 0) (ty := .byte) (a0 := (440, .inl (fun _ => 0))) C hw (th_b1 52 rfl rfl) rfl rfl (fun _ => rfl) (by decide) (by decide) (by decide) (Nat.le_of_ble_eq_true rfl) (Nat.le_of_ble_eq_true rfl) dX6_init_8 (fun b1 H hw => ?_)
  replace hw : th_wI (dC, dI) wI9 A s.heap (r ++ [(x, .inr (6, [.null, .int 0])), (b1, .inl (cs 0, (440, .inl (fun _ => 0))))]) H _ := hw
  refine va_putF (D := (dC, dI)) (ci := 6) (v := .ref b1) (ty := .array .byte) (C := RX6) (T := TX6) (N := 2) C.1 C.2.1 C.2.2.2.2.1 in0X6 tyX6 tyX6_ok nmX6 C.2.2.2.1 C.2.2.2.2.2.1 hw.1 hw.2.1 hw.2.2 r.length kc_at rfl 0 (by decide) (C.2.2.2.2.1 _ (th_b1 40 rfl rfl)) (fun _ h => h) rfl hin rfl (by decide +kernel) rfl rfl (Nat.le_of_ble_eq_true rfl) dX6_init_10 (fun H locs hP hD hS => ?_)
  unfold wI9 at hP hD
  rw [kc_set] at hP hD
  replace hw : th_wI (dC, dI) wI9 A s.heap (r ++ [(x, .inr (6, [.ref b1, .int 0])), (b1, .inl (cs 0, (440, .inl (fun _ => 0))))]) H locs := ⟨hP, hD, hS⟩
  clear hP hD hS
  refine lv_aload_n hx hb dX6_init_13 rfl (lv_at hl 0 rfl) ?_
  refine lv_iconst (v := (0 : Int32)) hx hb dX6_init_14 (by decide) ?_
  refine va_put (D := (dC, dI)) (ci := 6) (v := .int 0) (ty := .int) (C := RX6) (T := TX6) (N := 2) C.1 C.2.1 C.2.2.2.2.1 in0X6 tyX6 tyX6_ok nmX6 C.2.2.2.1 C.2.2.2.2.2.1 hw.1 hw.2.1 hw.2.2 r.length kc_at rfl 1 (by decide) (C.2.2.2.2.1 _ (th_b1 41 rfl rfl)) (fun _ h => h) rfl (by decide +kernel) rfl rfl (Nat.le_of_ble_eq_true rfl) dX6_init_15 (fun H locs hP hD hS => ?_)
  unfold wI9 at hP hD
  rw [kc_set] at hP hD
  replace hw : th_wI (dC, dI) wI9 A s.heap (r ++ [(x, .inr (6, [.ref b1, .int 0])), (b1, .inl (cs 0, (440, .inl (fun _ => 0))))]) H locs := ⟨hP, hD, hS⟩
  clear hP hD hS
  exact th_vret C hw ⟨b1, rfl⟩ dX6_init_18
theorem dX9_init_0 : decode cX9_init 0 = .ok (.aload_n 0, 1) := by decide +kernel
theorem dX9_init_1 : decode cX9_init 1 = .ok (.invokespecial 5, 3) := by decide +kernel
theorem dX9_init_4 : decode cX9_init 4 = .ok (.aload_n 0, 1) := by decide +kernel
theorem dX9_init_5 : decode cX9_init 5 = .ok (.bipush 48, 2) := by decide +kernel
theorem dX9_init_7 : decode cX9_init 7 = .ok (.newarray .int, 2) := by decide +kernel
theorem dX9_init_9 : decode cX9_init 9 = .ok (.putfield 11, 3) := by decide +kernel
theorem dX9_init_12 : decode cX9_init 12 = .ok (.aload_n 0, 1) := by decide +kernel
theorem dX9_init_13 : decode cX9_init 13 = .ok (.bipush 48, 2) := by decide +kernel
theorem dX9_init_15 : decode cX9_init 15 = .ok (.newarray .int, 2) := by decide +kernel
theorem dX9_init_17 : decode cX9_init 17 = .ok (.putfield 15, 3) := by decide +kernel
theorem dX9_init_20 : decode cX9_init 20 = .ok (.aload_n 0, 1) := by decide +kernel
theorem dX9_init_21 : decode cX9_init 21 = .ok (.iconst 0, 1) := by decide +kernel
theorem dX9_init_22 : decode cX9_init 22 = .ok (.putfield 18, 3) := by decide +kernel
theorem dX9_init_25 : decode cX9_init 25 = .ok (.aload_n 0, 1) := by decide +kernel
theorem dX9_init_26 : decode cX9_init 26 = .ok (.sipush 961, 3) := by decide +kernel
theorem dX9_init_29 : decode cX9_init 29 = .ok (.newarray .long, 2) := by decide +kernel
theorem dX9_init_31 : decode cX9_init 31 = .ok (.putfield 22, 3) := by decide +kernel
theorem dX9_init_34 : decode cX9_init 34 = .ok (.aload_n 0, 1) := by decide +kernel
theorem dX9_init_35 : decode cX9_init 35 = .ok (.sipush 961, 3) := by decide +kernel
theorem dX9_init_38 : decode cX9_init 38 = .ok (.newarray .long, 2) := by decide +kernel
theorem dX9_init_40 : decode cX9_init 40 = .ok (.putfield 26, 3) := by decide +kernel
theorem dX9_init_43 : decode cX9_init 43 = .ok (.aload_n 0, 1) := by decide +kernel
theorem dX9_init_44 : decode cX9_init 44 = .ok (.bipush 32, 2) := by decide +kernel
theorem dX9_init_46 : decode cX9_init 46 = .ok (.newarray .long, 2) := by decide +kernel
theorem dX9_init_48 : decode cX9_init 48 = .ok (.putfield 29, 3) := by decide +kernel
theorem dX9_init_51 : decode cX9_init 51 = .ok (.aload_n 0, 1) := by decide +kernel
theorem dX9_init_52 : decode cX9_init 52 = .ok (.sipush 1488, 3) := by decide +kernel
theorem dX9_init_55 : decode cX9_init 55 = .ok (.newarray .int, 2) := by decide +kernel
theorem dX9_init_57 : decode cX9_init 57 = .ok (.putfield 32, 3) := by decide +kernel
theorem dX9_init_60 : decode cX9_init 60 = .ok (.aload_n 0, 1) := by decide +kernel
theorem dX9_init_61 : decode cX9_init 61 = .ok (.bipush 31, 2) := by decide +kernel
theorem dX9_init_63 : decode cX9_init 63 = .ok (.newarray .int, 2) := by decide +kernel
theorem dX9_init_65 : decode cX9_init 65 = .ok (.putfield 35, 3) := by decide +kernel
theorem dX9_init_68 : decode cX9_init 68 = .ok (.aload_n 0, 1) := by decide +kernel
theorem dX9_init_69 : decode cX9_init 69 = .ok (.bipush 31, 2) := by decide +kernel
theorem dX9_init_71 : decode cX9_init 71 = .ok (.newarray .int, 2) := by decide +kernel
theorem dX9_init_73 : decode cX9_init 73 = .ok (.putfield 38, 3) := by decide +kernel
theorem dX9_init_76 : decode cX9_init 76 = .ok (.return_, 1) := by decide +kernel
set_option maxHeartbeats 4000000 in
set_option maxRecDepth 100000 in
theorem N_X9_c {l : Launch} {dC : Nat → ClassId} {dI : Nat → Nat → Nat} {cs : Nat → ClassId} {ad ak : Nat → Nat}  {r : va_W} {x : Nat} (hE : th_EO (xE5 ad ak)) : th_Cv l yX9_init cX9_init 1 none 1 8 3600 (dC, dI) (th_ty cs) (xE5 ad ak) wI9 [.ref x] (r ++ [(x, .inr (8, [.null, .null, .int 0, .null, .null, .null, .null, .null, .null]))]) (fun ws => ∃ b1 : Nat, ∃ b2 : Nat, ∃ b3 : Nat, ∃ b4 : Nat, ∃ b5 : Nat, ∃ b6 : Nat, ∃ b7 : Nat, ∃ b8 : Nat, ws = r ++ [(x, .inr (8, [.ref b1, .ref b2, .int 0, .ref b3, .ref b4, .ref b5, .ref b6, .ref b7, .ref b8])), (b1, .inl (cs 1, (48, .inl (fun _ => 0)))), (b2, .inl (cs 1, (48, .inl (fun _ => 0)))), (b3, .inl (cs 2, (961, .inr (.inl (fun _ => 0))))), (b4, .inl (cs 2, (961, .inr (.inl (fun _ => 0))))), (b5, .inl (cs 2, (32, .inr (.inl (fun _ => 0))))), (b6, .inl (cs 1, (1488, .inl (fun _ => 0)))), (b7, .inl (cs 1, (31, .inl (fun _ => 0)))), (b8, .inl (cs 1, (31, .inl (fun _ => 0))))]) := by
  refine th_ofvI (by decide) (Nat.le_of_ble_eq_true rfl) hE rfl ?_
  intro p e s m below meth c A ls C hin hw hl
  have C : th_Cx p s m _ meth c cX9_init RX9 1 none (dC, dI) (th_ty cs) (xE5 ad ak) A := C
  have hl : lv_has ls 1 [(0, .ref x)] := hl
  generalize (List.toArray _ : Array Value) = args at C ⊢
  have hx := C.1
  have hb := C.2.1
  refine lv_aload_n hx hb dX9_init_0 rfl (lv_at hl 0 rfl) ?_
  refine W.objInit hx hb C.2.2.2.1 (C.2.2.2.2.1 _ (th_b2 36 rfl rfl)) (C.2.2.2.2.1 _ (th_b1 32 rfl rfl)) (C.2.2.2.2.1 _ (th_b1 33 rfl rfl)) rfl (by rw [C.2.2.1]; exact hl.1) rfl dX9_init_1 (Nat.le_of_ble_eq_true rfl) (Nat.le_of_ble_eq_true rfl) ?_
  refine W.eq (g2 := F0 m 4 ls []) rfl ?_
  refine lv_aload_n hx hb dX9_init_4 rfl (lv_at hl 0 rfl) ?_
  refine lv_bipush (v := (48 : Int32)) hx hb dX9_init_5 (by decide) ?_
  refine kn_a (N := 48) (i := 1) (ty := .int) (a0 := (48, .inl (fun _ => 0))) C hw (th_b1 136 rfl rfl) rfl rfl (fun _ => rfl) (by decide) (by decide) (by decide) (Nat.le_of_ble_eq_true rfl) (Nat.le_of_ble_eq_true rfl) dX9_init_7 (fun b1 H hw => ?_)
  replace hw : th_wI (dC, dI) wI9 A s.heap (r ++ [(x, .inr (8, [.null, .null, .int 0, .null, .null, .null, .null, .null, .null])), (b1, .inl (cs 1, (48, .inl (fun _ => 0))))]) H _ := hw
  refine va_putF (D := (dC, dI)) (ci := 8) (v := .ref b1) (ty := .array .int) (C := RX9) (T := TX9) (N := 9) C.1 C.2.1 C.2.2.2.2.1 in0X9 tyX9 tyX9_ok nmX9 C.2.2.2.1 C.2.2.2.2.2.1 hw.1 hw.2.1 hw.2.2 r.length kc_at rfl 0 (by decide) (C.2.2.2.2.1 _ (th_b2 37 rfl rfl)) (fun _ h => h) rfl hin rfl (by decide +kernel) rfl rfl (Nat.le_of_ble_eq_true rfl) dX9_init_9 (fun H locs hP hD hS => ?_)
  unfold wI9 at hP hD
  rw [kc_set] at hP hD
  replace hw : th_wI (dC, dI) wI9 A s.heap (r ++ [(x, .inr (8, [.ref b1, .null, .int 0, .null, .null, .null, .null, .null, .null])), (b1, .inl (cs 1, (48, .inl (fun _ => 0))))]) H locs := ⟨hP, hD, hS⟩
  clear hP hD hS
  refine lv_aload_n hx hb dX9_init_12 rfl (lv_at hl 0 rfl) ?_
  refine lv_bipush (v := (48 : Int32)) hx hb dX9_init_13 (by decide) ?_
  refine kn_a (N := 48) (i := 1) (ty := .int) (a0 := (48, .inl (fun _ => 0))) C hw (th_b1 136 rfl rfl) rfl rfl (fun _ => rfl) (by decide) (by decide) (by decide) (Nat.le_of_ble_eq_true rfl) (Nat.le_of_ble_eq_true rfl) dX9_init_15 (fun b2 H hw => ?_)
  replace hw : th_wI (dC, dI) wI9 A s.heap (r ++ [(x, .inr (8, [.ref b1, .null, .int 0, .null, .null, .null, .null, .null, .null])), (b1, .inl (cs 1, (48, .inl (fun _ => 0)))), (b2, .inl (cs 1, (48, .inl (fun _ => 0))))]) H _ := hw
  refine va_putF (D := (dC, dI)) (ci := 8) (v := .ref b2) (ty := .array .int) (C := RX9) (T := TX9) (N := 9) C.1 C.2.1 C.2.2.2.2.1 in0X9 tyX9 tyX9_ok nmX9 C.2.2.2.1 C.2.2.2.2.2.1 hw.1 hw.2.1 hw.2.2 r.length kc_at rfl 1 (by decide) (C.2.2.2.2.1 _ (th_b2 39 rfl rfl)) (fun _ h => h) rfl hin rfl (by decide +kernel) rfl rfl (Nat.le_of_ble_eq_true rfl) dX9_init_17 (fun H locs hP hD hS => ?_)
  unfold wI9 at hP hD
  rw [kc_set] at hP hD
  replace hw : th_wI (dC, dI) wI9 A s.heap (r ++ [(x, .inr (8, [.ref b1, .ref b2, .int 0, .null, .null, .null, .null, .null, .null])), (b1, .inl (cs 1, (48, .inl (fun _ => 0)))), (b2, .inl (cs 1, (48, .inl (fun _ => 0))))]) H locs := ⟨hP, hD, hS⟩
  clear hP hD hS
  refine lv_aload_n hx hb dX9_init_20 rfl (lv_at hl 0 rfl) ?_
  refine lv_iconst (v := (0 : Int32)) hx hb dX9_init_21 (by decide) ?_
  refine va_put (D := (dC, dI)) (ci := 8) (v := .int 0) (ty := .int) (C := RX9) (T := TX9) (N := 9) C.1 C.2.1 C.2.2.2.2.1 in0X9 tyX9 tyX9_ok nmX9 C.2.2.2.1 C.2.2.2.2.2.1 hw.1 hw.2.1 hw.2.2 r.length kc_at rfl 2 (by decide) (C.2.2.2.2.1 _ (th_b2 41 rfl rfl)) (fun _ h => h) rfl (by decide +kernel) rfl rfl (Nat.le_of_ble_eq_true rfl) dX9_init_22 (fun H locs hP hD hS => ?_)
  unfold wI9 at hP hD
  rw [kc_set] at hP hD
  replace hw : th_wI (dC, dI) wI9 A s.heap (r ++ [(x, .inr (8, [.ref b1, .ref b2, .int 0, .null, .null, .null, .null, .null, .null])), (b1, .inl (cs 1, (48, .inl (fun _ => 0)))), (b2, .inl (cs 1, (48, .inl (fun _ => 0))))]) H locs := ⟨hP, hD, hS⟩
  clear hP hD hS
  refine lv_aload_n hx hb dX9_init_25 rfl (lv_at hl 0 rfl) ?_
  refine lv_sipush (v := (961 : Int32)) hx hb dX9_init_26 (by decide) ?_
  refine kn_a (N := 961) (i := 2) (ty := .long) (a0 := (961, .inr (.inl (fun _ => 0)))) C hw (th_b2 68 rfl rfl) rfl rfl (fun _ => rfl) (by decide) (by decide) (by decide) (Nat.le_of_ble_eq_true rfl) (Nat.le_of_ble_eq_true rfl) dX9_init_29 (fun b3 H hw => ?_)
  replace hw : th_wI (dC, dI) wI9 A s.heap (r ++ [(x, .inr (8, [.ref b1, .ref b2, .int 0, .null, .null, .null, .null, .null, .null])), (b1, .inl (cs 1, (48, .inl (fun _ => 0)))), (b2, .inl (cs 1, (48, .inl (fun _ => 0)))), (b3, .inl (cs 2, (961, .inr (.inl (fun _ => 0)))))]) H _ := hw
  refine va_put (D := (dC, dI)) (ci := 8) (v := .ref b3) (ty := .array .long) (C := RX9) (T := TX9) (N := 9) C.1 C.2.1 C.2.2.2.2.1 in0X9 tyX9 tyX9_ok nmX9 C.2.2.2.1 C.2.2.2.2.2.1 hw.1 hw.2.1 hw.2.2 r.length kc_at rfl 3 (by decide) (C.2.2.2.2.1 _ (th_b2 43 rfl rfl)) (fun _ h => h) rfl (by decide +kernel) rfl rfl (Nat.le_of_ble_eq_true rfl) dX9_init_31 (fun H locs hP hD hS => ?_)
  unfold wI9 at hP hD
  rw [kc_set] at hP hD
  replace hw : th_wI (dC, dI) wI9 A s.heap (r ++ [(x, .inr (8, [.ref b1, .ref b2, .int 0, .ref b3, .null, .null, .null, .null, .null])), (b1, .inl (cs 1, (48, .inl (fun _ => 0)))), (b2, .inl (cs 1, (48, .inl (fun _ => 0)))), (b3, .inl (cs 2, (961, .inr (.inl (fun _ => 0)))))]) H locs := ⟨hP, hD, hS⟩
  clear hP hD hS
  refine lv_aload_n hx hb dX9_init_34 rfl (lv_at hl 0 rfl) ?_
  refine lv_sipush (v := (961 : Int32)) hx hb dX9_init_35 (by decide) ?_
  refine kn_a (N := 961) (i := 2) (ty := .long) (a0 := (961, .inr (.inl (fun _ => 0)))) C hw (th_b2 68 rfl rfl) rfl rfl (fun _ => rfl) (by decide) (by decide) (by decide) (Nat.le_of_ble_eq_true rfl) (Nat.le_of_ble_eq_true rfl) dX9_init_38 (fun b4 H hw => ?_)
  replace hw : th_wI (dC, dI) wI9 A s.heap (r ++ [(x, .inr (8, [.ref b1, .ref b2, .int 0, .ref b3, .null, .null, .null, .null, .null])), (b1, .inl (cs 1, (48, .inl (fun _ => 0)))), (b2, .inl (cs 1, (48, .inl (fun _ => 0)))), (b3, .inl (cs 2, (961, .inr (.inl (fun _ => 0))))), (b4, .inl (cs 2, (961, .inr (.inl (fun _ => 0)))))]) H _ := hw
  refine va_put (D := (dC, dI)) (ci := 8) (v := .ref b4) (ty := .array .long) (C := RX9) (T := TX9) (N := 9) C.1 C.2.1 C.2.2.2.2.1 in0X9 tyX9 tyX9_ok nmX9 C.2.2.2.1 C.2.2.2.2.2.1 hw.1 hw.2.1 hw.2.2 r.length kc_at rfl 4 (by decide) (C.2.2.2.2.1 _ (th_b2 44 rfl rfl)) (fun _ h => h) rfl (by decide +kernel) rfl rfl (Nat.le_of_ble_eq_true rfl) dX9_init_40 (fun H locs hP hD hS => ?_)
  unfold wI9 at hP hD
  rw [kc_set] at hP hD
  replace hw : th_wI (dC, dI) wI9 A s.heap (r ++ [(x, .inr (8, [.ref b1, .ref b2, .int 0, .ref b3, .ref b4, .null, .null, .null, .null])), (b1, .inl (cs 1, (48, .inl (fun _ => 0)))), (b2, .inl (cs 1, (48, .inl (fun _ => 0)))), (b3, .inl (cs 2, (961, .inr (.inl (fun _ => 0))))), (b4, .inl (cs 2, (961, .inr (.inl (fun _ => 0)))))]) H locs := ⟨hP, hD, hS⟩
  clear hP hD hS
  refine lv_aload_n hx hb dX9_init_43 rfl (lv_at hl 0 rfl) ?_
  refine lv_bipush (v := (32 : Int32)) hx hb dX9_init_44 (by decide) ?_
  refine kn_a (N := 32) (i := 2) (ty := .long) (a0 := (32, .inr (.inl (fun _ => 0)))) C hw (th_b2 68 rfl rfl) rfl rfl (fun _ => rfl) (by decide) (by decide) (by decide) (Nat.le_of_ble_eq_true rfl) (Nat.le_of_ble_eq_true rfl) dX9_init_46 (fun b5 H hw => ?_)
  replace hw : th_wI (dC, dI) wI9 A s.heap (r ++ [(x, .inr (8, [.ref b1, .ref b2, .int 0, .ref b3, .ref b4, .null, .null, .null, .null])), (b1, .inl (cs 1, (48, .inl (fun _ => 0)))), (b2, .inl (cs 1, (48, .inl (fun _ => 0)))), (b3, .inl (cs 2, (961, .inr (.inl (fun _ => 0))))), (b4, .inl (cs 2, (961, .inr (.inl (fun _ => 0))))), (b5, .inl (cs 2, (32, .inr (.inl (fun _ => 0)))))]) H _ := hw
  refine va_putF (D := (dC, dI)) (ci := 8) (v := .ref b5) (ty := .array .long) (C := RX9) (T := TX9) (N := 9) C.1 C.2.1 C.2.2.2.2.1 in0X9 tyX9 tyX9_ok nmX9 C.2.2.2.1 C.2.2.2.2.2.1 hw.1 hw.2.1 hw.2.2 r.length kc_at rfl 5 (by decide) (C.2.2.2.2.1 _ (th_b2 45 rfl rfl)) (fun _ h => h) rfl hin rfl (by decide +kernel) rfl rfl (Nat.le_of_ble_eq_true rfl) dX9_init_48 (fun H locs hP hD hS => ?_)
  unfold wI9 at hP hD
  rw [kc_set] at hP hD
  replace hw : th_wI (dC, dI) wI9 A s.heap (r ++ [(x, .inr (8, [.ref b1, .ref b2, .int 0, .ref b3, .ref b4, .ref b5, .null, .null, .null])), (b1, .inl (cs 1, (48, .inl (fun _ => 0)))), (b2, .inl (cs 1, (48, .inl (fun _ => 0)))), (b3, .inl (cs 2, (961, .inr (.inl (fun _ => 0))))), (b4, .inl (cs 2, (961, .inr (.inl (fun _ => 0))))), (b5, .inl (cs 2, (32, .inr (.inl (fun _ => 0)))))]) H locs := ⟨hP, hD, hS⟩
  clear hP hD hS
  refine lv_aload_n hx hb dX9_init_51 rfl (lv_at hl 0 rfl) ?_
  refine lv_sipush (v := (1488 : Int32)) hx hb dX9_init_52 (by decide) ?_
  refine kn_a (N := 1488) (i := 1) (ty := .int) (a0 := (1488, .inl (fun _ => 0))) C hw (th_b1 136 rfl rfl) rfl rfl (fun _ => rfl) (by decide) (by decide) (by decide) (Nat.le_of_ble_eq_true rfl) (Nat.le_of_ble_eq_true rfl) dX9_init_55 (fun b6 H hw => ?_)
  replace hw : th_wI (dC, dI) wI9 A s.heap (r ++ [(x, .inr (8, [.ref b1, .ref b2, .int 0, .ref b3, .ref b4, .ref b5, .null, .null, .null])), (b1, .inl (cs 1, (48, .inl (fun _ => 0)))), (b2, .inl (cs 1, (48, .inl (fun _ => 0)))), (b3, .inl (cs 2, (961, .inr (.inl (fun _ => 0))))), (b4, .inl (cs 2, (961, .inr (.inl (fun _ => 0))))), (b5, .inl (cs 2, (32, .inr (.inl (fun _ => 0))))), (b6, .inl (cs 1, (1488, .inl (fun _ => 0))))]) H _ := hw
  refine va_putF (D := (dC, dI)) (ci := 8) (v := .ref b6) (ty := .array .int) (C := RX9) (T := TX9) (N := 9) C.1 C.2.1 C.2.2.2.2.1 in0X9 tyX9 tyX9_ok nmX9 C.2.2.2.1 C.2.2.2.2.2.1 hw.1 hw.2.1 hw.2.2 r.length kc_at rfl 6 (by decide) (C.2.2.2.2.1 _ (th_b2 46 rfl rfl)) (fun _ h => h) rfl hin rfl (by decide +kernel) rfl rfl (Nat.le_of_ble_eq_true rfl) dX9_init_57 (fun H locs hP hD hS => ?_)
  unfold wI9 at hP hD
  rw [kc_set] at hP hD
  replace hw : th_wI (dC, dI) wI9 A s.heap (r ++ [(x, .inr (8, [.ref b1, .ref b2, .int 0, .ref b3, .ref b4, .ref b5, .ref b6, .null, .null])), (b1, .inl (cs 1, (48, .inl (fun _ => 0)))), (b2, .inl (cs 1, (48, .inl (fun _ => 0)))), (b3, .inl (cs 2, (961, .inr (.inl (fun _ => 0))))), (b4, .inl (cs 2, (961, .inr (.inl (fun _ => 0))))), (b5, .inl (cs 2, (32, .inr (.inl (fun _ => 0))))), (b6, .inl (cs 1, (1488, .inl (fun _ => 0))))]) H locs := ⟨hP, hD, hS⟩
  clear hP hD hS
  refine lv_aload_n hx hb dX9_init_60 rfl (lv_at hl 0 rfl) ?_
  refine lv_bipush (v := (31 : Int32)) hx hb dX9_init_61 (by decide) ?_
  refine kn_a (N := 31) (i := 1) (ty := .int) (a0 := (31, .inl (fun _ => 0))) C hw (th_b1 136 rfl rfl) rfl rfl (fun _ => rfl) (by decide) (by decide) (by decide) (Nat.le_of_ble_eq_true rfl) (Nat.le_of_ble_eq_true rfl) dX9_init_63 (fun b7 H hw => ?_)
  replace hw : th_wI (dC, dI) wI9 A s.heap (r ++ [(x, .inr (8, [.ref b1, .ref b2, .int 0, .ref b3, .ref b4, .ref b5, .ref b6, .null, .null])), (b1, .inl (cs 1, (48, .inl (fun _ => 0)))), (b2, .inl (cs 1, (48, .inl (fun _ => 0)))), (b3, .inl (cs 2, (961, .inr (.inl (fun _ => 0))))), (b4, .inl (cs 2, (961, .inr (.inl (fun _ => 0))))), (b5, .inl (cs 2, (32, .inr (.inl (fun _ => 0))))), (b6, .inl (cs 1, (1488, .inl (fun _ => 0)))), (b7, .inl (cs 1, (31, .inl (fun _ => 0))))]) H _ := hw
  refine va_put (D := (dC, dI)) (ci := 8) (v := .ref b7) (ty := .array .int) (C := RX9) (T := TX9) (N := 9) C.1 C.2.1 C.2.2.2.2.1 in0X9 tyX9 tyX9_ok nmX9 C.2.2.2.1 C.2.2.2.2.2.1 hw.1 hw.2.1 hw.2.2 r.length kc_at rfl 7 (by decide) (C.2.2.2.2.1 _ (th_b2 47 rfl rfl)) (fun _ h => h) rfl (by decide +kernel) rfl rfl (Nat.le_of_ble_eq_true rfl) dX9_init_65 (fun H locs hP hD hS => ?_)
  unfold wI9 at hP hD
  rw [kc_set] at hP hD
  replace hw : th_wI (dC, dI) wI9 A s.heap (r ++ [(x, .inr (8, [.ref b1, .ref b2, .int 0, .ref b3, .ref b4, .ref b5, .ref b6, .ref b7, .null])), (b1, .inl (cs 1, (48, .inl (fun _ => 0)))), (b2, .inl (cs 1, (48, .inl (fun _ => 0)))), (b3, .inl (cs 2, (961, .inr (.inl (fun _ => 0))))), (b4, .inl (cs 2, (961, .inr (.inl (fun _ => 0))))), (b5, .inl (cs 2, (32, .inr (.inl (fun _ => 0))))), (b6, .inl (cs 1, (1488, .inl (fun _ => 0)))), (b7, .inl (cs 1, (31, .inl (fun _ => 0))))]) H locs := ⟨hP, hD, hS⟩
  clear hP hD hS
  refine lv_aload_n hx hb dX9_init_68 rfl (lv_at hl 0 rfl) ?_
  refine lv_bipush (v := (31 : Int32)) hx hb dX9_init_69 (by decide) ?_
  refine kn_a (N := 31) (i := 1) (ty := .int) (a0 := (31, .inl (fun _ => 0))) C hw (th_b1 136 rfl rfl) rfl rfl (fun _ => rfl) (by decide) (by decide) (by decide) (Nat.le_of_ble_eq_true rfl) (Nat.le_of_ble_eq_true rfl) dX9_init_71 (fun b8 H hw => ?_)
  replace hw : th_wI (dC, dI) wI9 A s.heap (r ++ [(x, .inr (8, [.ref b1, .ref b2, .int 0, .ref b3, .ref b4, .ref b5, .ref b6, .ref b7, .null])), (b1, .inl (cs 1, (48, .inl (fun _ => 0)))), (b2, .inl (cs 1, (48, .inl (fun _ => 0)))), (b3, .inl (cs 2, (961, .inr (.inl (fun _ => 0))))), (b4, .inl (cs 2, (961, .inr (.inl (fun _ => 0))))), (b5, .inl (cs 2, (32, .inr (.inl (fun _ => 0))))), (b6, .inl (cs 1, (1488, .inl (fun _ => 0)))), (b7, .inl (cs 1, (31, .inl (fun _ => 0)))), (b8, .inl (cs 1, (31, .inl (fun _ => 0))))]) H _ := hw
  refine va_put (D := (dC, dI)) (ci := 8) (v := .ref b8) (ty := .array .int) (C := RX9) (T := TX9) (N := 9) C.1 C.2.1 C.2.2.2.2.1 in0X9 tyX9 tyX9_ok nmX9 C.2.2.2.1 C.2.2.2.2.2.1 hw.1 hw.2.1 hw.2.2 r.length kc_at rfl 8 (by decide) (C.2.2.2.2.1 _ (th_b2 48 rfl rfl)) (fun _ h => h) rfl (by decide +kernel) rfl rfl (Nat.le_of_ble_eq_true rfl) dX9_init_73 (fun H locs hP hD hS => ?_)
  unfold wI9 at hP hD
  rw [kc_set] at hP hD
  replace hw : th_wI (dC, dI) wI9 A s.heap (r ++ [(x, .inr (8, [.ref b1, .ref b2, .int 0, .ref b3, .ref b4, .ref b5, .ref b6, .ref b7, .ref b8])), (b1, .inl (cs 1, (48, .inl (fun _ => 0)))), (b2, .inl (cs 1, (48, .inl (fun _ => 0)))), (b3, .inl (cs 2, (961, .inr (.inl (fun _ => 0))))), (b4, .inl (cs 2, (961, .inr (.inl (fun _ => 0))))), (b5, .inl (cs 2, (32, .inr (.inl (fun _ => 0))))), (b6, .inl (cs 1, (1488, .inl (fun _ => 0)))), (b7, .inl (cs 1, (31, .inl (fun _ => 0)))), (b8, .inl (cs 1, (31, .inl (fun _ => 0))))]) H locs := ⟨hP, hD, hS⟩
  clear hP hD hS
  exact th_vret C hw ⟨b1, b2, b3, b4, b5, b6, b7, b8, rfl⟩ dX9_init_76
theorem dX1_init_0 : decode cX1_init 0 = .ok (.aload_n 0, 1) := by decide +kernel
theorem dX1_init_1 : decode cX1_init 1 = .ok (.invokespecial 3, 3) := by decide +kernel
theorem dX1_init_4 : decode cX1_init 4 = .ok (.aload_n 0, 1) := by decide +kernel
theorem dX1_init_5 : decode cX1_init 5 = .ok (.bipush 6, 2) := by decide +kernel
theorem dX1_init_7 : decode cX1_init 7 = .ok (.newarray .int, 2) := by decide +kernel
theorem dX1_init_9 : decode cX1_init 9 = .ok (.putfield 11, 3) := by decide +kernel
theorem dX1_init_12 : decode cX1_init 12 = .ok (.aload_n 0, 1) := by decide +kernel
theorem dX1_init_13 : decode cX1_init 13 = .ok (.bipush 54, 2) := by decide +kernel
theorem dX1_init_15 : decode cX1_init 15 = .ok (.newarray .int, 2) := by decide +kernel
theorem dX1_init_17 : decode cX1_init 17 = .ok (.putfield 15, 3) := by decide +kernel
theorem dX1_init_20 : decode cX1_init 20 = .ok (.aload_n 0, 1) := by decide +kernel
theorem dX1_init_21 : decode cX1_init 21 = .ok (.bipush 49, 2) := by decide +kernel
theorem dX1_init_23 : decode cX1_init 23 = .ok (.newarray .int, 2) := by decide +kernel
theorem dX1_init_25 : decode cX1_init 25 = .ok (.putfield 18, 3) := by decide +kernel
theorem dX1_init_28 : decode cX1_init 28 = .ok (.aload_n 0, 1) := by decide +kernel
theorem dX1_init_29 : decode cX1_init 29 = .ok (.bipush 48, 2) := by decide +kernel
theorem dX1_init_31 : decode cX1_init 31 = .ok (.newarray .int, 2) := by decide +kernel
theorem dX1_init_33 : decode cX1_init 33 = .ok (.putfield 21, 3) := by decide +kernel
theorem dX1_init_36 : decode cX1_init 36 = .ok (.aload_n 0, 1) := by decide +kernel
theorem dX1_init_37 : decode cX1_init 37 = .ok (.bipush 48, 2) := by decide +kernel
theorem dX1_init_39 : decode cX1_init 39 = .ok (.newarray .int, 2) := by decide +kernel
theorem dX1_init_41 : decode cX1_init 41 = .ok (.putfield 24, 3) := by decide +kernel
theorem dX1_init_44 : decode cX1_init 44 = .ok (.aload_n 0, 1) := by decide +kernel
theorem dX1_init_45 : decode cX1_init 45 = .ok (.bipush 48, 2) := by decide +kernel
theorem dX1_init_47 : decode cX1_init 47 = .ok (.newarray .int, 2) := by decide +kernel
theorem dX1_init_49 : decode cX1_init 49 = .ok (.putfield 27, 3) := by decide +kernel
theorem dX1_init_52 : decode cX1_init 52 = .ok (.aload_n 0, 1) := by decide +kernel
theorem dX1_init_53 : decode cX1_init 53 = .ok (.bipush 48, 2) := by decide +kernel
theorem dX1_init_55 : decode cX1_init 55 = .ok (.newarray .int, 2) := by decide +kernel
theorem dX1_init_57 : decode cX1_init 57 = .ok (.putfield 30, 3) := by decide +kernel
theorem dX1_init_60 : decode cX1_init 60 = .ok (.aload_n 0, 1) := by decide +kernel
theorem dX1_init_61 : decode cX1_init 61 = .ok (.bipush 48, 2) := by decide +kernel
theorem dX1_init_63 : decode cX1_init 63 = .ok (.newarray .int, 2) := by decide +kernel
theorem dX1_init_65 : decode cX1_init 65 = .ok (.putfield 33, 3) := by decide +kernel
theorem dX1_init_68 : decode cX1_init 68 = .ok (.aload_n 0, 1) := by decide +kernel
theorem dX1_init_69 : decode cX1_init 69 = .ok (.iconst 0, 1) := by decide +kernel
theorem dX1_init_70 : decode cX1_init 70 = .ok (.putfield 36, 3) := by decide +kernel
theorem dX1_init_73 : decode cX1_init 73 = .ok (.return_, 1) := by decide +kernel
set_option maxHeartbeats 4000000 in
set_option maxRecDepth 100000 in
theorem N_X1_c {l : Launch} {dC : Nat → ClassId} {dI : Nat → Nat → Nat} {cs : Nat → ClassId} {ad ak : Nat → Nat}  {r : va_W} {x : Nat} (hE : th_EO (xE5 ad ak)) : th_Cv l yX1_init cX1_init 1 none 1 8 349 (dC, dI) (th_ty cs) (xE5 ad ak) wI9 [.ref x] (r ++ [(x, .inr (1, [.null, .null, .null, .null, .null, .null, .null, .null, .int 0]))]) (fun ws => ∃ b1 : Nat, ∃ b2 : Nat, ∃ b3 : Nat, ∃ b4 : Nat, ∃ b5 : Nat, ∃ b6 : Nat, ∃ b7 : Nat, ∃ b8 : Nat, ws = r ++ [(x, .inr (1, [.ref b1, .ref b2, .ref b3, .ref b4, .ref b5, .ref b6, .ref b7, .ref b8, .int 0])), (b1, .inl (cs 1, (6, .inl (fun _ => 0)))), (b2, .inl (cs 1, (54, .inl (fun _ => 0)))), (b3, .inl (cs 1, (49, .inl (fun _ => 0)))), (b4, .inl (cs 1, (48, .inl (fun _ => 0)))), (b5, .inl (cs 1, (48, .inl (fun _ => 0)))), (b6, .inl (cs 1, (48, .inl (fun _ => 0)))), (b7, .inl (cs 1, (48, .inl (fun _ => 0)))), (b8, .inl (cs 1, (48, .inl (fun _ => 0))))]) := by
  refine th_ofvI (by decide) (Nat.le_of_ble_eq_true rfl) hE rfl ?_
  intro p e s m below meth c A ls C hin hw hl
  have C : th_Cx p s m _ meth c cX1_init RX1 1 none (dC, dI) (th_ty cs) (xE5 ad ak) A := C
  have hl : lv_has ls 1 [(0, .ref x)] := hl
  generalize (List.toArray _ : Array Value) = args at C ⊢
  have hx := C.1
  have hb := C.2.1
  refine lv_aload_n hx hb dX1_init_0 rfl (lv_at hl 0 rfl) ?_
  refine W.objInit hx hb C.2.2.2.1 (C.2.2.2.2.1 _ (th_b2 74 rfl rfl)) (C.2.2.2.2.1 _ (th_b1 32 rfl rfl)) (C.2.2.2.2.1 _ (th_b1 33 rfl rfl)) rfl (by rw [C.2.2.1]; exact hl.1) rfl dX1_init_1 (Nat.le_of_ble_eq_true rfl) (Nat.le_of_ble_eq_true rfl) ?_
  refine W.eq (g2 := F0 m 4 ls []) rfl ?_
  refine lv_aload_n hx hb dX1_init_4 rfl (lv_at hl 0 rfl) ?_
  refine lv_bipush (v := (6 : Int32)) hx hb dX1_init_5 (by decide) ?_
  refine kn_a (N := 6) (i := 1) (ty := .int) (a0 := (6, .inl (fun _ => 0))) C hw (th_b1 136 rfl rfl) rfl rfl (fun _ => rfl) (by decide) (by decide) (by decide) (Nat.le_of_ble_eq_true rfl) (Nat.le_of_ble_eq_true rfl) dX1_init_7 (fun b1 H hw => ?_)
  replace hw : th_wI (dC, dI) wI9 A s.heap (r ++ [(x, .inr (1, [.null, .null, .null, .null, .null, .null, .null, .null, .int 0])), (b1, .inl (cs 1, (6, .inl (fun _ => 0))))]) H _ := hw
  refine va_putF (D := (dC, dI)) (ci := 1) (v := .ref b1) (ty := .array .int) (C := RX1) (T := TX1) (N := 9) C.1 C.2.1 C.2.2.2.2.1 in0X1 tyX1 tyX1_ok nmX1 C.2.2.2.1 C.2.2.2.2.2.1 hw.1 hw.2.1 hw.2.2 r.length kc_at rfl 0 (by decide) (C.2.2.2.2.1 _ (th_b2 75 rfl rfl)) (fun _ h => h) rfl hin rfl (by decide +kernel) rfl rfl (Nat.le_of_ble_eq_true rfl) dX1_init_9 (fun H locs hP hD hS => ?_)
  unfold wI9 at hP hD
  rw [kc_set] at hP hD
  replace hw : th_wI (dC, dI) wI9 A s.heap (r ++ [(x, .inr (1, [.ref b1, .null, .null, .null, .null, .null, .null, .null, .int 0])), (b1, .inl (cs 1, (6, .inl (fun _ => 0))))]) H locs := ⟨hP, hD, hS⟩
  clear hP hD hS
  refine lv_aload_n hx hb dX1_init_12 rfl (lv_at hl 0 rfl) ?_
  refine lv_bipush (v := (54 : Int32)) hx hb dX1_init_13 (by decide) ?_
  refine kn_a (N := 54) (i := 1) (ty := .int) (a0 := (54, .inl (fun _ => 0))) C hw (th_b1 136 rfl rfl) rfl rfl (fun _ => rfl) (by decide) (by decide) (by decide) (Nat.le_of_ble_eq_true rfl) (Nat.le_of_ble_eq_true rfl) dX1_init_15 (fun b2 H hw => ?_)
  replace hw : th_wI (dC, dI) wI9 A s.heap (r ++ [(x, .inr (1, [.ref b1, .null, .null, .null, .null, .null, .null, .null, .int 0])), (b1, .inl (cs 1, (6, .inl (fun _ => 0)))), (b2, .inl (cs 1, (54, .inl (fun _ => 0))))]) H _ := hw
  refine va_putF (D := (dC, dI)) (ci := 1) (v := .ref b2) (ty := .array .int) (C := RX1) (T := TX1) (N := 9) C.1 C.2.1 C.2.2.2.2.1 in0X1 tyX1 tyX1_ok nmX1 C.2.2.2.1 C.2.2.2.2.2.1 hw.1 hw.2.1 hw.2.2 r.length kc_at rfl 1 (by decide) (C.2.2.2.2.1 _ (th_b2 76 rfl rfl)) (fun _ h => h) rfl hin rfl (by decide +kernel) rfl rfl (Nat.le_of_ble_eq_true rfl) dX1_init_17 (fun H locs hP hD hS => ?_)
  unfold wI9 at hP hD
  rw [kc_set] at hP hD
  replace hw : th_wI (dC, dI) wI9 A s.heap (r ++ [(x, .inr (1, [.ref b1, .ref b2, .null, .null, .null, .null, .null, .null, .int 0])), (b1, .inl (cs 1, (6, .inl (fun _ => 0)))), (b2, .inl (cs 1, (54, .inl (fun _ => 0))))]) H locs := ⟨hP, hD, hS⟩
  clear hP hD hS
  refine lv_aload_n hx hb dX1_init_20 rfl (lv_at hl 0 rfl) ?_
  refine lv_bipush (v := (49 : Int32)) hx hb dX1_init_21 (by decide) ?_
  refine kn_a (N := 49) (i := 1) (ty := .int) (a0 := (49, .inl (fun _ => 0))) C hw (th_b1 136 rfl rfl) rfl rfl (fun _ => rfl) (by decide) (by decide) (by decide) (Nat.le_of_ble_eq_true rfl) (Nat.le_of_ble_eq_true rfl) dX1_init_23 (fun b3 H hw => ?_)
  replace hw : th_wI (dC, dI) wI9 A s.heap (r ++ [(x, .inr (1, [.ref b1, .ref b2, .null, .null, .null, .null, .null, .null, .int 0])), (b1, .inl (cs 1, (6, .inl (fun _ => 0)))), (b2, .inl (cs 1, (54, .inl (fun _ => 0)))), (b3, .inl (cs 1, (49, .inl (fun _ => 0))))]) H _ := hw
  refine va_putF (D := (dC, dI)) (ci := 1) (v := .ref b3) (ty := .array .int) (C := RX1) (T := TX1) (N := 9) C.1 C.2.1 C.2.2.2.2.1 in0X1 tyX1 tyX1_ok nmX1 C.2.2.2.1 C.2.2.2.2.2.1 hw.1 hw.2.1 hw.2.2 r.length kc_at rfl 2 (by decide) (C.2.2.2.2.1 _ (th_b2 77 rfl rfl)) (fun _ h => h) rfl hin rfl (by decide +kernel) rfl rfl (Nat.le_of_ble_eq_true rfl) dX1_init_25 (fun H locs hP hD hS => ?_)
  unfold wI9 at hP hD
  rw [kc_set] at hP hD
  replace hw : th_wI (dC, dI) wI9 A s.heap (r ++ [(x, .inr (1, [.ref b1, .ref b2, .ref b3, .null, .null, .null, .null, .null, .int 0])), (b1, .inl (cs 1, (6, .inl (fun _ => 0)))), (b2, .inl (cs 1, (54, .inl (fun _ => 0)))), (b3, .inl (cs 1, (49, .inl (fun _ => 0))))]) H locs := ⟨hP, hD, hS⟩
  clear hP hD hS
  refine lv_aload_n hx hb dX1_init_28 rfl (lv_at hl 0 rfl) ?_
  refine lv_bipush (v := (48 : Int32)) hx hb dX1_init_29 (by decide) ?_
  refine kn_a (N := 48) (i := 1) (ty := .int) (a0 := (48, .inl (fun _ => 0))) C hw (th_b1 136 rfl rfl) rfl rfl (fun _ => rfl) (by decide) (by decide) (by decide) (Nat.le_of_ble_eq_true rfl) (Nat.le_of_ble_eq_true rfl) dX1_init_31 (fun b4 H hw => ?_)
  replace hw : th_wI (dC, dI) wI9 A s.heap (r ++ [(x, .inr (1, [.ref b1, .ref b2, .ref b3, .null, .null, .null, .null, .null, .int 0])), (b1, .inl (cs 1, (6, .inl (fun _ => 0)))), (b2, .inl (cs 1, (54, .inl (fun _ => 0)))), (b3, .inl (cs 1, (49, .inl (fun _ => 0)))), (b4, .inl (cs 1, (48, .inl (fun _ => 0))))]) H _ := hw
  refine va_putF (D := (dC, dI)) (ci := 1) (v := .ref b4) (ty := .array .int) (C := RX1) (T := TX1) (N := 9) C.1 C.2.1 C.2.2.2.2.1 in0X1 tyX1 tyX1_ok nmX1 C.2.2.2.1 C.2.2.2.2.2.1 hw.1 hw.2.1 hw.2.2 r.length kc_at rfl 3 (by decide) (C.2.2.2.2.1 _ (th_b2 78 rfl rfl)) (fun _ h => h) rfl hin rfl (by decide +kernel) rfl rfl (Nat.le_of_ble_eq_true rfl) dX1_init_33 (fun H locs hP hD hS => ?_)
  unfold wI9 at hP hD
  rw [kc_set] at hP hD
  replace hw : th_wI (dC, dI) wI9 A s.heap (r ++ [(x, .inr (1, [.ref b1, .ref b2, .ref b3, .ref b4, .null, .null, .null, .null, .int 0])), (b1, .inl (cs 1, (6, .inl (fun _ => 0)))), (b2, .inl (cs 1, (54, .inl (fun _ => 0)))), (b3, .inl (cs 1, (49, .inl (fun _ => 0)))), (b4, .inl (cs 1, (48, .inl (fun _ => 0))))]) H locs := ⟨hP, hD, hS⟩
  clear hP hD hS
  refine lv_aload_n hx hb dX1_init_36 rfl (lv_at hl 0 rfl) ?_
  refine lv_bipush (v := (48 : Int32)) hx hb dX1_init_37 (by decide) ?_
  refine kn_a (N := 48) (i := 1) (ty := .int) (a0 := (48, .inl (fun _ => 0))) C hw (th_b1 136 rfl rfl) rfl rfl (fun _ => rfl) (by decide) (by decide) (by decide) (Nat.le_of_ble_eq_true rfl) (Nat.le_of_ble_eq_true rfl) dX1_init_39 (fun b5 H hw => ?_)
  replace hw : th_wI (dC, dI) wI9 A s.heap (r ++ [(x, .inr (1, [.ref b1, .ref b2, .ref b3, .ref b4, .null, .null, .null, .null, .int 0])), (b1, .inl (cs 1, (6, .inl (fun _ => 0)))), (b2, .inl (cs 1, (54, .inl (fun _ => 0)))), (b3, .inl (cs 1, (49, .inl (fun _ => 0)))), (b4, .inl (cs 1, (48, .inl (fun _ => 0)))), (b5, .inl (cs 1, (48, .inl (fun _ => 0))))]) H _ := hw
  refine va_putF (D := (dC, dI)) (ci := 1) (v := .ref b5) (ty := .array .int) (C := RX1) (T := TX1) (N := 9) C.1 C.2.1 C.2.2.2.2.1 in0X1 tyX1 tyX1_ok nmX1 C.2.2.2.1 C.2.2.2.2.2.1 hw.1 hw.2.1 hw.2.2 r.length kc_at rfl 4 (by decide) (C.2.2.2.2.1 _ (th_b2 79 rfl rfl)) (fun _ h => h) rfl hin rfl (by decide +kernel) rfl rfl (Nat.le_of_ble_eq_true rfl) dX1_init_41 (fun H locs hP hD hS => ?_)
  unfold wI9 at hP hD
  rw [kc_set] at hP hD
  replace hw : th_wI (dC, dI) wI9 A s.heap (r ++ [(x, .inr (1, [.ref b1, .ref b2, .ref b3, .ref b4, .ref b5, .null, .null, .null, .int 0])), (b1, .inl (cs 1, (6, .inl (fun _ => 0)))), (b2, .inl (cs 1, (54, .inl (fun _ => 0)))), (b3, .inl (cs 1, (49, .inl (fun _ => 0)))), (b4, .inl (cs 1, (48, .inl (fun _ => 0)))), (b5, .inl (cs 1, (48, .inl (fun _ => 0))))]) H locs := ⟨hP, hD, hS⟩
  clear hP hD hS
  refine lv_aload_n hx hb dX1_init_44 rfl (lv_at hl 0 rfl) ?_
  refine lv_bipush (v := (48 : Int32)) hx hb dX1_init_45 (by decide) ?_
  refine kn_a (N := 48) (i := 1) (ty := .int) (a0 := (48, .inl (fun _ => 0))) C hw (th_b1 136 rfl rfl) rfl rfl (fun _ => rfl) (by decide) (by decide) (by decide) (Nat.le_of_ble_eq_true rfl) (Nat.le_of_ble_eq_true rfl) dX1_init_47 (fun b6 H hw => ?_)
  replace hw : th_wI (dC, dI) wI9 A s.heap (r ++ [(x, .inr (1, [.ref b1, .ref b2, .ref b3, .ref b4, .ref b5, .null, .null, .null, .int 0])), (b1, .inl (cs 1, (6, .inl (fun _ => 0)))), (b2, .inl (cs 1, (54, .inl (fun _ => 0)))), (b3, .inl (cs 1, (49, .inl (fun _ => 0)))), (b4, .inl (cs 1, (48, .inl (fun _ => 0)))), (b5, .inl (cs 1, (48, .inl (fun _ => 0)))), (b6, .inl (cs 1, (48, .inl (fun _ => 0))))]) H _ := hw
  refine va_putF (D := (dC, dI)) (ci := 1) (v := .ref b6) (ty := .array .int) (C := RX1) (T := TX1) (N := 9) C.1 C.2.1 C.2.2.2.2.1 in0X1 tyX1 tyX1_ok nmX1 C.2.2.2.1 C.2.2.2.2.2.1 hw.1 hw.2.1 hw.2.2 r.length kc_at rfl 5 (by decide) (C.2.2.2.2.1 _ (th_b2 80 rfl rfl)) (fun _ h => h) rfl hin rfl (by decide +kernel) rfl rfl (Nat.le_of_ble_eq_true rfl) dX1_init_49 (fun H locs hP hD hS => ?_)
  unfold wI9 at hP hD
  rw [kc_set] at hP hD
  replace hw : th_wI (dC, dI) wI9 A s.heap (r ++ [(x, .inr (1, [.ref b1, .ref b2, .ref b3, .ref b4, .ref b5, .ref b6, .null, .null, .int 0])), (b1, .inl (cs 1, (6, .inl (fun _ => 0)))), (b2, .inl (cs 1, (54, .inl (fun _ => 0)))), (b3, .inl (cs 1, (49, .inl (fun _ => 0)))), (b4, .inl (cs 1, (48, .inl (fun _ => 0)))), (b5, .inl (cs 1, (48, .inl (fun _ => 0)))), (b6, .inl (cs 1, (48, .inl (fun _ => 0))))]) H locs := ⟨hP, hD, hS⟩
  clear hP hD hS
  refine lv_aload_n hx hb dX1_init_52 rfl (lv_at hl 0 rfl) ?_
  refine lv_bipush (v := (48 : Int32)) hx hb dX1_init_53 (by decide) ?_
  refine kn_a (N := 48) (i := 1) (ty := .int) (a0 := (48, .inl (fun _ => 0))) C hw (th_b1 136 rfl rfl) rfl rfl (fun _ => rfl) (by decide) (by decide) (by decide) (Nat.le_of_ble_eq_true rfl) (Nat.le_of_ble_eq_true rfl) dX1_init_55 (fun b7 H hw => ?_)
  replace hw : th_wI (dC, dI) wI9 A s.heap (r ++ [(x, .inr (1, [.ref b1, .ref b2, .ref b3, .ref b4, .ref b5, .ref b6, .null, .null, .int 0])), (b1, .inl (cs 1, (6, .inl (fun _ => 0)))), (b2, .inl (cs 1, (54, .inl (fun _ => 0)))), (b3, .inl (cs 1, (49, .inl (fun _ => 0)))), (b4, .inl (cs 1, (48, .inl (fun _ => 0)))), (b5, .inl (cs 1, (48, .inl (fun _ => 0)))), (b6, .inl (cs 1, (48, .inl (fun _ => 0)))), (b7, .inl (cs 1, (48, .inl (fun _ => 0))))]) H _ := hw
  refine va_putF (D := (dC, dI)) (ci := 1) (v := .ref b7) (ty := .array .int) (C := RX1) (T := TX1) (N := 9) C.1 C.2.1 C.2.2.2.2.1 in0X1 tyX1 tyX1_ok nmX1 C.2.2.2.1 C.2.2.2.2.2.1 hw.1 hw.2.1 hw.2.2 r.length kc_at rfl 6 (by decide) (C.2.2.2.2.1 _ (th_b2 82 rfl rfl)) (fun _ h => h) rfl hin rfl (by decide +kernel) rfl rfl (Nat.le_of_ble_eq_true rfl) dX1_init_57 (fun H locs hP hD hS => ?_)
  unfold wI9 at hP hD
  rw [kc_set] at hP hD
  replace hw : th_wI (dC, dI) wI9 A s.heap (r ++ [(x, .inr (1, [.ref b1, .ref b2, .ref b3, .ref b4, .ref b5, .ref b6, .ref b7, .null, .int 0])), (b1, .inl (cs 1, (6, .inl (fun _ => 0)))), (b2, .inl (cs 1, (54, .inl (fun _ => 0)))), (b3, .inl (cs 1, (49, .inl (fun _ => 0)))), (b4, .inl (cs 1, (48, .inl (fun _ => 0)))), (b5, .inl (cs 1, (48, .inl (fun _ => 0)))), (b6, .inl (cs 1, (48, .inl (fun _ => 0)))), (b7, .inl (cs 1, (48, .inl (fun _ => 0))))]) H locs := ⟨hP, hD, hS⟩
  clear hP hD hS
  refine lv_aload_n hx hb dX1_init_60 rfl (lv_at hl 0 rfl) ?_
  refine lv_bipush (v := (48 : Int32)) hx hb dX1_init_61 (by decide) ?_
  refine kn_a (N := 48) (i := 1) (ty := .int) (a0 := (48, .inl (fun _ => 0))) C hw (th_b1 136 rfl rfl) rfl rfl (fun _ => rfl) (by decide) (by decide) (by decide) (Nat.le_of_ble_eq_true rfl) (Nat.le_of_ble_eq_true rfl) dX1_init_63 (fun b8 H hw => ?_)
  replace hw : th_wI (dC, dI) wI9 A s.heap (r ++ [(x, .inr (1, [.ref b1, .ref b2, .ref b3, .ref b4, .ref b5, .ref b6, .ref b7, .null, .int 0])), (b1, .inl (cs 1, (6, .inl (fun _ => 0)))), (b2, .inl (cs 1, (54, .inl (fun _ => 0)))), (b3, .inl (cs 1, (49, .inl (fun _ => 0)))), (b4, .inl (cs 1, (48, .inl (fun _ => 0)))), (b5, .inl (cs 1, (48, .inl (fun _ => 0)))), (b6, .inl (cs 1, (48, .inl (fun _ => 0)))), (b7, .inl (cs 1, (48, .inl (fun _ => 0)))), (b8, .inl (cs 1, (48, .inl (fun _ => 0))))]) H _ := hw
  refine va_putF (D := (dC, dI)) (ci := 1) (v := .ref b8) (ty := .array .int) (C := RX1) (T := TX1) (N := 9) C.1 C.2.1 C.2.2.2.2.1 in0X1 tyX1 tyX1_ok nmX1 C.2.2.2.1 C.2.2.2.2.2.1 hw.1 hw.2.1 hw.2.2 r.length kc_at rfl 7 (by decide) (C.2.2.2.2.1 _ (th_b2 84 rfl rfl)) (fun _ h => h) rfl hin rfl (by decide +kernel) rfl rfl (Nat.le_of_ble_eq_true rfl) dX1_init_65 (fun H locs hP hD hS => ?_)
  unfold wI9 at hP hD
  rw [kc_set] at hP hD
  replace hw : th_wI (dC, dI) wI9 A s.heap (r ++ [(x, .inr (1, [.ref b1, .ref b2, .ref b3, .ref b4, .ref b5, .ref b6, .ref b7, .ref b8, .int 0])), (b1, .inl (cs 1, (6, .inl (fun _ => 0)))), (b2, .inl (cs 1, (54, .inl (fun _ => 0)))), (b3, .inl (cs 1, (49, .inl (fun _ => 0)))), (b4, .inl (cs 1, (48, .inl (fun _ => 0)))), (b5, .inl (cs 1, (48, .inl (fun _ => 0)))), (b6, .inl (cs 1, (48, .inl (fun _ => 0)))), (b7, .inl (cs 1, (48, .inl (fun _ => 0)))), (b8, .inl (cs 1, (48, .inl (fun _ => 0))))]) H locs := ⟨hP, hD, hS⟩
  clear hP hD hS
  refine lv_aload_n hx hb dX1_init_68 rfl (lv_at hl 0 rfl) ?_
  refine lv_iconst (v := (0 : Int32)) hx hb dX1_init_69 (by decide) ?_
  refine va_put (D := (dC, dI)) (ci := 1) (v := .int 0) (ty := .int) (C := RX1) (T := TX1) (N := 9) C.1 C.2.1 C.2.2.2.2.1 in0X1 tyX1 tyX1_ok nmX1 C.2.2.2.1 C.2.2.2.2.2.1 hw.1 hw.2.1 hw.2.2 r.length kc_at rfl 8 (by decide) (C.2.2.2.2.1 _ (th_b2 86 rfl rfl)) (fun _ h => h) rfl (by decide +kernel) rfl rfl (Nat.le_of_ble_eq_true rfl) dX1_init_70 (fun H locs hP hD hS => ?_)
  unfold wI9 at hP hD
  rw [kc_set] at hP hD
  replace hw : th_wI (dC, dI) wI9 A s.heap (r ++ [(x, .inr (1, [.ref b1, .ref b2, .ref b3, .ref b4, .ref b5, .ref b6, .ref b7, .ref b8, .int 0])), (b1, .inl (cs 1, (6, .inl (fun _ => 0)))), (b2, .inl (cs 1, (54, .inl (fun _ => 0)))), (b3, .inl (cs 1, (49, .inl (fun _ => 0)))), (b4, .inl (cs 1, (48, .inl (fun _ => 0)))), (b5, .inl (cs 1, (48, .inl (fun _ => 0)))), (b6, .inl (cs 1, (48, .inl (fun _ => 0)))), (b7, .inl (cs 1, (48, .inl (fun _ => 0)))), (b8, .inl (cs 1, (48, .inl (fun _ => 0))))]) H locs := ⟨hP, hD, hS⟩
  clear hP hD hS
  exact th_vret C hw ⟨b1, b2, b3, b4, b5, b6, b7, b8, rfl⟩ dX1_init_73
theorem dX10_init_0 : decode cX10_init 0 = .ok (.aload_n 0, 1) := by decide +kernel
theorem dX10_init_1 : decode cX10_init 1 = .ok (.invokespecial 3, 3) := by decide +kernel
theorem dX10_init_4 : decode cX10_init 4 = .ok (.aload_n 0, 1) := by decide +kernel
theorem dX10_init_5 : decode cX10_init 5 = .ok (.bipush 40, 2) := by decide +kernel
theorem dX10_init_7 : decode cX10_init 7 = .ok (.newarray .int, 2) := by decide +kernel
theorem dX10_init_9 : decode cX10_init 9 = .ok (.putfield 9, 3) := by decide +kernel
theorem dX10_init_12 : decode cX10_init 12 = .ok (.aload_n 0, 1) := by decide +kernel
theorem dX10_init_13 : decode cX10_init 13 = .ok (.iconst 0, 1) := by decide +kernel
theorem dX10_init_14 : decode cX10_init 14 = .ok (.putfield 15, 3) := by decide +kernel
theorem dX10_init_17 : decode cX10_init 17 = .ok (.aload_n 0, 1) := by decide +kernel
theorem dX10_init_18 : decode cX10_init 18 = .ok (.sipush 1920, 3) := by decide +kernel
theorem dX10_init_21 : decode cX10_init 21 = .ok (.newarray .byte, 2) := by decide +kernel
theorem dX10_init_23 : decode cX10_init 23 = .ok (.putfield 19, 3) := by decide +kernel
theorem dX10_init_26 : decode cX10_init 26 = .ok (.aload_n 0, 1) := by decide +kernel
theorem dX10_init_27 : decode cX10_init 27 = .ok (.bipush 48, 2) := by decide +kernel
theorem dX10_init_29 : decode cX10_init 29 = .ok (.newarray .int, 2) := by decide +kernel
theorem dX10_init_31 : decode cX10_init 31 = .ok (.putfield 23, 3) := by decide +kernel
theorem dX10_init_34 : decode cX10_init 34 = .ok (.aload_n 0, 1) := by decide +kernel
theorem dX10_init_35 : decode cX10_init 35 = .ok (.bipush 48, 2) := by decide +kernel
theorem dX10_init_37 : decode cX10_init 37 = .ok (.newarray .int, 2) := by decide +kernel
theorem dX10_init_39 : decode cX10_init 39 = .ok (.putfield 26, 3) := by decide +kernel
theorem dX10_init_42 : decode cX10_init 42 = .ok (.return_, 1) := by decide +kernel
set_option maxHeartbeats 4000000 in
set_option maxRecDepth 100000 in
theorem N_X10_c {l : Launch} {dC : Nat → ClassId} {dI : Nat → Nat → Nat} {cs : Nat → ClassId} {ad ak : Nat → Nat}  {r : va_W} {x : Nat} (hE : th_EO (xE5 ad ak)) : th_Cv l yX10_init cX10_init 1 none 1 4 2056 (dC, dI) (th_ty cs) (xE5 ad ak) wI9 [.ref x] (r ++ [(x, .inr (9, [.null, .int 0, .null, .null, .null]))]) (fun ws => ∃ b1 : Nat, ∃ b2 : Nat, ∃ b3 : Nat, ∃ b4 : Nat, ws = r ++ [(x, .inr (9, [.ref b1, .int 0, .ref b2, .ref b3, .ref b4])), (b1, .inl (cs 1, (40, .inl (fun _ => 0)))), (b2, .inl (cs 0, (1920, .inl (fun _ => 0)))), (b3, .inl (cs 1, (48, .inl (fun _ => 0)))), (b4, .inl (cs 1, (48, .inl (fun _ => 0))))]) := by
  refine th_ofvI (by decide) (Nat.le_of_ble_eq_true rfl) hE rfl ?_
  intro p e s m below meth c A ls C hin hw hl
  have C : th_Cx p s m _ meth c cX10_init RX10 1 none (dC, dI) (th_ty cs) (xE5 ad ak) A := C
  have hl : lv_has ls 1 [(0, .ref x)] := hl
  generalize (List.toArray _ : Array Value) = args at C ⊢
  have hx := C.1
  have hb := C.2.1
  refine lv_aload_n hx hb dX10_init_0 rfl (lv_at hl 0 rfl) ?_
  refine W.objInit hx hb C.2.2.2.1 (C.2.2.2.2.1 _ (th_b2 112 rfl rfl)) (C.2.2.2.2.1 _ (th_b1 32 rfl rfl)) (C.2.2.2.2.1 _ (th_b1 33 rfl rfl)) rfl (by rw [C.2.2.1]; exact hl.1) rfl dX10_init_1 (Nat.le_of_ble_eq_true rfl) (Nat.le_of_ble_eq_true rfl) ?_
  refine W.eq (g2 := F0 m 4 ls []) rfl ?_
  refine lv_aload_n hx hb dX10_init_4 rfl (lv_at hl 0 rfl) ?_
  refine lv_bipush (v := (40 : Int32)) hx hb dX10_init_5 (by decide) ?_
  refine kn_a (N := 40) (i := 1) (ty := .int) (a0 := (40, .inl (fun _ => 0))) C hw (th_b1 136 rfl rfl) rfl rfl (fun _ => rfl) (by decide) (by decide) (by decide) (Nat.le_of_ble_eq_true rfl) (Nat.le_of_ble_eq_true rfl) dX10_init_7 (fun b1 H hw => ?_)
  replace hw : th_wI (dC, dI) wI9 A s.heap (r ++ [(x, .inr (9, [.null, .int 0, .null, .null, .null])), (b1, .inl (cs 1, (40, .inl (fun _ => 0))))]) H _ := hw
  refine va_putF (D := (dC, dI)) (ci := 9) (v := .ref b1) (ty := .array .int) (C := RX10) (T := TX10) (N := 5) C.1 C.2.1 C.2.2.2.2.1 in0X10 tyX10 tyX10_ok nmX10 C.2.2.2.1 C.2.2.2.2.2.1 hw.1 hw.2.1 hw.2.2 r.length kc_at rfl 0 (by decide) (C.2.2.2.2.1 _ (th_b2 113 rfl rfl)) (fun _ h => h) rfl hin rfl (by decide +kernel) rfl rfl (Nat.le_of_ble_eq_true rfl) dX10_init_9 (fun H locs hP hD hS => ?_)
  unfold wI9 at hP hD
  rw [kc_set] at hP hD
  replace hw : th_wI (dC, dI) wI9 A s.heap (r ++ [(x, .inr (9, [.ref b1, .int 0, .null, .null, .null])), (b1, .inl (cs 1, (40, .inl (fun _ => 0))))]) H locs := ⟨hP, hD, hS⟩
  clear hP hD hS
  refine lv_aload_n hx hb dX10_init_12 rfl (lv_at hl 0 rfl) ?_
  refine lv_iconst (v := (0 : Int32)) hx hb dX10_init_13 (by decide) ?_
  refine va_put (D := (dC, dI)) (ci := 9) (v := .int 0) (ty := .int) (C := RX10) (T := TX10) (N := 5) C.1 C.2.1 C.2.2.2.2.1 in0X10 tyX10 tyX10_ok nmX10 C.2.2.2.1 C.2.2.2.2.2.1 hw.1 hw.2.1 hw.2.2 r.length kc_at rfl 1 (by decide) (C.2.2.2.2.1 _ (th_b2 115 rfl rfl)) (fun _ h => h) rfl (by decide +kernel) rfl rfl (Nat.le_of_ble_eq_true rfl) dX10_init_14 (fun H locs hP hD hS => ?_)
  unfold wI9 at hP hD
  rw [kc_set] at hP hD
  replace hw : th_wI (dC, dI) wI9 A s.heap (r ++ [(x, .inr (9, [.ref b1, .int 0, .null, .null, .null])), (b1, .inl (cs 1, (40, .inl (fun _ => 0))))]) H locs := ⟨hP, hD, hS⟩
  clear hP hD hS
  refine lv_aload_n hx hb dX10_init_17 rfl (lv_at hl 0 rfl) ?_
  refine lv_sipush (v := (1920 : Int32)) hx hb dX10_init_18 (by decide) ?_
  refine kn_a (N := 1920) (i := 0) (ty := .byte) (a0 := (1920, .inl (fun _ => 0))) C hw (th_b1 52 rfl rfl) rfl rfl (fun _ => rfl) (by decide) (by decide) (by decide) (Nat.le_of_ble_eq_true rfl) (Nat.le_of_ble_eq_true rfl) dX10_init_21 (fun b2 H hw => ?_)
  replace hw : th_wI (dC, dI) wI9 A s.heap (r ++ [(x, .inr (9, [.ref b1, .int 0, .null, .null, .null])), (b1, .inl (cs 1, (40, .inl (fun _ => 0)))), (b2, .inl (cs 0, (1920, .inl (fun _ => 0))))]) H _ := hw
  refine va_putF (D := (dC, dI)) (ci := 9) (v := .ref b2) (ty := .array .byte) (C := RX10) (T := TX10) (N := 5) C.1 C.2.1 C.2.2.2.2.1 in0X10 tyX10 tyX10_ok nmX10 C.2.2.2.1 C.2.2.2.2.2.1 hw.1 hw.2.1 hw.2.2 r.length kc_at rfl 2 (by decide) (C.2.2.2.2.1 _ (th_b2 117 rfl rfl)) (fun _ h => h) rfl hin rfl (by decide +kernel) rfl rfl (Nat.le_of_ble_eq_true rfl) dX10_init_23 (fun H locs hP hD hS => ?_)
  unfold wI9 at hP hD
  rw [kc_set] at hP hD
  replace hw : th_wI (dC, dI) wI9 A s.heap (r ++ [(x, .inr (9, [.ref b1, .int 0, .ref b2, .null, .null])), (b1, .inl (cs 1, (40, .inl (fun _ => 0)))), (b2, .inl (cs 0, (1920, .inl (fun _ => 0))))]) H locs := ⟨hP, hD, hS⟩
  clear hP hD hS
  refine lv_aload_n hx hb dX10_init_26 rfl (lv_at hl 0 rfl) ?_
  refine lv_bipush (v := (48 : Int32)) hx hb dX10_init_27 (by decide) ?_
  refine kn_a (N := 48) (i := 1) (ty := .int) (a0 := (48, .inl (fun _ => 0))) C hw (th_b1 136 rfl rfl) rfl rfl (fun _ => rfl) (by decide) (by decide) (by decide) (Nat.le_of_ble_eq_true rfl) (Nat.le_of_ble_eq_true rfl) dX10_init_29 (fun b3 H hw => ?_)
  replace hw : th_wI (dC, dI) wI9 A s.heap (r ++ [(x, .inr (9, [.ref b1, .int 0, .ref b2, .null, .null])), (b1, .inl (cs 1, (40, .inl (fun _ => 0)))), (b2, .inl (cs 0, (1920, .inl (fun _ => 0)))), (b3, .inl (cs 1, (48, .inl (fun _ => 0))))]) H _ := hw
  refine va_put (D := (dC, dI)) (ci := 9) (v := .ref b3) (ty := .array .int) (C := RX10) (T := TX10) (N := 5) C.1 C.2.1 C.2.2.2.2.1 in0X10 tyX10 tyX10_ok nmX10 C.2.2.2.1 C.2.2.2.2.2.1 hw.1 hw.2.1 hw.2.2 r.length kc_at rfl 3 (by decide) (C.2.2.2.2.1 _ (th_b2 118 rfl rfl)) (fun _ h => h) rfl (by decide +kernel) rfl rfl (Nat.le_of_ble_eq_true rfl) dX10_init_31 (fun H locs hP hD hS => ?_)
  unfold wI9 at hP hD
  rw [kc_set] at hP hD
  replace hw : th_wI (dC, dI) wI9 A s.heap (r ++ [(x, .inr (9, [.ref b1, .int 0, .ref b2, .ref b3, .null])), (b1, .inl (cs 1, (40, .inl (fun _ => 0)))), (b2, .inl (cs 0, (1920, .inl (fun _ => 0)))), (b3, .inl (cs 1, (48, .inl (fun _ => 0))))]) H locs := ⟨hP, hD, hS⟩
  clear hP hD hS
  refine lv_aload_n hx hb dX10_init_34 rfl (lv_at hl 0 rfl) ?_
  refine lv_bipush (v := (48 : Int32)) hx hb dX10_init_35 (by decide) ?_
  refine kn_a (N := 48) (i := 1) (ty := .int) (a0 := (48, .inl (fun _ => 0))) C hw (th_b1 136 rfl rfl) rfl rfl (fun _ => rfl) (by decide) (by decide) (by decide) (Nat.le_of_ble_eq_true rfl) (Nat.le_of_ble_eq_true rfl) dX10_init_37 (fun b4 H hw => ?_)
  replace hw : th_wI (dC, dI) wI9 A s.heap (r ++ [(x, .inr (9, [.ref b1, .int 0, .ref b2, .ref b3, .null])), (b1, .inl (cs 1, (40, .inl (fun _ => 0)))), (b2, .inl (cs 0, (1920, .inl (fun _ => 0)))), (b3, .inl (cs 1, (48, .inl (fun _ => 0)))), (b4, .inl (cs 1, (48, .inl (fun _ => 0))))]) H _ := hw
  refine va_put (D := (dC, dI)) (ci := 9) (v := .ref b4) (ty := .array .int) (C := RX10) (T := TX10) (N := 5) C.1 C.2.1 C.2.2.2.2.1 in0X10 tyX10 tyX10_ok nmX10 C.2.2.2.1 C.2.2.2.2.2.1 hw.1 hw.2.1 hw.2.2 r.length kc_at rfl 4 (by decide) (C.2.2.2.2.1 _ (th_b2 119 rfl rfl)) (fun _ h => h) rfl (by decide +kernel) rfl rfl (Nat.le_of_ble_eq_true rfl) dX10_init_39 (fun H locs hP hD hS => ?_)
  unfold wI9 at hP hD
  rw [kc_set] at hP hD
  replace hw : th_wI (dC, dI) wI9 A s.heap (r ++ [(x, .inr (9, [.ref b1, .int 0, .ref b2, .ref b3, .ref b4])), (b1, .inl (cs 1, (40, .inl (fun _ => 0)))), (b2, .inl (cs 0, (1920, .inl (fun _ => 0)))), (b3, .inl (cs 1, (48, .inl (fun _ => 0)))), (b4, .inl (cs 1, (48, .inl (fun _ => 0))))]) H locs := ⟨hP, hD, hS⟩
  clear hP hD hS
  exact th_vret C hw ⟨b1, b2, b3, b4, rfl⟩ dX10_init_42
theorem dX3_init_0 : decode cX3_init 0 = .ok (.aload_n 0, 1) := by decide +kernel
theorem dX3_init_1 : decode cX3_init 1 = .ok (.invokespecial 5, 3) := by decide +kernel
theorem dX3_init_4 : decode cX3_init 4 = .ok (.aload_n 0, 1) := by decide +kernel
theorem dX3_init_5 : decode cX3_init 5 = .ok (.bipush 48, 2) := by decide +kernel
theorem dX3_init_7 : decode cX3_init 7 = .ok (.newarray .int, 2) := by decide +kernel
theorem dX3_init_9 : decode cX3_init 9 = .ok (.putfield 11, 3) := by decide +kernel
theorem dX3_init_12 : decode cX3_init 12 = .ok (.aload_n 0, 1) := by decide +kernel
theorem dX3_init_13 : decode cX3_init 13 = .ok (.iconst 0, 1) := by decide +kernel
theorem dX3_init_14 : decode cX3_init 14 = .ok (.putfield 15, 3) := by decide +kernel
theorem dX3_init_17 : decode cX3_init 17 = .ok (.aload_n 0, 1) := by decide +kernel
theorem dX3_init_18 : decode cX3_init 18 = .ok (.sipush 2401, 3) := by decide +kernel
theorem dX3_init_21 : decode cX3_init 21 = .ok (.newarray .int, 2) := by decide +kernel
theorem dX3_init_23 : decode cX3_init 23 = .ok (.putfield 19, 3) := by decide +kernel
theorem dX3_init_26 : decode cX3_init 26 = .ok (.return_, 1) := by decide +kernel
set_option maxHeartbeats 4000000 in
set_option maxRecDepth 100000 in
theorem N_X3_c {l : Launch} {dC : Nat → ClassId} {dI : Nat → Nat → Nat} {cs : Nat → ClassId} {ad ak : Nat → Nat}  {r : va_W} {x : Nat} (hE : th_EO (xE5 ad ak)) : th_Cv l yX3_init cX3_init 1 none 1 2 2449 (dC, dI) (th_ty cs) (xE5 ad ak) wI9 [.ref x] (r ++ [(x, .inr (3, [.null, .int 0, .null]))]) (fun ws => ∃ b1 : Nat, ∃ b2 : Nat, ws = r ++ [(x, .inr (3, [.ref b1, .int 0, .ref b2])), (b1, .inl (cs 1, (48, .inl (fun _ => 0)))), (b2, .inl (cs 1, (2401, .inl (fun _ => 0))))]) := by
  refine th_ofvI (by decide) (Nat.le_of_ble_eq_true rfl) hE rfl ?_
  intro p e s m below meth c A ls C hin hw hl
  have C : th_Cx p s m _ meth c cX3_init RX3 1 none (dC, dI) (th_ty cs) (xE5 ad ak) A := C
  have hl : lv_has ls 1 [(0, .ref x)] := hl
  generalize (List.toArray _ : Array Value) = args at C ⊢
  have hx := C.1
  have hb := C.2.1
  refine lv_aload_n hx hb dX3_init_0 rfl (lv_at hl 0 rfl) ?_
  refine W.objInit hx hb C.2.2.2.1 (C.2.2.2.2.1 _ (th_b2 136 rfl rfl)) (C.2.2.2.2.1 _ (th_b1 32 rfl rfl)) (C.2.2.2.2.1 _ (th_b1 33 rfl rfl)) rfl (by rw [C.2.2.1]; exact hl.1) rfl dX3_init_1 (Nat.le_of_ble_eq_true rfl) (Nat.le_of_ble_eq_true rfl) ?_
  refine W.eq (g2 := F0 m 4 ls []) rfl ?_
  refine lv_aload_n hx hb dX3_init_4 rfl (lv_at hl 0 rfl) ?_
  refine lv_bipush (v := (48 : Int32)) hx hb dX3_init_5 (by decide) ?_
  refine kn_a (N := 48) (i := 1) (ty := .int) (a0 := (48, .inl (fun _ => 0))) C hw (th_b1 136 rfl rfl) rfl rfl (fun _ => rfl) (by decide) (by decide) (by decide) (Nat.le_of_ble_eq_true rfl) (Nat.le_of_ble_eq_true rfl) dX3_init_7 (fun b1 H hw => ?_)
  replace hw : th_wI (dC, dI) wI9 A s.heap (r ++ [(x, .inr (3, [.null, .int 0, .null])), (b1, .inl (cs 1, (48, .inl (fun _ => 0))))]) H _ := hw
  refine va_putF (D := (dC, dI)) (ci := 3) (v := .ref b1) (ty := .array .int) (C := RX3) (T := TX3) (N := 3) C.1 C.2.1 C.2.2.2.2.1 in0X3 tyX3 tyX3_ok nmX3 C.2.2.2.1 C.2.2.2.2.2.1 hw.1 hw.2.1 hw.2.2 r.length kc_at rfl 0 (by decide) (C.2.2.2.2.1 _ (th_b2 137 rfl rfl)) (fun _ h => h) rfl hin rfl (by decide +kernel) rfl rfl (Nat.le_of_ble_eq_true rfl) dX3_init_9 (fun H locs hP hD hS => ?_)
  unfold wI9 at hP hD
  rw [kc_set] at hP hD
  replace hw : th_wI (dC, dI) wI9 A s.heap (r ++ [(x, .inr (3, [.ref b1, .int 0, .null])), (b1, .inl (cs 1, (48, .inl (fun _ => 0))))]) H locs := ⟨hP, hD, hS⟩
  clear hP hD hS
  refine lv_aload_n hx hb dX3_init_12 rfl (lv_at hl 0 rfl) ?_
  refine lv_iconst (v := (0 : Int32)) hx hb dX3_init_13 (by decide) ?_
  refine va_put (D := (dC, dI)) (ci := 3) (v := .int 0) (ty := .int) (C := RX3) (T := TX3) (N := 3) C.1 C.2.1 C.2.2.2.2.1 in0X3 tyX3 tyX3_ok nmX3 C.2.2.2.1 C.2.2.2.2.2.1 hw.1 hw.2.1 hw.2.2 r.length kc_at rfl 1 (by decide) (C.2.2.2.2.1 _ (th_b2 139 rfl rfl)) (fun _ h => h) rfl (by decide +kernel) rfl rfl (Nat.le_of_ble_eq_true rfl) dX3_init_14 (fun H locs hP hD hS => ?_)
  unfold wI9 at hP hD
  rw [kc_set] at hP hD
  replace hw : th_wI (dC, dI) wI9 A s.heap (r ++ [(x, .inr (3, [.ref b1, .int 0, .null])), (b1, .inl (cs 1, (48, .inl (fun _ => 0))))]) H locs := ⟨hP, hD, hS⟩
  clear hP hD hS
  refine lv_aload_n hx hb dX3_init_17 rfl (lv_at hl 0 rfl) ?_
  refine lv_sipush (v := (2401 : Int32)) hx hb dX3_init_18 (by decide) ?_
  refine kn_a (N := 2401) (i := 1) (ty := .int) (a0 := (2401, .inl (fun _ => 0))) C hw (th_b1 136 rfl rfl) rfl rfl (fun _ => rfl) (by decide) (by decide) (by decide) (Nat.le_of_ble_eq_true rfl) (Nat.le_of_ble_eq_true rfl) dX3_init_21 (fun b2 H hw => ?_)
  replace hw : th_wI (dC, dI) wI9 A s.heap (r ++ [(x, .inr (3, [.ref b1, .int 0, .null])), (b1, .inl (cs 1, (48, .inl (fun _ => 0)))), (b2, .inl (cs 1, (2401, .inl (fun _ => 0))))]) H _ := hw
  refine va_putF (D := (dC, dI)) (ci := 3) (v := .ref b2) (ty := .array .int) (C := RX3) (T := TX3) (N := 3) C.1 C.2.1 C.2.2.2.2.1 in0X3 tyX3 tyX3_ok nmX3 C.2.2.2.1 C.2.2.2.2.2.1 hw.1 hw.2.1 hw.2.2 r.length kc_at rfl 2 (by decide) (C.2.2.2.2.1 _ (th_b2 141 rfl rfl)) (fun _ h => h) rfl hin rfl (by decide +kernel) rfl rfl (Nat.le_of_ble_eq_true rfl) dX3_init_23 (fun H locs hP hD hS => ?_)
  unfold wI9 at hP hD
  rw [kc_set] at hP hD
  replace hw : th_wI (dC, dI) wI9 A s.heap (r ++ [(x, .inr (3, [.ref b1, .int 0, .ref b2])), (b1, .inl (cs 1, (48, .inl (fun _ => 0)))), (b2, .inl (cs 1, (2401, .inl (fun _ => 0))))]) H locs := ⟨hP, hD, hS⟩
  clear hP hD hS
  exact th_vret C hw ⟨b1, b2, rfl⟩ dX3_init_26
theorem dX7_init_0 : decode cX7_init 0 = .ok (.aload_n 0, 1) := by decide +kernel
theorem dX7_init_1 : decode cX7_init 1 = .ok (.invokespecial 3, 3) := by decide +kernel
theorem dX7_init_4 : decode cX7_init 4 = .ok (.aload_n 0, 1) := by decide +kernel
theorem dX7_init_5 : decode cX7_init 5 = .ok (.bipush 48, 2) := by decide +kernel
theorem dX7_init_7 : decode cX7_init 7 = .ok (.newarray .boolean, 2) := by decide +kernel
theorem dX7_init_9 : decode cX7_init 9 = .ok (.putfield 9, 3) := by decide +kernel
theorem dX7_init_12 : decode cX7_init 12 = .ok (.aload_n 0, 1) := by decide +kernel
theorem dX7_init_13 : decode cX7_init 13 = .ok (.bipush 48, 2) := by decide +kernel
theorem dX7_init_15 : decode cX7_init 15 = .ok (.newarray .int, 2) := by decide +kernel
theorem dX7_init_17 : decode cX7_init 17 = .ok (.putfield 15, 3) := by decide +kernel
theorem dX7_init_20 : decode cX7_init 20 = .ok (.aload_n 0, 1) := by decide +kernel
theorem dX7_init_21 : decode cX7_init 21 = .ok (.bipush 6, 2) := by decide +kernel
theorem dX7_init_23 : decode cX7_init 23 = .ok (.newarray .int, 2) := by decide +kernel
theorem dX7_init_25 : decode cX7_init 25 = .ok (.putfield 19, 3) := by decide +kernel
theorem dX7_init_28 : decode cX7_init 28 = .ok (.aload_n 0, 1) := by decide +kernel
theorem dX7_init_29 : decode cX7_init 29 = .ok (.bipush 6, 2) := by decide +kernel
theorem dX7_init_31 : decode cX7_init 31 = .ok (.newarray .int, 2) := by decide +kernel
theorem dX7_init_33 : decode cX7_init 33 = .ok (.putfield 22, 3) := by decide +kernel
theorem dX7_init_36 : decode cX7_init 36 = .ok (.aload_n 0, 1) := by decide +kernel
theorem dX7_init_37 : decode cX7_init 37 = .ok (.bipush 80, 2) := by decide +kernel
theorem dX7_init_39 : decode cX7_init 39 = .ok (.anewarray 25, 3) := by decide +kernel
theorem dX7_init_42 : decode cX7_init 42 = .ok (.putfield 27, 3) := by decide +kernel
theorem dX7_init_45 : decode cX7_init 45 = .ok (.aload_n 0, 1) := by decide +kernel
theorem dX7_init_46 : decode cX7_init 46 = .ok (.bipush 80, 2) := by decide +kernel
theorem dX7_init_48 : decode cX7_init 48 = .ok (.anewarray 25, 3) := by decide +kernel
theorem dX7_init_51 : decode cX7_init 51 = .ok (.putfield 31, 3) := by decide +kernel
theorem dX7_init_54 : decode cX7_init 54 = .ok (.aload_n 0, 1) := by decide +kernel
theorem dX7_init_55 : decode cX7_init 55 = .ok (.bipush 80, 2) := by decide +kernel
theorem dX7_init_57 : decode cX7_init 57 = .ok (.newarray .int, 2) := by decide +kernel
theorem dX7_init_59 : decode cX7_init 59 = .ok (.putfield 34, 3) := by decide +kernel
theorem dX7_init_62 : decode cX7_init 62 = .ok (.aload_n 0, 1) := by decide +kernel
theorem dX7_init_63 : decode cX7_init 63 = .ok (.bipush 80, 2) := by decide +kernel
theorem dX7_init_65 : decode cX7_init 65 = .ok (.newarray .int, 2) := by decide +kernel
theorem dX7_init_67 : decode cX7_init 67 = .ok (.putfield 37, 3) := by decide +kernel
theorem dX7_init_70 : decode cX7_init 70 = .ok (.aload_n 0, 1) := by decide +kernel
theorem dX7_init_71 : decode cX7_init 71 = .ok (.invokevirtual 40, 3) := by decide +kernel
theorem dX7_init_74 : decode cX7_init 74 = .ok (.return_, 1) := by decide +kernel
set_option maxHeartbeats 4000000 in
set_option maxRecDepth 100000 in
theorem N_X7_c {l : Launch} {dC : Nat → ClassId} {dI : Nat → Nat → Nat} {cs : Nat → ClassId} {ad ak : Nat → Nat}  {r : va_W} {x : Nat} (hE : th_EO (xE5 ad ak)) : th_Cv l yX7_init cX7_init 1 none 2 8 428 (dC, dI) (th_ty cs) (xE5 ad ak) wI9 [.ref x] (r ++ [(x, .inr (7, [.int 0, .int 0, .int 0, .int 0, .int 0, .int 0, .int 0, .null, .null, .null, .null, .null, .null, .null, .null]))]) (fun ws => ∃ b1 : Nat, ∃ b2 : Nat, ∃ b3 : Nat, ∃ b4 : Nat, ∃ b5 : Nat, ∃ b6 : Nat, ∃ b7 : Nat, ∃ b8 : Nat, ∃ g0 : Nat → Int32, (∀ j, j < 48 → g0 j = 10) ∧ ws = r ++ [(x, .inr (7, [.int 24, .int 1, .int 1, .int 0, .int 0, .int 0, .int 0, .ref b1, .ref b2, .ref b3, .ref b4, .ref b5, .ref b6, .ref b7, .ref b8])), (b1, .inl (cs 3, (48, .inl (fun _ => 0)))), (b2, .inl (cs 1, (48, .inl g0))), (b3, .inl (cs 1, (6, .inl (fun _ => 0)))), (b4, .inl (cs 1, (6, .inl (fun _ => 0)))), (b5, .inl (cs 5, (80, .inr (.inr (.inr (.inr (fun _ => none))))))), (b6, .inl (cs 5, (80, .inr (.inr (.inr (.inr (fun _ => none))))))), (b7, .inl (cs 1, (80, .inl (fun _ => 0)))), (b8, .inl (cs 1, (80, .inl (fun _ => 0))))]) := by
  refine th_ofvI (by decide) (Nat.le_of_ble_eq_true rfl) hE rfl ?_
  intro p e s m below meth c A ls C hin hw hl
  have C : th_Cx p s m _ meth c cX7_init RX7 1 none (dC, dI) (th_ty cs) (xE5 ad ak) A := C
  have hl : lv_has ls 1 [(0, .ref x)] := hl
  generalize (List.toArray _ : Array Value) = args at C ⊢
  have hx := C.1
  have hb := C.2.1
  refine lv_aload_n hx hb dX7_init_0 rfl (lv_at hl 0 rfl) ?_
  refine W.objInit hx hb C.2.2.2.1 (C.2.2.2.2.1 _ (th_b1 66 rfl rfl)) (C.2.2.2.2.1 _ (th_b1 32 rfl rfl)) (C.2.2.2.2.1 _ (th_b1 33 rfl rfl)) rfl (by rw [C.2.2.1]; exact hl.1) rfl dX7_init_1 (Nat.le_of_ble_eq_true rfl) (Nat.le_of_ble_eq_true rfl) ?_
  refine W.eq (g2 := F0 m 4 ls []) rfl ?_
  refine lv_aload_n hx hb dX7_init_4 rfl (lv_at hl 0 rfl) ?_
  refine lv_bipush (v := (48 : Int32)) hx hb dX7_init_5 (by decide) ?_
  refine kn_a (N := 48) (i := 3) (ty := .boolean) (a0 := (48, .inl (fun _ => 0))) C hw (th_b1 137 rfl rfl) rfl rfl (fun _ => rfl) (by decide) (by decide) (by decide) (Nat.le_of_ble_eq_true rfl) (Nat.le_of_ble_eq_true rfl) dX7_init_7 (fun b1 H hw => ?_)
  replace hw : th_wI (dC, dI) wI9 A s.heap (r ++ [(x, .inr (7, [.int 0, .int 0, .int 0, .int 0, .int 0, .int 0, .int 0, .null, .null, .null, .null, .null, .null, .null, .null])), (b1, .inl (cs 3, (48, .inl (fun _ => 0))))]) H _ := hw
  refine va_putF (D := (dC, dI)) (ci := 7) (v := .ref b1) (ty := .array .boolean) (C := RX7) (T := TX7) (N := 15) C.1 C.2.1 C.2.2.2.2.1 in0X7 tyX7 tyX7_ok nmX7 C.2.2.2.1 C.2.2.2.2.2.1 hw.1 hw.2.1 hw.2.2 r.length kc_at rfl 7 (by decide) (C.2.2.2.2.1 _ (th_b1 95 rfl rfl)) (fun _ h => h) rfl hin rfl (by decide +kernel) rfl rfl (Nat.le_of_ble_eq_true rfl) dX7_init_9 (fun H locs hP hD hS => ?_)
  unfold wI9 at hP hD
  rw [kc_set] at hP hD
  replace hw : th_wI (dC, dI) wI9 A s.heap (r ++ [(x, .inr (7, [.int 0, .int 0, .int 0, .int 0, .int 0, .int 0, .int 0, .ref b1, .null, .null, .null, .null, .null, .null, .null])), (b1, .inl (cs 3, (48, .inl (fun _ => 0))))]) H locs := ⟨hP, hD, hS⟩
  clear hP hD hS
  refine lv_aload_n hx hb dX7_init_12 rfl (lv_at hl 0 rfl) ?_
  refine lv_bipush (v := (48 : Int32)) hx hb dX7_init_13 (by decide) ?_
  refine kn_a (N := 48) (i := 1) (ty := .int) (a0 := (48, .inl (fun _ => 0))) C hw (th_b1 136 rfl rfl) rfl rfl (fun _ => rfl) (by decide) (by decide) (by decide) (Nat.le_of_ble_eq_true rfl) (Nat.le_of_ble_eq_true rfl) dX7_init_15 (fun b2 H hw => ?_)
  replace hw : th_wI (dC, dI) wI9 A s.heap (r ++ [(x, .inr (7, [.int 0, .int 0, .int 0, .int 0, .int 0, .int 0, .int 0, .ref b1, .null, .null, .null, .null, .null, .null, .null])), (b1, .inl (cs 3, (48, .inl (fun _ => 0)))), (b2, .inl (cs 1, (48, .inl (fun _ => 0))))]) H _ := hw
  refine va_putF (D := (dC, dI)) (ci := 7) (v := .ref b2) (ty := .array .int) (C := RX7) (T := TX7) (N := 15) C.1 C.2.1 C.2.2.2.2.1 in0X7 tyX7 tyX7_ok nmX7 C.2.2.2.1 C.2.2.2.2.2.1 hw.1 hw.2.1 hw.2.2 r.length kc_at rfl 8 (by decide) (C.2.2.2.2.1 _ (th_b1 97 rfl rfl)) (fun _ h => h) rfl hin rfl (by decide +kernel) rfl rfl (Nat.le_of_ble_eq_true rfl) dX7_init_17 (fun H locs hP hD hS => ?_)
  unfold wI9 at hP hD
  rw [kc_set] at hP hD
  replace hw : th_wI (dC, dI) wI9 A s.heap (r ++ [(x, .inr (7, [.int 0, .int 0, .int 0, .int 0, .int 0, .int 0, .int 0, .ref b1, .ref b2, .null, .null, .null, .null, .null, .null])), (b1, .inl (cs 3, (48, .inl (fun _ => 0)))), (b2, .inl (cs 1, (48, .inl (fun _ => 0))))]) H locs := ⟨hP, hD, hS⟩
  clear hP hD hS
  refine lv_aload_n hx hb dX7_init_20 rfl (lv_at hl 0 rfl) ?_
  refine lv_bipush (v := (6 : Int32)) hx hb dX7_init_21 (by decide) ?_
  refine kn_a (N := 6) (i := 1) (ty := .int) (a0 := (6, .inl (fun _ => 0))) C hw (th_b1 136 rfl rfl) rfl rfl (fun _ => rfl) (by decide) (by decide) (by decide) (Nat.le_of_ble_eq_true rfl) (Nat.le_of_ble_eq_true rfl) dX7_init_23 (fun b3 H hw => ?_)
  replace hw : th_wI (dC, dI) wI9 A s.heap (r ++ [(x, .inr (7, [.int 0, .int 0, .int 0, .int 0, .int 0, .int 0, .int 0, .ref b1, .ref b2, .null, .null, .null, .null, .null, .null])), (b1, .inl (cs 3, (48, .inl (fun _ => 0)))), (b2, .inl (cs 1, (48, .inl (fun _ => 0)))), (b3, .inl (cs 1, (6, .inl (fun _ => 0))))]) H _ := hw
  refine va_putF (D := (dC, dI)) (ci := 7) (v := .ref b3) (ty := .array .int) (C := RX7) (T := TX7) (N := 15) C.1 C.2.1 C.2.2.2.2.1 in0X7 tyX7 tyX7_ok nmX7 C.2.2.2.1 C.2.2.2.2.2.1 hw.1 hw.2.1 hw.2.2 r.length kc_at rfl 9 (by decide) (C.2.2.2.2.1 _ (th_b1 99 rfl rfl)) (fun _ h => h) rfl hin rfl (by decide +kernel) rfl rfl (Nat.le_of_ble_eq_true rfl) dX7_init_25 (fun H locs hP hD hS => ?_)
  unfold wI9 at hP hD
  rw [kc_set] at hP hD
  replace hw : th_wI (dC, dI) wI9 A s.heap (r ++ [(x, .inr (7, [.int 0, .int 0, .int 0, .int 0, .int 0, .int 0, .int 0, .ref b1, .ref b2, .ref b3, .null, .null, .null, .null, .null])), (b1, .inl (cs 3, (48, .inl (fun _ => 0)))), (b2, .inl (cs 1, (48, .inl (fun _ => 0)))), (b3, .inl (cs 1, (6, .inl (fun _ => 0))))]) H locs := ⟨hP, hD, hS⟩
  clear hP hD hS
  refine lv_aload_n hx hb dX7_init_28 rfl (lv_at hl 0 rfl) ?_
  refine lv_bipush (v := (6 : Int32)) hx hb dX7_init_29 (by decide) ?_
  refine kn_a (N := 6) (i := 1) (ty := .int) (a0 := (6, .inl (fun _ => 0))) C hw (th_b1 136 rfl rfl) rfl rfl (fun _ => rfl) (by decide) (by decide) (by decide) (Nat.le_of_ble_eq_true rfl) (Nat.le_of_ble_eq_true rfl) dX7_init_31 (fun b4 H hw => ?_)
  replace hw : th_wI (dC, dI) wI9 A s.heap (r ++ [(x, .inr (7, [.int 0, .int 0, .int 0, .int 0, .int 0, .int 0, .int 0, .ref b1, .ref b2, .ref b3, .null, .null, .null, .null, .null])), (b1, .inl (cs 3, (48, .inl (fun _ => 0)))), (b2, .inl (cs 1, (48, .inl (fun _ => 0)))), (b3, .inl (cs 1, (6, .inl (fun _ => 0)))), (b4, .inl (cs 1, (6, .inl (fun _ => 0))))]) H _ := hw
  refine va_putF (D := (dC, dI)) (ci := 7) (v := .ref b4) (ty := .array .int) (C := RX7) (T := TX7) (N := 15) C.1 C.2.1 C.2.2.2.2.1 in0X7 tyX7 tyX7_ok nmX7 C.2.2.2.1 C.2.2.2.2.2.1 hw.1 hw.2.1 hw.2.2 r.length kc_at rfl 10 (by decide) (C.2.2.2.2.1 _ (th_b1 100 rfl rfl)) (fun _ h => h) rfl hin rfl (by decide +kernel) rfl rfl (Nat.le_of_ble_eq_true rfl) dX7_init_33 (fun H locs hP hD hS => ?_)
  unfold wI9 at hP hD
  rw [kc_set] at hP hD
  replace hw : th_wI (dC, dI) wI9 A s.heap (r ++ [(x, .inr (7, [.int 0, .int 0, .int 0, .int 0, .int 0, .int 0, .int 0, .ref b1, .ref b2, .ref b3, .ref b4, .null, .null, .null, .null])), (b1, .inl (cs 3, (48, .inl (fun _ => 0)))), (b2, .inl (cs 1, (48, .inl (fun _ => 0)))), (b3, .inl (cs 1, (6, .inl (fun _ => 0)))), (b4, .inl (cs 1, (6, .inl (fun _ => 0))))]) H locs := ⟨hP, hD, hS⟩
  clear hP hD hS
  refine lv_aload_n hx hb dX7_init_36 rfl (lv_at hl 0 rfl) ?_
  refine lv_bipush (v := (80 : Int32)) hx hb dX7_init_37 (by decide) ?_
  refine kn_q (N := 80) (i := 5) C hw (C.2.2.2.2.1 _ (th_b1 67 rfl rfl)) C.2.2.2.2.2.2.2.2.2.1.2.2 rfl (by decide) (by decide) (by decide) (Nat.le_of_ble_eq_true rfl) (Nat.le_of_ble_eq_true rfl) dX7_init_39 (fun b5 H hw => ?_)
  replace hw : th_wI (dC, dI) wI9 A s.heap (r ++ [(x, .inr (7, [.int 0, .int 0, .int 0, .int 0, .int 0, .int 0, .int 0, .ref b1, .ref b2, .ref b3, .ref b4, .null, .null, .null, .null])), (b1, .inl (cs 3, (48, .inl (fun _ => 0)))), (b2, .inl (cs 1, (48, .inl (fun _ => 0)))), (b3, .inl (cs 1, (6, .inl (fun _ => 0)))), (b4, .inl (cs 1, (6, .inl (fun _ => 0)))), (b5, .inl (cs 5, (80, .inr (.inr (.inr (.inr (fun _ => none)))))))]) H _ := hw
  refine va_putF (D := (dC, dI)) (ci := 7) (v := .ref b5) (ty := .array (.object "ThreadHouse$Token")) (C := RX7) (T := TX7) (N := 15) C.1 C.2.1 C.2.2.2.2.1 in0X7 tyX7 tyX7_ok nmX7 C.2.2.2.1 C.2.2.2.2.2.1 hw.1 hw.2.1 hw.2.2 r.length kc_at rfl 11 (by decide) (C.2.2.2.2.1 _ (th_b1 101 rfl rfl)) (fun _ h => h) rfl hin rfl (by decide +kernel) rfl rfl (Nat.le_of_ble_eq_true rfl) dX7_init_42 (fun H locs hP hD hS => ?_)
  unfold wI9 at hP hD
  rw [kc_set] at hP hD
  replace hw : th_wI (dC, dI) wI9 A s.heap (r ++ [(x, .inr (7, [.int 0, .int 0, .int 0, .int 0, .int 0, .int 0, .int 0, .ref b1, .ref b2, .ref b3, .ref b4, .ref b5, .null, .null, .null])), (b1, .inl (cs 3, (48, .inl (fun _ => 0)))), (b2, .inl (cs 1, (48, .inl (fun _ => 0)))), (b3, .inl (cs 1, (6, .inl (fun _ => 0)))), (b4, .inl (cs 1, (6, .inl (fun _ => 0)))), (b5, .inl (cs 5, (80, .inr (.inr (.inr (.inr (fun _ => none)))))))]) H locs := ⟨hP, hD, hS⟩
  clear hP hD hS
  refine lv_aload_n hx hb dX7_init_45 rfl (lv_at hl 0 rfl) ?_
  refine lv_bipush (v := (80 : Int32)) hx hb dX7_init_46 (by decide) ?_
  refine kn_q (N := 80) (i := 5) C hw (C.2.2.2.2.1 _ (th_b1 67 rfl rfl)) C.2.2.2.2.2.2.2.2.2.1.2.2 rfl (by decide) (by decide) (by decide) (Nat.le_of_ble_eq_true rfl) (Nat.le_of_ble_eq_true rfl) dX7_init_48 (fun b6 H hw => ?_)
  replace hw : th_wI (dC, dI) wI9 A s.heap (r ++ [(x, .inr (7, [.int 0, .int 0, .int 0, .int 0, .int 0, .int 0, .int 0, .ref b1, .ref b2, .ref b3, .ref b4, .ref b5, .null, .null, .null])), (b1, .inl (cs 3, (48, .inl (fun _ => 0)))), (b2, .inl (cs 1, (48, .inl (fun _ => 0)))), (b3, .inl (cs 1, (6, .inl (fun _ => 0)))), (b4, .inl (cs 1, (6, .inl (fun _ => 0)))), (b5, .inl (cs 5, (80, .inr (.inr (.inr (.inr (fun _ => none))))))), (b6, .inl (cs 5, (80, .inr (.inr (.inr (.inr (fun _ => none)))))))]) H _ := hw
  refine va_putF (D := (dC, dI)) (ci := 7) (v := .ref b6) (ty := .array (.object "ThreadHouse$Token")) (C := RX7) (T := TX7) (N := 15) C.1 C.2.1 C.2.2.2.2.1 in0X7 tyX7 tyX7_ok nmX7 C.2.2.2.1 C.2.2.2.2.2.1 hw.1 hw.2.1 hw.2.2 r.length kc_at rfl 12 (by decide) (C.2.2.2.2.1 _ (th_b1 102 rfl rfl)) (fun _ h => h) rfl hin rfl (by decide +kernel) rfl rfl (Nat.le_of_ble_eq_true rfl) dX7_init_51 (fun H locs hP hD hS => ?_)
  unfold wI9 at hP hD
  rw [kc_set] at hP hD
  replace hw : th_wI (dC, dI) wI9 A s.heap (r ++ [(x, .inr (7, [.int 0, .int 0, .int 0, .int 0, .int 0, .int 0, .int 0, .ref b1, .ref b2, .ref b3, .ref b4, .ref b5, .ref b6, .null, .null])), (b1, .inl (cs 3, (48, .inl (fun _ => 0)))), (b2, .inl (cs 1, (48, .inl (fun _ => 0)))), (b3, .inl (cs 1, (6, .inl (fun _ => 0)))), (b4, .inl (cs 1, (6, .inl (fun _ => 0)))), (b5, .inl (cs 5, (80, .inr (.inr (.inr (.inr (fun _ => none))))))), (b6, .inl (cs 5, (80, .inr (.inr (.inr (.inr (fun _ => none)))))))]) H locs := ⟨hP, hD, hS⟩
  clear hP hD hS
  refine lv_aload_n hx hb dX7_init_54 rfl (lv_at hl 0 rfl) ?_
  refine lv_bipush (v := (80 : Int32)) hx hb dX7_init_55 (by decide) ?_
  refine kn_a (N := 80) (i := 1) (ty := .int) (a0 := (80, .inl (fun _ => 0))) C hw (th_b1 136 rfl rfl) rfl rfl (fun _ => rfl) (by decide) (by decide) (by decide) (Nat.le_of_ble_eq_true rfl) (Nat.le_of_ble_eq_true rfl) dX7_init_57 (fun b7 H hw => ?_)
  replace hw : th_wI (dC, dI) wI9 A s.heap (r ++ [(x, .inr (7, [.int 0, .int 0, .int 0, .int 0, .int 0, .int 0, .int 0, .ref b1, .ref b2, .ref b3, .ref b4, .ref b5, .ref b6, .null, .null])), (b1, .inl (cs 3, (48, .inl (fun _ => 0)))), (b2, .inl (cs 1, (48, .inl (fun _ => 0)))), (b3, .inl (cs 1, (6, .inl (fun _ => 0)))), (b4, .inl (cs 1, (6, .inl (fun _ => 0)))), (b5, .inl (cs 5, (80, .inr (.inr (.inr (.inr (fun _ => none))))))), (b6, .inl (cs 5, (80, .inr (.inr (.inr (.inr (fun _ => none))))))), (b7, .inl (cs 1, (80, .inl (fun _ => 0))))]) H _ := hw
  refine va_putF (D := (dC, dI)) (ci := 7) (v := .ref b7) (ty := .array .int) (C := RX7) (T := TX7) (N := 15) C.1 C.2.1 C.2.2.2.2.1 in0X7 tyX7 tyX7_ok nmX7 C.2.2.2.1 C.2.2.2.2.2.1 hw.1 hw.2.1 hw.2.2 r.length kc_at rfl 13 (by decide) (C.2.2.2.2.1 _ (th_b1 103 rfl rfl)) (fun _ h => h) rfl hin rfl (by decide +kernel) rfl rfl (Nat.le_of_ble_eq_true rfl) dX7_init_59 (fun H locs hP hD hS => ?_)
  unfold wI9 at hP hD
  rw [kc_set] at hP hD
  replace hw : th_wI (dC, dI) wI9 A s.heap (r ++ [(x, .inr (7, [.int 0, .int 0, .int 0, .int 0, .int 0, .int 0, .int 0, .ref b1, .ref b2, .ref b3, .ref b4, .ref b5, .ref b6, .ref b7, .null])), (b1, .inl (cs 3, (48, .inl (fun _ => 0)))), (b2, .inl (cs 1, (48, .inl (fun _ => 0)))), (b3, .inl (cs 1, (6, .inl (fun _ => 0)))), (b4, .inl (cs 1, (6, .inl (fun _ => 0)))), (b5, .inl (cs 5, (80, .inr (.inr (.inr (.inr (fun _ => none))))))), (b6, .inl (cs 5, (80, .inr (.inr (.inr (.inr (fun _ => none))))))), (b7, .inl (cs 1, (80, .inl (fun _ => 0))))]) H locs := ⟨hP, hD, hS⟩
  clear hP hD hS
  refine lv_aload_n hx hb dX7_init_62 rfl (lv_at hl 0 rfl) ?_
  refine lv_bipush (v := (80 : Int32)) hx hb dX7_init_63 (by decide) ?_
  refine kn_a (N := 80) (i := 1) (ty := .int) (a0 := (80, .inl (fun _ => 0))) C hw (th_b1 136 rfl rfl) rfl rfl (fun _ => rfl) (by decide) (by decide) (by decide) (Nat.le_of_ble_eq_true rfl) (Nat.le_of_ble_eq_true rfl) dX7_init_65 (fun b8 H hw => ?_)
  replace hw : th_wI (dC, dI) wI9 A s.heap (r ++ [(x, .inr (7, [.int 0, .int 0, .int 0, .int 0, .int 0, .int 0, .int 0, .ref b1, .ref b2, .ref b3, .ref b4, .ref b5, .ref b6, .ref b7, .null])), (b1, .inl (cs 3, (48, .inl (fun _ => 0)))), (b2, .inl (cs 1, (48, .inl (fun _ => 0)))), (b3, .inl (cs 1, (6, .inl (fun _ => 0)))), (b4, .inl (cs 1, (6, .inl (fun _ => 0)))), (b5, .inl (cs 5, (80, .inr (.inr (.inr (.inr (fun _ => none))))))), (b6, .inl (cs 5, (80, .inr (.inr (.inr (.inr (fun _ => none))))))), (b7, .inl (cs 1, (80, .inl (fun _ => 0)))), (b8, .inl (cs 1, (80, .inl (fun _ => 0))))]) H _ := hw
  refine va_putF (D := (dC, dI)) (ci := 7) (v := .ref b8) (ty := .array .int) (C := RX7) (T := TX7) (N := 15) C.1 C.2.1 C.2.2.2.2.1 in0X7 tyX7 tyX7_ok nmX7 C.2.2.2.1 C.2.2.2.2.2.1 hw.1 hw.2.1 hw.2.2 r.length kc_at rfl 14 (by decide) (C.2.2.2.2.1 _ (th_b1 104 rfl rfl)) (fun _ h => h) rfl hin rfl (by decide +kernel) rfl rfl (Nat.le_of_ble_eq_true rfl) dX7_init_67 (fun H locs hP hD hS => ?_)
  unfold wI9 at hP hD
  rw [kc_set] at hP hD
  replace hw : th_wI (dC, dI) wI9 A s.heap (r ++ [(x, .inr (7, [.int 0, .int 0, .int 0, .int 0, .int 0, .int 0, .int 0, .ref b1, .ref b2, .ref b3, .ref b4, .ref b5, .ref b6, .ref b7, .ref b8])), (b1, .inl (cs 3, (48, .inl (fun _ => 0)))), (b2, .inl (cs 1, (48, .inl (fun _ => 0)))), (b3, .inl (cs 1, (6, .inl (fun _ => 0)))), (b4, .inl (cs 1, (6, .inl (fun _ => 0)))), (b5, .inl (cs 5, (80, .inr (.inr (.inr (.inr (fun _ => none))))))), (b6, .inl (cs 5, (80, .inr (.inr (.inr (.inr (fun _ => none))))))), (b7, .inl (cs 1, (80, .inl (fun _ => 0)))), (b8, .inl (cs 1, (80, .inl (fun _ => 0))))]) H locs := ⟨hP, hD, hS⟩
  clear hP hD hS
  refine lv_aload_n hx hb dX7_init_70 rfl (lv_at hl 0 rfl) ?_
  replace hw : th_wI (dC, dI) wI9 A s.heap (r ++ (wT9 cs x [0, 0, 0, 0, 0, 0, 0] (fun i => [b1, b2, b3, b4, b5, b6, b7, b8].getD i 0) (fun _ => 0) ++ [(b3, .inl (cs 1, (6, .inl (fun _ => 0)))), (b4, .inl (cs 1, (6, .inl (fun _ => 0)))), (b5, .inl (cs 5, (80, .inr (.inr (.inr (.inr (fun _ => none))))))), (b6, .inl (cs 5, (80, .inr (.inr (.inr (.inr (fun _ => none))))))), (b7, .inl (cs 1, (80, .inl (fun _ => 0)))), (b8, .inl (cs 1, (80, .inl (fun _ => 0))))])) H locs := hw
  refine th_callVv (w := wI9) (As := []) (rest := []) (K := fun ws => ∃ h : Nat → Int32, (∀ j, j < 48 → h j = 10) ∧ ws = r ++ (wT9 cs x [24, 1, 1, 0, 0, 0, 0] (fun i => [b1, b2, b3, b4, b5, b6, b7, b8].getD i 0) h ++ [(b3, .inl (cs 1, (6, .inl (fun _ => 0)))), (b4, .inl (cs 1, (6, .inl (fun _ => 0)))), (b5, .inl (cs 5, (80, .inr (.inr (.inr (.inr (fun _ => none))))))), (b6, .inl (cs 5, (80, .inr (.inr (.inr (.inr (fun _ => none))))))), (b7, .inl (cs 1, (80, .inl (fun _ => 0)))), (b8, .inl (cs 1, (80, .inl (fun _ => 0))))])) (u := r ++ (wT9 cs x [0, 0, 0, 0, 0, 0, 0] (fun i => [b1, b2, b3, b4, b5, b6, b7, b8].getD i 0) (fun _ => 0) ++ [(b3, .inl (cs 1, (6, .inl (fun _ => 0)))), (b4, .inl (cs 1, (6, .inl (fun _ => 0)))), (b5, .inl (cs 5, (80, .inr (.inr (.inr (.inr (fun _ => none))))))), (b6, .inl (cs 5, (80, .inr (.inr (.inr (.inr (fun _ => none))))))), (b7, .inl (cs 1, (80, .inl (fun _ => 0)))), (b8, .inl (cs 1, (80, .inl (fun _ => 0))))])) C lkN_X7_40 (fr_Cv (W9 := wI9) (f := fun ws => r ++ (ws ++ [(b3, .inl (cs 1, (6, .inl (fun _ => 0)))), (b4, .inl (cs 1, (6, .inl (fun _ => 0)))), (b5, .inl (cs 5, (80, .inr (.inr (.inr (.inr (fun _ => none))))))), (b6, .inl (cs 5, (80, .inr (.inr (.inr (.inr (fun _ => none))))))), (b7, .inl (cs 1, (80, .inl (fun _ => 0)))), (b8, .inl (cs 1, (80, .inl (fun _ => 0))))])) (w := wI9) (a := r) (c := [(b3, .inl (cs 1, (6, .inl (fun _ => 0)))), (b4, .inl (cs 1, (6, .inl (fun _ => 0)))), (b5, .inl (cs 5, (80, .inr (.inr (.inr (.inr (fun _ => none))))))), (b6, .inl (cs 5, (80, .inr (.inr (.inr (.inr (fun _ => none))))))), (b7, .inl (cs 1, (80, .inl (fun _ => 0)))), (b8, .inl (cs 1, (80, .inl (fun _ => 0))))]) hE (fun _ _ _ h => h) (fun _ => rfl) (fun ws hh => by obtain ⟨h, h1, rfl⟩ := hh; exact ⟨h, h1, rfl⟩) (ne_c hE)) hw (va_recv (q := (RX7, TX7, 15)) C.2.2.2.2.2.1 hw.1 (ci := 7) (q0 := r.length) rfl kc_at) rfl rfl ⟨Nat.le_of_ble_eq_true rfl, Nat.le_of_ble_eq_true rfl⟩ hl.1 (Nat.le_of_ble_eq_true rfl) ⟨Nat.le_of_ble_eq_true rfl, Nat.le_of_ble_eq_true rfl⟩ dX7_init_71 (fun ws H locs hf hw => ?_)
  obtain ⟨g0, hg0, rfl⟩ := hf
  replace hw : th_wI (dC, dI) wI9 A s.heap (r ++ [(x, .inr (7, [.int 24, .int 1, .int 1, .int 0, .int 0, .int 0, .int 0, .ref b1, .ref b2, .ref b3, .ref b4, .ref b5, .ref b6, .ref b7, .ref b8])), (b1, .inl (cs 3, (48, .inl (fun _ => 0)))), (b2, .inl (cs 1, (48, .inl g0))), (b3, .inl (cs 1, (6, .inl (fun _ => 0)))), (b4, .inl (cs 1, (6, .inl (fun _ => 0)))), (b5, .inl (cs 5, (80, .inr (.inr (.inr (.inr (fun _ => none))))))), (b6, .inl (cs 5, (80, .inr (.inr (.inr (.inr (fun _ => none))))))), (b7, .inl (cs 1, (80, .inl (fun _ => 0)))), (b8, .inl (cs 1, (80, .inl (fun _ => 0))))]) H _ := hw
  exact th_vret C hw ⟨b1, b2, b3, b4, b5, b6, b7, b8, g0, hg0, rfl⟩ dX7_init_74
theorem dX4_init_0 : decode cX4_init 0 = .ok (.aload_n 0, 1) := by decide +kernel
theorem dX4_init_1 : decode cX4_init 1 = .ok (.invokespecial 3, 3) := by decide +kernel
theorem dX4_init_4 : decode cX4_init 4 = .ok (.aload_n 0, 1) := by decide +kernel
theorem dX4_init_5 : decode cX4_init 5 = .ok (.sipush 401, 3) := by decide +kernel
theorem dX4_init_8 : decode cX4_init 8 = .ok (.anewarray 11, 3) := by decide +kernel
theorem dX4_init_11 : decode cX4_init 11 = .ok (.putfield 13, 3) := by decide +kernel
theorem dX4_init_14 : decode cX4_init 14 = .ok (.aload_n 0, 1) := by decide +kernel
theorem dX4_init_15 : decode cX4_init 15 = .ok (.sipush 401, 3) := by decide +kernel
theorem dX4_init_18 : decode cX4_init 18 = .ok (.newarray .int, 2) := by decide +kernel
theorem dX4_init_20 : decode cX4_init 20 = .ok (.putfield 17, 3) := by decide +kernel
theorem dX4_init_23 : decode cX4_init 23 = .ok (.aload_n 0, 1) := by decide +kernel
theorem dX4_init_24 : decode cX4_init 24 = .ok (.sipush 401, 3) := by decide +kernel
theorem dX4_init_27 : decode cX4_init 27 = .ok (.newarray .int, 2) := by decide +kernel
theorem dX4_init_29 : decode cX4_init 29 = .ok (.putfield 21, 3) := by decide +kernel
theorem dX4_init_32 : decode cX4_init 32 = .ok (.aload_n 0, 1) := by decide +kernel
theorem dX4_init_33 : decode cX4_init 33 = .ok (.iconst 0, 1) := by decide +kernel
theorem dX4_init_34 : decode cX4_init 34 = .ok (.putfield 24, 3) := by decide +kernel
theorem dX4_init_37 : decode cX4_init 37 = .ok (.aload_n 0, 1) := by decide +kernel
theorem dX4_init_38 : decode cX4_init 38 = .ok (.new 28, 3) := by decide +kernel
theorem dX4_init_41 : decode cX4_init 41 = .ok (.dup, 1) := by decide +kernel
theorem dX4_init_42 : decode cX4_init 42 = .ok (.invokespecial 30, 3) := by decide +kernel
theorem dX4_init_45 : decode cX4_init 45 = .ok (.putfield 31, 3) := by decide +kernel
theorem dX4_init_48 : decode cX4_init 48 = .ok (.aload_n 0, 1) := by decide +kernel
theorem dX4_init_49 : decode cX4_init 49 = .ok (.iconst 0, 1) := by decide +kernel
theorem dX4_init_50 : decode cX4_init 50 = .ok (.putfield 35, 3) := by decide +kernel
theorem dX4_init_53 : decode cX4_init 53 = .ok (.aload_n 0, 1) := by decide +kernel
theorem dX4_init_54 : decode cX4_init 54 = .ok (.getstatic 38, 3) := by decide +kernel
theorem dX4_init_57 : decode cX4_init 57 = .ok (.putfield 42, 3) := by decide +kernel
theorem dX4_init_60 : decode cX4_init 60 = .ok (.aload_n 0, 1) := by decide +kernel
theorem dX4_init_61 : decode cX4_init 61 = .ok (.iconst 0, 1) := by decide +kernel
theorem dX4_init_62 : decode cX4_init 62 = .ok (.putfield 45, 3) := by decide +kernel
theorem dX4_init_65 : decode cX4_init 65 = .ok (.aload_n 0, 1) := by decide +kernel
theorem dX4_init_66 : decode cX4_init 66 = .ok (.iconst 0, 1) := by decide +kernel
theorem dX4_init_67 : decode cX4_init 67 = .ok (.putfield 48, 3) := by decide +kernel
theorem dX4_init_70 : decode cX4_init 70 = .ok (.aload_n 0, 1) := by decide +kernel
theorem dX4_init_71 : decode cX4_init 71 = .ok (.iconst 0, 1) := by decide +kernel
theorem dX4_init_72 : decode cX4_init 72 = .ok (.putfield 51, 3) := by decide +kernel
theorem dX4_init_75 : decode cX4_init 75 = .ok (.aload_n 0, 1) := by decide +kernel
theorem dX4_init_76 : decode cX4_init 76 = .ok (.iconst 0, 1) := by decide +kernel
theorem dX4_init_77 : decode cX4_init 77 = .ok (.putfield 55, 3) := by decide +kernel
theorem dX4_init_80 : decode cX4_init 80 = .ok (.aload_n 0, 1) := by decide +kernel
theorem dX4_init_81 : decode cX4_init 81 = .ok (.iconst 0, 1) := by decide +kernel
theorem dX4_init_82 : decode cX4_init 82 = .ok (.putfield 58, 3) := by decide +kernel
theorem dX4_init_85 : decode cX4_init 85 = .ok (.aload_n 0, 1) := by decide +kernel
theorem dX4_init_86 : decode cX4_init 86 = .ok (.iconst 0, 1) := by decide +kernel
theorem dX4_init_87 : decode cX4_init 87 = .ok (.putfield 61, 3) := by decide +kernel
theorem dX4_init_90 : decode cX4_init 90 = .ok (.aload_n 0, 1) := by decide +kernel
theorem dX4_init_91 : decode cX4_init 91 = .ok (.iconst 0, 1) := by decide +kernel
theorem dX4_init_92 : decode cX4_init 92 = .ok (.putfield 64, 3) := by decide +kernel
theorem dX4_init_95 : decode cX4_init 95 = .ok (.return_, 1) := by decide +kernel
set_option maxHeartbeats 4000000 in
set_option maxRecDepth 100000 in
theorem N_X4_c {l : Launch} {dC : Nat → ClassId} {dI : Nat → Nat → Nat} {cs : Nat → ClassId} {ad ak : Nat → Nat}  {r : va_W} {x : Nat} (hE : th_EO (xE5 ad ak)) : th_Cv l yX4_init cX4_init 1 none 3 12 1646 (dC, dI) (th_ty cs) (xE5 ad ak) wI9 [.ref x] (r ++ [(x, .inr (4, [.null, .null, .null, .int 0, .null, .int 0, .null, .int 0, .int 0, .int 0, .int 0, .int 0, .int 0, .int 0]))]) (fun ws => ∃ b1 : Nat, ∃ b2 : Nat, ∃ b3 : Nat, ∃ b4 : Nat, ∃ b5 : Nat, ∃ b6 : Nat, ∃ b7 : Nat, ∃ b8 : Nat, ∃ b9 : Nat, ∃ b10 : Nat, ∃ b11 : Nat, ∃ b12 : Nat, ∃ g13 : Nat → Int32, (∀ j, j < 48 → g13 j = 10) ∧ ws = r ++ [(x, .inr (4, [.ref b1, .ref b2, .ref b3, .int 0, .ref b4, .int 0, .ref (ad 0), .int 0, .int 0, .int 0, .int 0, .int 0, .int 0, .int 0])), (b1, .inl (cs 5, (401, .inr (.inr (.inr (.inr (fun _ => none))))))), (b2, .inl (cs 1, (401, .inl (fun _ => 0)))), (b3, .inl (cs 1, (401, .inl (fun _ => 0)))), (b4, .inr (7, [.int 24, .int 1, .int 1, .int 0, .int 0, .int 0, .int 0, .ref b5, .ref b6, .ref b7, .ref b8, .ref b9, .ref b10, .ref b11, .ref b12])), (b5, .inl (cs 3, (48, .inl (fun _ => 0)))), (b6, .inl (cs 1, (48, .inl g13))), (b7, .inl (cs 1, (6, .inl (fun _ => 0)))), (b8, .inl (cs 1, (6, .inl (fun _ => 0)))), (b9, .inl (cs 5, (80, .inr (.inr (.inr (.inr (fun _ => none))))))), (b10, .inl (cs 5, (80, .inr (.inr (.inr (.inr (fun _ => none))))))), (b11, .inl (cs 1, (80, .inl (fun _ => 0)))), (b12, .inl (cs 1, (80, .inl (fun _ => 0))))]) := by
  refine th_ofvI (by decide) (Nat.le_of_ble_eq_true rfl) hE rfl ?_
  intro p e s m below meth c A ls C hin hw hl
  have C : th_Cx p s m _ meth c cX4_init RX4 1 none (dC, dI) (th_ty cs) (xE5 ad ak) A := C
  have hl : lv_has ls 1 [(0, .ref x)] := hl
  generalize (List.toArray _ : Array Value) = args at C ⊢
  have hx := C.1
  have hb := C.2.1
  refine lv_aload_n hx hb dX4_init_0 rfl (lv_at hl 0 rfl) ?_
  refine W.objInit hx hb C.2.2.2.1 (C.2.2.2.2.1 _ (th_b1 58 rfl rfl)) (C.2.2.2.2.1 _ (th_b1 32 rfl rfl)) (C.2.2.2.2.1 _ (th_b1 33 rfl rfl)) rfl (by rw [C.2.2.1]; exact hl.1) rfl dX4_init_1 (Nat.le_of_ble_eq_true rfl) (Nat.le_of_ble_eq_true rfl) ?_
  refine W.eq (g2 := F0 m 4 ls []) rfl ?_
  refine lv_aload_n hx hb dX4_init_4 rfl (lv_at hl 0 rfl) ?_
  refine lv_sipush (v := (401 : Int32)) hx hb dX4_init_5 (by decide) ?_
  refine kn_q (N := 401) (i := 5) C hw (C.2.2.2.2.1 _ (th_b1 59 rfl rfl)) C.2.2.2.2.2.2.2.2.2.1.2.2 rfl (by decide) (by decide) (by decide) (Nat.le_of_ble_eq_true rfl) (Nat.le_of_ble_eq_true rfl) dX4_init_8 (fun b1 H hw => ?_)
  replace hw : th_wI (dC, dI) wI9 A s.heap (r ++ [(x, .inr (4, [.null, .null, .null, .int 0, .null, .int 0, .null, .int 0, .int 0, .int 0, .int 0, .int 0, .int 0, .int 0])), (b1, .inl (cs 5, (401, .inr (.inr (.inr (.inr (fun _ => none)))))))]) H _ := hw
  refine va_putF (D := (dC, dI)) (ci := 4) (v := .ref b1) (ty := .array (.object "ThreadHouse$Token")) (C := RX4) (T := TX4) (N := 14) C.1 C.2.1 C.2.2.2.2.1 in0X4 tyX4 tyX4_ok nmX4 C.2.2.2.1 C.2.2.2.2.2.1 hw.1 hw.2.1 hw.2.2 r.length kc_at rfl 0 (by decide) (C.2.2.2.2.1 _ (th_b1 140 rfl rfl)) (fun _ h => h) rfl hin rfl (by decide +kernel) rfl rfl (Nat.le_of_ble_eq_true rfl) dX4_init_11 (fun H locs hP hD hS => ?_)
  unfold wI9 at hP hD
  rw [kc_set] at hP hD
  replace hw : th_wI (dC, dI) wI9 A s.heap (r ++ [(x, .inr (4, [.ref b1, .null, .null, .int 0, .null, .int 0, .null, .int 0, .int 0, .int 0, .int 0, .int 0, .int 0, .int 0])), (b1, .inl (cs 5, (401, .inr (.inr (.inr (.inr (fun _ => none)))))))]) H locs := ⟨hP, hD, hS⟩
  clear hP hD hS
  refine lv_aload_n hx hb dX4_init_14 rfl (lv_at hl 0 rfl) ?_
  refine lv_sipush (v := (401 : Int32)) hx hb dX4_init_15 (by decide) ?_
  refine kn_a (N := 401) (i := 1) (ty := .int) (a0 := (401, .inl (fun _ => 0))) C hw (th_b1 136 rfl rfl) rfl rfl (fun _ => rfl) (by decide) (by decide) (by decide) (Nat.le_of_ble_eq_true rfl) (Nat.le_of_ble_eq_true rfl) dX4_init_18 (fun b2 H hw => ?_)
  replace hw : th_wI (dC, dI) wI9 A s.heap (r ++ [(x, .inr (4, [.ref b1, .null, .null, .int 0, .null, .int 0, .null, .int 0, .int 0, .int 0, .int 0, .int 0, .int 0, .int 0])), (b1, .inl (cs 5, (401, .inr (.inr (.inr (.inr (fun _ => none))))))), (b2, .inl (cs 1, (401, .inl (fun _ => 0))))]) H _ := hw
  refine va_putF (D := (dC, dI)) (ci := 4) (v := .ref b2) (ty := .array .int) (C := RX4) (T := TX4) (N := 14) C.1 C.2.1 C.2.2.2.2.1 in0X4 tyX4 tyX4_ok nmX4 C.2.2.2.1 C.2.2.2.2.2.1 hw.1 hw.2.1 hw.2.2 r.length kc_at rfl 1 (by decide) (C.2.2.2.2.1 _ (th_b1 141 rfl rfl)) (fun _ h => h) rfl hin rfl (by decide +kernel) rfl rfl (Nat.le_of_ble_eq_true rfl) dX4_init_20 (fun H locs hP hD hS => ?_)
  unfold wI9 at hP hD
  rw [kc_set] at hP hD
  replace hw : th_wI (dC, dI) wI9 A s.heap (r ++ [(x, .inr (4, [.ref b1, .ref b2, .null, .int 0, .null, .int 0, .null, .int 0, .int 0, .int 0, .int 0, .int 0, .int 0, .int 0])), (b1, .inl (cs 5, (401, .inr (.inr (.inr (.inr (fun _ => none))))))), (b2, .inl (cs 1, (401, .inl (fun _ => 0))))]) H locs := ⟨hP, hD, hS⟩
  clear hP hD hS
  refine lv_aload_n hx hb dX4_init_23 rfl (lv_at hl 0 rfl) ?_
  refine lv_sipush (v := (401 : Int32)) hx hb dX4_init_24 (by decide) ?_
  refine kn_a (N := 401) (i := 1) (ty := .int) (a0 := (401, .inl (fun _ => 0))) C hw (th_b1 136 rfl rfl) rfl rfl (fun _ => rfl) (by decide) (by decide) (by decide) (Nat.le_of_ble_eq_true rfl) (Nat.le_of_ble_eq_true rfl) dX4_init_27 (fun b3 H hw => ?_)
  replace hw : th_wI (dC, dI) wI9 A s.heap (r ++ [(x, .inr (4, [.ref b1, .ref b2, .null, .int 0, .null, .int 0, .null, .int 0, .int 0, .int 0, .int 0, .int 0, .int 0, .int 0])), (b1, .inl (cs 5, (401, .inr (.inr (.inr (.inr (fun _ => none))))))), (b2, .inl (cs 1, (401, .inl (fun _ => 0)))), (b3, .inl (cs 1, (401, .inl (fun _ => 0))))]) H _ := hw
  refine va_putF (D := (dC, dI)) (ci := 4) (v := .ref b3) (ty := .array .int) (C := RX4) (T := TX4) (N := 14) C.1 C.2.1 C.2.2.2.2.1 in0X4 tyX4 tyX4_ok nmX4 C.2.2.2.1 C.2.2.2.2.2.1 hw.1 hw.2.1 hw.2.2 r.length kc_at rfl 2 (by decide) (C.2.2.2.2.1 _ (th_b1 142 rfl rfl)) (fun _ h => h) rfl hin rfl (by decide +kernel) rfl rfl (Nat.le_of_ble_eq_true rfl) dX4_init_29 (fun H locs hP hD hS => ?_)
  unfold wI9 at hP hD
  rw [kc_set] at hP hD
  replace hw : th_wI (dC, dI) wI9 A s.heap (r ++ [(x, .inr (4, [.ref b1, .ref b2, .ref b3, .int 0, .null, .int 0, .null, .int 0, .int 0, .int 0, .int 0, .int 0, .int 0, .int 0])), (b1, .inl (cs 5, (401, .inr (.inr (.inr (.inr (fun _ => none))))))), (b2, .inl (cs 1, (401, .inl (fun _ => 0)))), (b3, .inl (cs 1, (401, .inl (fun _ => 0))))]) H locs := ⟨hP, hD, hS⟩
  clear hP hD hS
  refine lv_aload_n hx hb dX4_init_32 rfl (lv_at hl 0 rfl) ?_
  refine lv_iconst (v := (0 : Int32)) hx hb dX4_init_33 (by decide) ?_
  refine va_put (D := (dC, dI)) (ci := 4) (v := .int 0) (ty := .int) (C := RX4) (T := TX4) (N := 14) C.1 C.2.1 C.2.2.2.2.1 in0X4 tyX4 tyX4_ok nmX4 C.2.2.2.1 C.2.2.2.2.2.1 hw.1 hw.2.1 hw.2.2 r.length kc_at rfl 3 (by decide) (C.2.2.2.2.1 _ (th_b1 143 rfl rfl)) (fun _ h => h) rfl (by decide +kernel) rfl rfl (Nat.le_of_ble_eq_true rfl) dX4_init_34 (fun H locs hP hD hS => ?_)
  unfold wI9 at hP hD
  rw [kc_set] at hP hD
  replace hw : th_wI (dC, dI) wI9 A s.heap (r ++ [(x, .inr (4, [.ref b1, .ref b2, .ref b3, .int 0, .null, .int 0, .null, .int 0, .int 0, .int 0, .int 0, .int 0, .int 0, .int 0])), (b1, .inl (cs 5, (401, .inr (.inr (.inr (.inr (fun _ => none))))))), (b2, .inl (cs 1, (401, .inl (fun _ => 0)))), (b3, .inl (cs 1, (401, .inl (fun _ => 0))))]) H locs := ⟨hP, hD, hS⟩
  clear hP hD hS
  refine lv_aload_n hx hb dX4_init_37 rfl (lv_at hl 0 rfl) ?_
  refine kn_o (ci := 7) (C9 := RX7) (T := TX7) (N := 15) (ty := tyX7) (fs := [.int 0, .int 0, .int 0, .int 0, .int 0, .int 0, .int 0, .null, .null, .null, .null, .null, .null, .null, .null]) C hw in0X7 tyX7_ok (C.2.2.2.2.1 _ (th_b1 61 rfl rfl)) (th_b1 62 rfl rfl) (th_b1 4 rfl rfl) rfl (fun j hj => by
      match j, hj with
      | 0, _ => rfl
      | 1, _ => rfl
      | 2, _ => rfl
      | 3, _ => rfl
      | 4, _ => rfl
      | 5, _ => rfl
      | 6, _ => rfl
      | 7, _ => rfl
      | 8, _ => rfl
      | 9, _ => rfl
      | 10, _ => rfl
      | 11, _ => rfl
      | 12, _ => rfl
      | 13, _ => rfl
      | 14, _ => rfl
      | j + 15, h => exact absurd h (by omega)) (Nat.le_of_ble_eq_true rfl) (Nat.le_of_ble_eq_true rfl) dX4_init_38 (fun b4 H hw => ?_)
  replace hw : th_wI (dC, dI) wI9 A s.heap (r ++ [(x, .inr (4, [.ref b1, .ref b2, .ref b3, .int 0, .null, .int 0, .null, .int 0, .int 0, .int 0, .int 0, .int 0, .int 0, .int 0])), (b1, .inl (cs 5, (401, .inr (.inr (.inr (.inr (fun _ => none))))))), (b2, .inl (cs 1, (401, .inl (fun _ => 0)))), (b3, .inl (cs 1, (401, .inl (fun _ => 0)))), (b4, .inr (7, [.int 0, .int 0, .int 0, .int 0, .int 0, .int 0, .int 0, .null, .null, .null, .null, .null, .null, .null, .null]))]) H _ := hw
  refine lv_dup hx hb dX4_init_41 rfl ?_
  replace hw : th_wI (dC, dI) wI9 A s.heap ((r ++ [(x, .inr (4, [.ref b1, .ref b2, .ref b3, .int 0, .null, .int 0, .null, .int 0, .int 0, .int 0, .int 0, .int 0, .int 0, .int 0])), (b1, .inl (cs 5, (401, .inr (.inr (.inr (.inr (fun _ => none))))))), (b2, .inl (cs 1, (401, .inl (fun _ => 0)))), (b3, .inl (cs 1, (401, .inl (fun _ => 0))))]) ++ [(b4, .inr (7, [.int 0, .int 0, .int 0, .int 0, .int 0, .int 0, .int 0, .null, .null, .null, .null, .null, .null, .null, .null]))]) H locs := by
    rw [List.append_assoc]
    exact hw
  refine th_callIv (As := []) (rest := [.ref b4, .ref x]) (y := yX7_init) (bytes := cX7_init) (n := 1) (k := 0) C ⟨(th_b1 63 rfl rfl), (th_b1 64 rfl rfl), (th_b1 4 rfl rfl), (th_b1 65 rfl rfl), rfl, by decide +kernel⟩ (N_X7_c (hE := hE)) hw rfl rfl ⟨Nat.le_of_ble_eq_true rfl, Nat.le_of_ble_eq_true rfl⟩ hl.1 (Nat.le_of_ble_eq_true rfl) ⟨Nat.le_of_ble_eq_true rfl, Nat.le_of_ble_eq_true rfl⟩ dX4_init_42 (fun ws H locs hf hw => ?_)
  obtain ⟨b5, b6, b7, b8, b9, b10, b11, b12, g13, hg13, rfl⟩ := hf
  replace hw : th_wI (dC, dI) wI9 A s.heap (r ++ [(x, .inr (4, [.ref b1, .ref b2, .ref b3, .int 0, .null, .int 0, .null, .int 0, .int 0, .int 0, .int 0, .int 0, .int 0, .int 0])), (b1, .inl (cs 5, (401, .inr (.inr (.inr (.inr (fun _ => none))))))), (b2, .inl (cs 1, (401, .inl (fun _ => 0)))), (b3, .inl (cs 1, (401, .inl (fun _ => 0)))), (b4, .inr (7, [.int 24, .int 1, .int 1, .int 0, .int 0, .int 0, .int 0, .ref b5, .ref b6, .ref b7, .ref b8, .ref b9, .ref b10, .ref b11, .ref b12])), (b5, .inl (cs 3, (48, .inl (fun _ => 0)))), (b6, .inl (cs 1, (48, .inl g13))), (b7, .inl (cs 1, (6, .inl (fun _ => 0)))), (b8, .inl (cs 1, (6, .inl (fun _ => 0)))), (b9, .inl (cs 5, (80, .inr (.inr (.inr (.inr (fun _ => none))))))), (b10, .inl (cs 5, (80, .inr (.inr (.inr (.inr (fun _ => none))))))), (b11, .inl (cs 1, (80, .inl (fun _ => 0)))), (b12, .inl (cs 1, (80, .inl (fun _ => 0))))]) H locs := by
    rw [List.append_assoc] at hw
    exact hw
  refine va_put (D := (dC, dI)) (ci := 4) (v := .ref b4) (ty := .object "ThreadHouse$Text") (C := RX4) (T := TX4) (N := 14) C.1 C.2.1 C.2.2.2.2.1 in0X4 tyX4 tyX4_ok nmX4 C.2.2.2.1 C.2.2.2.2.2.1 hw.1 hw.2.1 hw.2.2 r.length kc_at rfl 4 (by decide) (C.2.2.2.2.1 _ (th_b1 144 rfl rfl)) (fun _ h => h) rfl (by decide +kernel) rfl rfl (Nat.le_of_ble_eq_true rfl) dX4_init_45 (fun H locs hP hD hS => ?_)
  unfold wI9 at hP hD
  rw [kc_set] at hP hD
  replace hw : th_wI (dC, dI) wI9 A s.heap (r ++ [(x, .inr (4, [.ref b1, .ref b2, .ref b3, .int 0, .ref b4, .int 0, .null, .int 0, .int 0, .int 0, .int 0, .int 0, .int 0, .int 0])), (b1, .inl (cs 5, (401, .inr (.inr (.inr (.inr (fun _ => none))))))), (b2, .inl (cs 1, (401, .inl (fun _ => 0)))), (b3, .inl (cs 1, (401, .inl (fun _ => 0)))), (b4, .inr (7, [.int 24, .int 1, .int 1, .int 0, .int 0, .int 0, .int 0, .ref b5, .ref b6, .ref b7, .ref b8, .ref b9, .ref b10, .ref b11, .ref b12])), (b5, .inl (cs 3, (48, .inl (fun _ => 0)))), (b6, .inl (cs 1, (48, .inl g13))), (b7, .inl (cs 1, (6, .inl (fun _ => 0)))), (b8, .inl (cs 1, (6, .inl (fun _ => 0)))), (b9, .inl (cs 5, (80, .inr (.inr (.inr (.inr (fun _ => none))))))), (b10, .inl (cs 5, (80, .inr (.inr (.inr (.inr (fun _ => none))))))), (b11, .inl (cs 1, (80, .inl (fun _ => 0)))), (b12, .inl (cs 1, (80, .inl (fun _ => 0))))]) H locs := ⟨hP, hD, hS⟩
  clear hP hD hS
  refine lv_aload_n hx hb dX4_init_48 rfl (lv_at hl 0 rfl) ?_
  refine lv_iconst (v := (0 : Int32)) hx hb dX4_init_49 (by decide) ?_
  refine va_put (D := (dC, dI)) (ci := 4) (v := .int 0) (ty := .int) (C := RX4) (T := TX4) (N := 14) C.1 C.2.1 C.2.2.2.2.1 in0X4 tyX4 tyX4_ok nmX4 C.2.2.2.1 C.2.2.2.2.2.1 hw.1 hw.2.1 hw.2.2 r.length kc_at rfl 5 (by decide) (C.2.2.2.2.1 _ (th_b1 146 rfl rfl)) (fun _ h => h) rfl (by decide +kernel) rfl rfl (Nat.le_of_ble_eq_true rfl) dX4_init_50 (fun H locs hP hD hS => ?_)
  unfold wI9 at hP hD
  rw [kc_set] at hP hD
  replace hw : th_wI (dC, dI) wI9 A s.heap (r ++ [(x, .inr (4, [.ref b1, .ref b2, .ref b3, .int 0, .ref b4, .int 0, .null, .int 0, .int 0, .int 0, .int 0, .int 0, .int 0, .int 0])), (b1, .inl (cs 5, (401, .inr (.inr (.inr (.inr (fun _ => none))))))), (b2, .inl (cs 1, (401, .inl (fun _ => 0)))), (b3, .inl (cs 1, (401, .inl (fun _ => 0)))), (b4, .inr (7, [.int 24, .int 1, .int 1, .int 0, .int 0, .int 0, .int 0, .ref b5, .ref b6, .ref b7, .ref b8, .ref b9, .ref b10, .ref b11, .ref b12])), (b5, .inl (cs 3, (48, .inl (fun _ => 0)))), (b6, .inl (cs 1, (48, .inl g13))), (b7, .inl (cs 1, (6, .inl (fun _ => 0)))), (b8, .inl (cs 1, (6, .inl (fun _ => 0)))), (b9, .inl (cs 5, (80, .inr (.inr (.inr (.inr (fun _ => none))))))), (b10, .inl (cs 5, (80, .inr (.inr (.inr (.inr (fun _ => none))))))), (b11, .inl (cs 1, (80, .inl (fun _ => 0)))), (b12, .inl (cs 1, (80, .inl (fun _ => 0))))]) H locs := ⟨hP, hD, hS⟩
  clear hP hD hS
  refine lv_aload_n hx hb dX4_init_53 rfl (lv_at hl 0 rfl) ?_
  refine va_gets C.1 C.2.1 ((C.2.2.2.2.2.2.2.2.2.1.1.2.2.1).1 0 (by decide)).1 hw.2.2 C.2.2.2.1 (C.2.2.2.2.1 _ (th_b1 138 rfl rfl)) (fun _ h => h) dX4_init_54 ?_
  refine va_put (D := (dC, dI)) (ci := 4) (v := .ref (ad 0)) (ty := .object "ThreadHouse$Token") (C := RX4) (T := TX4) (N := 14) C.1 C.2.1 C.2.2.2.2.1 in0X4 tyX4 tyX4_ok nmX4 C.2.2.2.1 C.2.2.2.2.2.1 hw.1 hw.2.1 hw.2.2 r.length kc_at rfl 6 (by decide) (C.2.2.2.2.1 _ (th_b1 147 rfl rfl)) (fun _ h => h) rfl (by decide +kernel) rfl rfl (Nat.le_of_ble_eq_true rfl) dX4_init_57 (fun H locs hP hD hS => ?_)
  unfold wI9 at hP hD
  rw [kc_set] at hP hD
  replace hw : th_wI (dC, dI) wI9 A s.heap (r ++ [(x, .inr (4, [.ref b1, .ref b2, .ref b3, .int 0, .ref b4, .int 0, .ref (ad 0), .int 0, .int 0, .int 0, .int 0, .int 0, .int 0, .int 0])), (b1, .inl (cs 5, (401, .inr (.inr (.inr (.inr (fun _ => none))))))), (b2, .inl (cs 1, (401, .inl (fun _ => 0)))), (b3, .inl (cs 1, (401, .inl (fun _ => 0)))), (b4, .inr (7, [.int 24, .int 1, .int 1, .int 0, .int 0, .int 0, .int 0, .ref b5, .ref b6, .ref b7, .ref b8, .ref b9, .ref b10, .ref b11, .ref b12])), (b5, .inl (cs 3, (48, .inl (fun _ => 0)))), (b6, .inl (cs 1, (48, .inl g13))), (b7, .inl (cs 1, (6, .inl (fun _ => 0)))), (b8, .inl (cs 1, (6, .inl (fun _ => 0)))), (b9, .inl (cs 5, (80, .inr (.inr (.inr (.inr (fun _ => none))))))), (b10, .inl (cs 5, (80, .inr (.inr (.inr (.inr (fun _ => none))))))), (b11, .inl (cs 1, (80, .inl (fun _ => 0)))), (b12, .inl (cs 1, (80, .inl (fun _ => 0))))]) H locs := ⟨hP, hD, hS⟩
  clear hP hD hS
  refine lv_aload_n hx hb dX4_init_60 rfl (lv_at hl 0 rfl) ?_
  refine lv_iconst (v := (0 : Int32)) hx hb dX4_init_61 (by decide) ?_
  refine va_put (D := (dC, dI)) (ci := 4) (v := .int 0) (ty := .int) (C := RX4) (T := TX4) (N := 14) C.1 C.2.1 C.2.2.2.2.1 in0X4 tyX4 tyX4_ok nmX4 C.2.2.2.1 C.2.2.2.2.2.1 hw.1 hw.2.1 hw.2.2 r.length kc_at rfl 7 (by decide) (C.2.2.2.2.1 _ (th_b1 148 rfl rfl)) (fun _ h => h) rfl (by decide +kernel) rfl rfl (Nat.le_of_ble_eq_true rfl) dX4_init_62 (fun H locs hP hD hS => ?_)
  unfold wI9 at hP hD
  rw [kc_set] at hP hD
  replace hw : th_wI (dC, dI) wI9 A s.heap (r ++ [(x, .inr (4, [.ref b1, .ref b2, .ref b3, .int 0, .ref b4, .int 0, .ref (ad 0), .int 0, .int 0, .int 0, .int 0, .int 0, .int 0, .int 0])), (b1, .inl (cs 5, (401, .inr (.inr (.inr (.inr (fun _ => none))))))), (b2, .inl (cs 1, (401, .inl (fun _ => 0)))), (b3, .inl (cs 1, (401, .inl (fun _ => 0)))), (b4, .inr (7, [.int 24, .int 1, .int 1, .int 0, .int 0, .int 0, .int 0, .ref b5, .ref b6, .ref b7, .ref b8, .ref b9, .ref b10, .ref b11, .ref b12])), (b5, .inl (cs 3, (48, .inl (fun _ => 0)))), (b6, .inl (cs 1, (48, .inl g13))), (b7, .inl (cs 1, (6, .inl (fun _ => 0)))), (b8, .inl (cs 1, (6, .inl (fun _ => 0)))), (b9, .inl (cs 5, (80, .inr (.inr (.inr (.inr (fun _ => none))))))), (b10, .inl (cs 5, (80, .inr (.inr (.inr (.inr (fun _ => none))))))), (b11, .inl (cs 1, (80, .inl (fun _ => 0)))), (b12, .inl (cs 1, (80, .inl (fun _ => 0))))]) H locs := ⟨hP, hD, hS⟩
  clear hP hD hS
  refine lv_aload_n hx hb dX4_init_65 rfl (lv_at hl 0 rfl) ?_
  refine lv_iconst (v := (0 : Int32)) hx hb dX4_init_66 (by decide) ?_
  refine va_put (D := (dC, dI)) (ci := 4) (v := .int 0) (ty := .int) (C := RX4) (T := TX4) (N := 14) C.1 C.2.1 C.2.2.2.2.1 in0X4 tyX4 tyX4_ok nmX4 C.2.2.2.1 C.2.2.2.2.2.1 hw.1 hw.2.1 hw.2.2 r.length kc_at rfl 8 (by decide) (C.2.2.2.2.1 _ (th_b1 149 rfl rfl)) (fun _ h => h) rfl (by decide +kernel) rfl rfl (Nat.le_of_ble_eq_true rfl) dX4_init_67 (fun H locs hP hD hS => ?_)
  unfold wI9 at hP hD
  rw [kc_set] at hP hD
  replace hw : th_wI (dC, dI) wI9 A s.heap (r ++ [(x, .inr (4, [.ref b1, .ref b2, .ref b3, .int 0, .ref b4, .int 0, .ref (ad 0), .int 0, .int 0, .int 0, .int 0, .int 0, .int 0, .int 0])), (b1, .inl (cs 5, (401, .inr (.inr (.inr (.inr (fun _ => none))))))), (b2, .inl (cs 1, (401, .inl (fun _ => 0)))), (b3, .inl (cs 1, (401, .inl (fun _ => 0)))), (b4, .inr (7, [.int 24, .int 1, .int 1, .int 0, .int 0, .int 0, .int 0, .ref b5, .ref b6, .ref b7, .ref b8, .ref b9, .ref b10, .ref b11, .ref b12])), (b5, .inl (cs 3, (48, .inl (fun _ => 0)))), (b6, .inl (cs 1, (48, .inl g13))), (b7, .inl (cs 1, (6, .inl (fun _ => 0)))), (b8, .inl (cs 1, (6, .inl (fun _ => 0)))), (b9, .inl (cs 5, (80, .inr (.inr (.inr (.inr (fun _ => none))))))), (b10, .inl (cs 5, (80, .inr (.inr (.inr (.inr (fun _ => none))))))), (b11, .inl (cs 1, (80, .inl (fun _ => 0)))), (b12, .inl (cs 1, (80, .inl (fun _ => 0))))]) H locs := ⟨hP, hD, hS⟩
  clear hP hD hS
  refine lv_aload_n hx hb dX4_init_70 rfl (lv_at hl 0 rfl) ?_
  refine lv_iconst (v := (0 : Int32)) hx hb dX4_init_71 (by decide) ?_
  refine va_put (D := (dC, dI)) (ci := 4) (v := .int 0) (ty := .boolean) (C := RX4) (T := TX4) (N := 14) C.1 C.2.1 C.2.2.2.2.1 in0X4 tyX4 tyX4_ok nmX4 C.2.2.2.1 C.2.2.2.2.2.1 hw.1 hw.2.1 hw.2.2 r.length kc_at rfl 9 (by decide) (C.2.2.2.2.1 _ (th_b1 150 rfl rfl)) (fun _ h => h) rfl (by decide +kernel) rfl rfl (Nat.le_of_ble_eq_true rfl) dX4_init_72 (fun H locs hP hD hS => ?_)
  unfold wI9 at hP hD
  rw [kc_set] at hP hD
  replace hw : th_wI (dC, dI) wI9 A s.heap (r ++ [(x, .inr (4, [.ref b1, .ref b2, .ref b3, .int 0, .ref b4, .int 0, .ref (ad 0), .int 0, .int 0, .int 0, .int 0, .int 0, .int 0, .int 0])), (b1, .inl (cs 5, (401, .inr (.inr (.inr (.inr (fun _ => none))))))), (b2, .inl (cs 1, (401, .inl (fun _ => 0)))), (b3, .inl (cs 1, (401, .inl (fun _ => 0)))), (b4, .inr (7, [.int 24, .int 1, .int 1, .int 0, .int 0, .int 0, .int 0, .ref b5, .ref b6, .ref b7, .ref b8, .ref b9, .ref b10, .ref b11, .ref b12])), (b5, .inl (cs 3, (48, .inl (fun _ => 0)))), (b6, .inl (cs 1, (48, .inl g13))), (b7, .inl (cs 1, (6, .inl (fun _ => 0)))), (b8, .inl (cs 1, (6, .inl (fun _ => 0)))), (b9, .inl (cs 5, (80, .inr (.inr (.inr (.inr (fun _ => none))))))), (b10, .inl (cs 5, (80, .inr (.inr (.inr (.inr (fun _ => none))))))), (b11, .inl (cs 1, (80, .inl (fun _ => 0)))), (b12, .inl (cs 1, (80, .inl (fun _ => 0))))]) H locs := ⟨hP, hD, hS⟩
  clear hP hD hS
  refine lv_aload_n hx hb dX4_init_75 rfl (lv_at hl 0 rfl) ?_
  refine lv_iconst (v := (0 : Int32)) hx hb dX4_init_76 (by decide) ?_
  refine va_put (D := (dC, dI)) (ci := 4) (v := .int 0) (ty := .boolean) (C := RX4) (T := TX4) (N := 14) C.1 C.2.1 C.2.2.2.2.1 in0X4 tyX4 tyX4_ok nmX4 C.2.2.2.1 C.2.2.2.2.2.1 hw.1 hw.2.1 hw.2.2 r.length kc_at rfl 10 (by decide) (C.2.2.2.2.1 _ (th_b1 151 rfl rfl)) (fun _ h => h) rfl (by decide +kernel) rfl rfl (Nat.le_of_ble_eq_true rfl) dX4_init_77 (fun H locs hP hD hS => ?_)
  unfold wI9 at hP hD
  rw [kc_set] at hP hD
  replace hw : th_wI (dC, dI) wI9 A s.heap (r ++ [(x, .inr (4, [.ref b1, .ref b2, .ref b3, .int 0, .ref b4, .int 0, .ref (ad 0), .int 0, .int 0, .int 0, .int 0, .int 0, .int 0, .int 0])), (b1, .inl (cs 5, (401, .inr (.inr (.inr (.inr (fun _ => none))))))), (b2, .inl (cs 1, (401, .inl (fun _ => 0)))), (b3, .inl (cs 1, (401, .inl (fun _ => 0)))), (b4, .inr (7, [.int 24, .int 1, .int 1, .int 0, .int 0, .int 0, .int 0, .ref b5, .ref b6, .ref b7, .ref b8, .ref b9, .ref b10, .ref b11, .ref b12])), (b5, .inl (cs 3, (48, .inl (fun _ => 0)))), (b6, .inl (cs 1, (48, .inl g13))), (b7, .inl (cs 1, (6, .inl (fun _ => 0)))), (b8, .inl (cs 1, (6, .inl (fun _ => 0)))), (b9, .inl (cs 5, (80, .inr (.inr (.inr (.inr (fun _ => none))))))), (b10, .inl (cs 5, (80, .inr (.inr (.inr (.inr (fun _ => none))))))), (b11, .inl (cs 1, (80, .inl (fun _ => 0)))), (b12, .inl (cs 1, (80, .inl (fun _ => 0))))]) H locs := ⟨hP, hD, hS⟩
  clear hP hD hS
  refine lv_aload_n hx hb dX4_init_80 rfl (lv_at hl 0 rfl) ?_
  refine lv_iconst (v := (0 : Int32)) hx hb dX4_init_81 (by decide) ?_
  refine va_put (D := (dC, dI)) (ci := 4) (v := .int 0) (ty := .boolean) (C := RX4) (T := TX4) (N := 14) C.1 C.2.1 C.2.2.2.2.1 in0X4 tyX4 tyX4_ok nmX4 C.2.2.2.1 C.2.2.2.2.2.1 hw.1 hw.2.1 hw.2.2 r.length kc_at rfl 11 (by decide) (C.2.2.2.2.1 _ (th_b1 152 rfl rfl)) (fun _ h => h) rfl (by decide +kernel) rfl rfl (Nat.le_of_ble_eq_true rfl) dX4_init_82 (fun H locs hP hD hS => ?_)
  unfold wI9 at hP hD
  rw [kc_set] at hP hD
  replace hw : th_wI (dC, dI) wI9 A s.heap (r ++ [(x, .inr (4, [.ref b1, .ref b2, .ref b3, .int 0, .ref b4, .int 0, .ref (ad 0), .int 0, .int 0, .int 0, .int 0, .int 0, .int 0, .int 0])), (b1, .inl (cs 5, (401, .inr (.inr (.inr (.inr (fun _ => none))))))), (b2, .inl (cs 1, (401, .inl (fun _ => 0)))), (b3, .inl (cs 1, (401, .inl (fun _ => 0)))), (b4, .inr (7, [.int 24, .int 1, .int 1, .int 0, .int 0, .int 0, .int 0, .ref b5, .ref b6, .ref b7, .ref b8, .ref b9, .ref b10, .ref b11, .ref b12])), (b5, .inl (cs 3, (48, .inl (fun _ => 0)))), (b6, .inl (cs 1, (48, .inl g13))), (b7, .inl (cs 1, (6, .inl (fun _ => 0)))), (b8, .inl (cs 1, (6, .inl (fun _ => 0)))), (b9, .inl (cs 5, (80, .inr (.inr (.inr (.inr (fun _ => none))))))), (b10, .inl (cs 5, (80, .inr (.inr (.inr (.inr (fun _ => none))))))), (b11, .inl (cs 1, (80, .inl (fun _ => 0)))), (b12, .inl (cs 1, (80, .inl (fun _ => 0))))]) H locs := ⟨hP, hD, hS⟩
  clear hP hD hS
  refine lv_aload_n hx hb dX4_init_85 rfl (lv_at hl 0 rfl) ?_
  refine lv_iconst (v := (0 : Int32)) hx hb dX4_init_86 (by decide) ?_
  refine va_put (D := (dC, dI)) (ci := 4) (v := .int 0) (ty := .int) (C := RX4) (T := TX4) (N := 14) C.1 C.2.1 C.2.2.2.2.1 in0X4 tyX4 tyX4_ok nmX4 C.2.2.2.1 C.2.2.2.2.2.1 hw.1 hw.2.1 hw.2.2 r.length kc_at rfl 12 (by decide) (C.2.2.2.2.1 _ (th_b1 153 rfl rfl)) (fun _ h => h) rfl (by decide +kernel) rfl rfl (Nat.le_of_ble_eq_true rfl) dX4_init_87 (fun H locs hP hD hS => ?_)
  unfold wI9 at hP hD
  rw [kc_set] at hP hD
  replace hw : th_wI (dC, dI) wI9 A s.heap (r ++ [(x, .inr (4, [.ref b1, .ref b2, .ref b3, .int 0, .ref b4, .int 0, .ref (ad 0), .int 0, .int 0, .int 0, .int 0, .int 0, .int 0, .int 0])), (b1, .inl (cs 5, (401, .inr (.inr (.inr (.inr (fun _ => none))))))), (b2, .inl (cs 1, (401, .inl (fun _ => 0)))), (b3, .inl (cs 1, (401, .inl (fun _ => 0)))), (b4, .inr (7, [.int 24, .int 1, .int 1, .int 0, .int 0, .int 0, .int 0, .ref b5, .ref b6, .ref b7, .ref b8, .ref b9, .ref b10, .ref b11, .ref b12])), (b5, .inl (cs 3, (48, .inl (fun _ => 0)))), (b6, .inl (cs 1, (48, .inl g13))), (b7, .inl (cs 1, (6, .inl (fun _ => 0)))), (b8, .inl (cs 1, (6, .inl (fun _ => 0)))), (b9, .inl (cs 5, (80, .inr (.inr (.inr (.inr (fun _ => none))))))), (b10, .inl (cs 5, (80, .inr (.inr (.inr (.inr (fun _ => none))))))), (b11, .inl (cs 1, (80, .inl (fun _ => 0)))), (b12, .inl (cs 1, (80, .inl (fun _ => 0))))]) H locs := ⟨hP, hD, hS⟩
  clear hP hD hS
  refine lv_aload_n hx hb dX4_init_90 rfl (lv_at hl 0 rfl) ?_
  refine lv_iconst (v := (0 : Int32)) hx hb dX4_init_91 (by decide) ?_
  refine va_put (D := (dC, dI)) (ci := 4) (v := .int 0) (ty := .int) (C := RX4) (T := TX4) (N := 14) C.1 C.2.1 C.2.2.2.2.1 in0X4 tyX4 tyX4_ok nmX4 C.2.2.2.1 C.2.2.2.2.2.1 hw.1 hw.2.1 hw.2.2 r.length kc_at rfl 13 (by decide) (C.2.2.2.2.1 _ (th_b1 155 rfl rfl)) (fun _ h => h) rfl (by decide +kernel) rfl rfl (Nat.le_of_ble_eq_true rfl) dX4_init_92 (fun H locs hP hD hS => ?_)
  unfold wI9 at hP hD
  rw [kc_set] at hP hD
  replace hw : th_wI (dC, dI) wI9 A s.heap (r ++ [(x, .inr (4, [.ref b1, .ref b2, .ref b3, .int 0, .ref b4, .int 0, .ref (ad 0), .int 0, .int 0, .int 0, .int 0, .int 0, .int 0, .int 0])), (b1, .inl (cs 5, (401, .inr (.inr (.inr (.inr (fun _ => none))))))), (b2, .inl (cs 1, (401, .inl (fun _ => 0)))), (b3, .inl (cs 1, (401, .inl (fun _ => 0)))), (b4, .inr (7, [.int 24, .int 1, .int 1, .int 0, .int 0, .int 0, .int 0, .ref b5, .ref b6, .ref b7, .ref b8, .ref b9, .ref b10, .ref b11, .ref b12])), (b5, .inl (cs 3, (48, .inl (fun _ => 0)))), (b6, .inl (cs 1, (48, .inl g13))), (b7, .inl (cs 1, (6, .inl (fun _ => 0)))), (b8, .inl (cs 1, (6, .inl (fun _ => 0)))), (b9, .inl (cs 5, (80, .inr (.inr (.inr (.inr (fun _ => none))))))), (b10, .inl (cs 5, (80, .inr (.inr (.inr (.inr (fun _ => none))))))), (b11, .inl (cs 1, (80, .inl (fun _ => 0)))), (b12, .inl (cs 1, (80, .inl (fun _ => 0))))]) H locs := ⟨hP, hD, hS⟩
  clear hP hD hS
  exact th_vret C hw ⟨b1, b2, b3, b4, b5, b6, b7, b8, b9, b10, b11, b12, g13, hg13, rfl⟩ dX4_init_95
set_option maxHeartbeats 4000000 in
set_option maxRecDepth 100000 in
theorem N_X5_c {l : Launch} {dC : Nat → ClassId} {dI : Nat → Nat → Nat} {cs : Nat → ClassId} {ad ak : Nat → Nat} {a1 : Nat} {a2 : Int32} {a3 : Int32}{c1 : Nat × va_E} {r : va_W} {x : Nat} (hE : th_EO (xE5 ad ak)) : th_Cv l yX5_init cX5_init 4 none 1 0 0 (dC, dI) (th_ty cs) (xE5 ad ak) wI9 [.ref x, .ref a1, .int a2, .int a3] (r ++ [(x, .inr (5, [.null, .int 0, .int 0])), c1]) (fun ws => ws = r ++ [(x, .inr (5, [.ref a1, .int a2, .int a3])), c1]) := by
  refine th_ofvI (by decide) (Nat.le_of_ble_eq_true rfl) hE rfl ?_
  intro p e s m below meth c A ls C hin hw hl
  have C : th_Cx p s m _ meth c cX5_init RX5 4 none (dC, dI) (th_ty cs) (xE5 ad ak) A := C
  have hl : lv_has ls 4 [(0, .ref x), (1, .ref a1), (2, .int a2), (3, .int a3)] := hl
  generalize (List.toArray _ : Array Value) = args at C ⊢
  have hx := C.1
  have hb := C.2.1
  refine lv_aload_n hx hb dX5_init_0 rfl (lv_at hl 0 rfl) ?_
  refine W.objInit hx hb C.2.2.2.1 (C.2.2.2.2.1 _ (th_b1 200 rfl rfl)) (C.2.2.2.2.1 _ (th_b1 32 rfl rfl)) (C.2.2.2.2.1 _ (th_b1 33 rfl rfl)) rfl (by rw [C.2.2.1]; exact hl.1) rfl dX5_init_1 (Nat.le_of_ble_eq_true rfl) (Nat.le_of_ble_eq_true rfl) ?_
  refine W.eq (g2 := F0 m 4 ls []) rfl ?_
  refine lv_aload_n hx hb dX5_init_4 rfl (lv_at hl 0 rfl) ?_
  refine lv_aload_n hx hb dX5_init_5 rfl (lv_at hl 1 rfl) ?_
  refine va_putF (D := (dC, dI)) (ci := 5) (v := .ref a1) (ty := .array .byte) (C := RX5) (T := TX5) (N := 3) C.1 C.2.1 C.2.2.2.2.1 in0X5 tyX5 tyX5_ok nmX5 C.2.2.2.1 C.2.2.2.2.2.1 hw.1 hw.2.1 hw.2.2 r.length kc_at rfl 0 (by decide) (C.2.2.2.2.1 _ (th_b1 201 rfl rfl)) (fun _ h => h) rfl hin rfl (by decide +kernel) rfl rfl (Nat.le_of_ble_eq_true rfl) dX5_init_6 (fun H locs hP hD hS => ?_)
  unfold wI9 at hP hD
  rw [kc_set] at hP hD
  replace hw : th_wI (dC, dI) wI9 A s.heap (r ++ [(x, .inr (5, [.ref a1, .int 0, .int 0])), c1]) H locs := ⟨hP, hD, hS⟩
  clear hP hD hS
  refine lv_aload_n hx hb dX5_init_9 rfl (lv_at hl 0 rfl) ?_
  refine lv_iload_n hx hb dX5_init_10 rfl (lv_at hl 2 rfl) ?_
  refine va_putF (D := (dC, dI)) (ci := 5) (v := .int a2) (ty := .int) (C := RX5) (T := TX5) (N := 3) C.1 C.2.1 C.2.2.2.2.1 in0X5 tyX5 tyX5_ok nmX5 C.2.2.2.1 C.2.2.2.2.2.1 hw.1 hw.2.1 hw.2.2 r.length kc_at rfl 1 (by decide) (C.2.2.2.2.1 _ (th_b1 202 rfl rfl)) (fun _ h => h) rfl hin rfl (by decide +kernel) rfl rfl (Nat.le_of_ble_eq_true rfl) dX5_init_11 (fun H locs hP hD hS => ?_)
  unfold wI9 at hP hD
  rw [kc_set] at hP hD
  replace hw : th_wI (dC, dI) wI9 A s.heap (r ++ [(x, .inr (5, [.ref a1, .int a2, .int 0])), c1]) H locs := ⟨hP, hD, hS⟩
  clear hP hD hS
  refine lv_aload_n hx hb dX5_init_14 rfl (lv_at hl 0 rfl) ?_
  refine lv_iload_n hx hb dX5_init_15 rfl (lv_at hl 3 rfl) ?_
  refine va_putF (D := (dC, dI)) (ci := 5) (v := .int a3) (ty := .int) (C := RX5) (T := TX5) (N := 3) C.1 C.2.1 C.2.2.2.2.1 in0X5 tyX5 tyX5_ok nmX5 C.2.2.2.1 C.2.2.2.2.2.1 hw.1 hw.2.1 hw.2.2 r.length kc_at rfl 2 (by decide) (C.2.2.2.2.1 _ (th_b1 205 rfl rfl)) (fun _ h => h) rfl hin rfl (by decide +kernel) rfl rfl (Nat.le_of_ble_eq_true rfl) dX5_init_16 (fun H locs hP hD hS => ?_)
  unfold wI9 at hP hD
  rw [kc_set] at hP hD
  replace hw : th_wI (dC, dI) wI9 A s.heap (r ++ [(x, .inr (5, [.ref a1, .int a2, .int a3])), c1]) H locs := ⟨hP, hD, hS⟩
  clear hP hD hS
  exact th_vret C hw rfl dX5_init_19
set_option maxHeartbeats 4000000 in
set_option maxRecDepth 100000 in
theorem N_X2_c {l : Launch} {dC : Nat → ClassId} {dI : Nat → Nat → Nat} {cs : Nat → ClassId} {ad ak : Nat → Nat} {a1 : Nat}{c1 : Nat × va_E} {c2 : Nat × va_E} {r : va_W} {x : Nat} (hE : th_EO (xE5 ad ak)) : th_Cv l yX2_init cX2_init 4 none 1 1 0 (dC, dI) (th_ty cs) (xE5 ad ak) wI9 [.ref x, .ref a1, .null, .int 0] (r ++ [(x, .inr (2, [.null, .null, .null, .int 0, .int 0, .int 0, .null, .null])), c1, c2]) (fun ws => ∃ b1 : Nat, ws = r ++ [(x, .inr (2, [.ref a1, .null, .ref b1, .int 0, .int 0, .int 0, .null, .null])), c1, c2, (b1, .inl (cs 1, (0, .inl (fun _ => 0))))]) := by
  refine th_ofvI (by decide) (Nat.le_of_ble_eq_true rfl) hE rfl ?_
  intro p e s m below meth c A ls C hin hw hl
  have C : th_Cx p s m _ meth c cX2_init RX2 4 none (dC, dI) (th_ty cs) (xE5 ad ak) A := C
  have hl : lv_has ls 4 [(0, .ref x), (1, .ref a1), (2, .null), (3, .int 0)] := hl
  generalize (List.toArray _ : Array Value) = args at C ⊢
  have hx := C.1
  have hb := C.2.1
  refine lv_aload_n hx hb dX2_init_0 rfl (lv_at hl 0 rfl) ?_
  refine W.objInit hx hb C.2.2.2.1 (C.2.2.2.2.1 _ (th_b1 217 rfl rfl)) (C.2.2.2.2.1 _ (th_b1 32 rfl rfl)) (C.2.2.2.2.1 _ (th_b1 33 rfl rfl)) rfl (by rw [C.2.2.1]; exact hl.1) rfl dX2_init_1 (Nat.le_of_ble_eq_true rfl) (Nat.le_of_ble_eq_true rfl) ?_
  refine W.eq (g2 := F0 m 4 ls []) rfl ?_
  refine lv_aload_n hx hb dX2_init_4 rfl (lv_at hl 0 rfl) ?_
  refine lv_iconst (v := (0 : Int32)) hx hb dX2_init_5 (by decide) ?_
  refine va_put (D := (dC, dI)) (ci := 2) (v := .int 0) (ty := .int) (C := RX2) (T := TX2) (N := 8) C.1 C.2.1 C.2.2.2.2.1 in0X2 tyX2 tyX2_ok nmX2 C.2.2.2.1 C.2.2.2.2.2.1 hw.1 hw.2.1 hw.2.2 r.length kc_at rfl 3 (by decide) (C.2.2.2.2.1 _ (th_b1 224 rfl rfl)) (fun _ h => h) rfl (by decide +kernel) rfl rfl (Nat.le_of_ble_eq_true rfl) dX2_init_6 (fun H locs hP hD hS => ?_)
  unfold wI9 at hP hD
  rw [kc_set] at hP hD
  replace hw : th_wI (dC, dI) wI9 A s.heap (r ++ [(x, .inr (2, [.null, .null, .null, .int 0, .int 0, .int 0, .null, .null])), c1, c2]) H locs := ⟨hP, hD, hS⟩
  clear hP hD hS
  refine lv_aload_n hx hb dX2_init_9 rfl (lv_at hl 0 rfl) ?_
  refine lv_iconst (v := (0 : Int32)) hx hb dX2_init_10 (by decide) ?_
  refine va_put (D := (dC, dI)) (ci := 2) (v := .int 0) (ty := .int) (C := RX2) (T := TX2) (N := 8) C.1 C.2.1 C.2.2.2.2.1 in0X2 tyX2 tyX2_ok nmX2 C.2.2.2.1 C.2.2.2.2.2.1 hw.1 hw.2.1 hw.2.2 r.length kc_at rfl 4 (by decide) (C.2.2.2.2.1 _ (th_b1 227 rfl rfl)) (fun _ h => h) rfl (by decide +kernel) rfl rfl (Nat.le_of_ble_eq_true rfl) dX2_init_11 (fun H locs hP hD hS => ?_)
  unfold wI9 at hP hD
  rw [kc_set] at hP hD
  replace hw : th_wI (dC, dI) wI9 A s.heap (r ++ [(x, .inr (2, [.null, .null, .null, .int 0, .int 0, .int 0, .null, .null])), c1, c2]) H locs := ⟨hP, hD, hS⟩
  clear hP hD hS
  refine lv_aload_n hx hb dX2_init_14 rfl (lv_at hl 0 rfl) ?_
  refine lv_iconst (v := (0 : Int32)) hx hb dX2_init_15 (by decide) ?_
  refine va_put (D := (dC, dI)) (ci := 2) (v := .int 0) (ty := .int) (C := RX2) (T := TX2) (N := 8) C.1 C.2.1 C.2.2.2.2.1 in0X2 tyX2 tyX2_ok nmX2 C.2.2.2.1 C.2.2.2.2.2.1 hw.1 hw.2.1 hw.2.2 r.length kc_at rfl 5 (by decide) (C.2.2.2.2.1 _ (th_b1 229 rfl rfl)) (fun _ h => h) rfl (by decide +kernel) rfl rfl (Nat.le_of_ble_eq_true rfl) dX2_init_16 (fun H locs hP hD hS => ?_)
  unfold wI9 at hP hD
  rw [kc_set] at hP hD
  replace hw : th_wI (dC, dI) wI9 A s.heap (r ++ [(x, .inr (2, [.null, .null, .null, .int 0, .int 0, .int 0, .null, .null])), c1, c2]) H locs := ⟨hP, hD, hS⟩
  clear hP hD hS
  refine lv_aload_n hx hb dX2_init_19 rfl (lv_at hl 0 rfl) ?_
  refine lv_null hx hb dX2_init_20 ?_
  refine va_put (D := (dC, dI)) (ci := 2) (v := .null) (ty := .object "ThreadHouse$Feel") (C := RX2) (T := TX2) (N := 8) C.1 C.2.1 C.2.2.2.2.1 in0X2 tyX2 tyX2_ok nmX2 C.2.2.2.1 C.2.2.2.2.2.1 hw.1 hw.2.1 hw.2.2 r.length kc_at rfl 6 (by decide) (C.2.2.2.2.1 _ (th_b1 231 rfl rfl)) (fun _ h => h) rfl (by decide +kernel) rfl rfl (Nat.le_of_ble_eq_true rfl) dX2_init_21 (fun H locs hP hD hS => ?_)
  unfold wI9 at hP hD
  rw [kc_set] at hP hD
  replace hw : th_wI (dC, dI) wI9 A s.heap (r ++ [(x, .inr (2, [.null, .null, .null, .int 0, .int 0, .int 0, .null, .null])), c1, c2]) H locs := ⟨hP, hD, hS⟩
  clear hP hD hS
  refine lv_aload_n hx hb dX2_init_24 rfl (lv_at hl 0 rfl) ?_
  refine lv_null hx hb dX2_init_25 ?_
  refine va_put (D := (dC, dI)) (ci := 2) (v := .null) (ty := .object "ThreadHouse$Feel") (C := RX2) (T := TX2) (N := 8) C.1 C.2.1 C.2.2.2.2.1 in0X2 tyX2 tyX2_ok nmX2 C.2.2.2.1 C.2.2.2.2.2.1 hw.1 hw.2.1 hw.2.2 r.length kc_at rfl 7 (by decide) (C.2.2.2.2.1 _ (th_b1 232 rfl rfl)) (fun _ h => h) rfl (by decide +kernel) rfl rfl (Nat.le_of_ble_eq_true rfl) dX2_init_26 (fun H locs hP hD hS => ?_)
  unfold wI9 at hP hD
  rw [kc_set] at hP hD
  replace hw : th_wI (dC, dI) wI9 A s.heap (r ++ [(x, .inr (2, [.null, .null, .null, .int 0, .int 0, .int 0, .null, .null])), c1, c2]) H locs := ⟨hP, hD, hS⟩
  clear hP hD hS
  refine lv_aload_n hx hb dX2_init_29 rfl (lv_at hl 0 rfl) ?_
  refine lv_aload_n hx hb dX2_init_30 rfl (lv_at hl 1 rfl) ?_
  refine va_putF (D := (dC, dI)) (ci := 2) (v := .ref a1) (ty := .object "ThreadHouse$Row") (C := RX2) (T := TX2) (N := 8) C.1 C.2.1 C.2.2.2.2.1 in0X2 tyX2 tyX2_ok nmX2 C.2.2.2.1 C.2.2.2.2.2.1 hw.1 hw.2.1 hw.2.2 r.length kc_at rfl 0 (by decide) (C.2.2.2.2.1 _ (th_b1 218 rfl rfl)) (fun _ h => h) rfl hin rfl (by decide +kernel) rfl rfl (Nat.le_of_ble_eq_true rfl) dX2_init_31 (fun H locs hP hD hS => ?_)
  unfold wI9 at hP hD
  rw [kc_set] at hP hD
  replace hw : th_wI (dC, dI) wI9 A s.heap (r ++ [(x, .inr (2, [.ref a1, .null, .null, .int 0, .int 0, .int 0, .null, .null])), c1, c2]) H locs := ⟨hP, hD, hS⟩
  clear hP hD hS
  refine lv_aload_n hx hb dX2_init_34 rfl (lv_at hl 0 rfl) ?_
  refine th_aload_n (r := none) hx hb dX2_init_35 rfl (lv_at hl 2 rfl) ?_
  refine va_putF (D := (dC, dI)) (ci := 2) (v := .null) (ty := .object "ThreadHouse$Feel") (C := RX2) (T := TX2) (N := 8) C.1 C.2.1 C.2.2.2.2.1 in0X2 tyX2 tyX2_ok nmX2 C.2.2.2.1 C.2.2.2.2.2.1 hw.1 hw.2.1 hw.2.2 r.length kc_at rfl 1 (by decide) (C.2.2.2.2.1 _ (th_b1 220 rfl rfl)) (fun _ h => h) rfl hin rfl (by decide +kernel) rfl rfl (Nat.le_of_ble_eq_true rfl) dX2_init_36 (fun H locs hP hD hS => ?_)
  unfold wI9 at hP hD
  rw [kc_set] at hP hD
  replace hw : th_wI (dC, dI) wI9 A s.heap (r ++ [(x, .inr (2, [.ref a1, .null, .null, .int 0, .int 0, .int 0, .null, .null])), c1, c2]) H locs := ⟨hP, hD, hS⟩
  clear hP hD hS
  refine lv_aload_n hx hb dX2_init_39 rfl (lv_at hl 0 rfl) ?_
  refine lv_iload_n hx hb dX2_init_40 rfl (lv_at hl 3 rfl) ?_
  refine lv_if_ge (tgt := 48) hx hb dX2_init_41 (by decide) (fun hc => ?_) (fun hc => absurd (by decide) hc)
  refine lv_iload_n hx hb dX2_init_48 rfl (lv_at hl 3 rfl) ?_
  refine kn_a (N := 0) (i := 1) (ty := .int) (a0 := (0, .inl (fun _ => 0))) C hw (th_b1 136 rfl rfl) rfl rfl (fun _ => rfl) (by decide) (by decide) (by decide) (Nat.le_of_ble_eq_true rfl) (Nat.le_of_ble_eq_true rfl) dX2_init_49 (fun b1 H hw => ?_)
  replace hw : th_wI (dC, dI) wI9 A s.heap (r ++ [(x, .inr (2, [.ref a1, .null, .null, .int 0, .int 0, .int 0, .null, .null])), c1, c2, (b1, .inl (cs 1, (0, .inl (fun _ => 0))))]) H _ := hw
  refine va_putF (D := (dC, dI)) (ci := 2) (v := .ref b1) (ty := .array .int) (C := RX2) (T := TX2) (N := 8) C.1 C.2.1 C.2.2.2.2.1 in0X2 tyX2 tyX2_ok nmX2 C.2.2.2.1 C.2.2.2.2.2.1 hw.1 hw.2.1 hw.2.2 r.length kc_at rfl 2 (by decide) (C.2.2.2.2.1 _ (th_b1 223 rfl rfl)) (fun _ h => h) rfl hin rfl (by decide +kernel) rfl rfl (Nat.le_of_ble_eq_true rfl) dX2_init_51 (fun H locs hP hD hS => ?_)
  unfold wI9 at hP hD
  rw [kc_set] at hP hD
  replace hw : th_wI (dC, dI) wI9 A s.heap (r ++ [(x, .inr (2, [.ref a1, .null, .ref b1, .int 0, .int 0, .int 0, .null, .null])), c1, c2, (b1, .inl (cs 1, (0, .inl (fun _ => 0))))]) H locs := ⟨hP, hD, hS⟩
  clear hP hD hS
  exact th_vret C hw ⟨b1, rfl⟩ dX2_init_54
theorem dX0_init_0 : decode cX0_init 0 = .ok (.aload_n 0, 1) := by decide +kernel
theorem dX0_init_1 : decode cX0_init 1 = .ok (.invokespecial 3, 3) := by decide +kernel
theorem dX0_init_4 : decode cX0_init 4 = .ok (.aload_n 0, 1) := by decide +kernel
theorem dX0_init_5 : decode cX0_init 5 = .ok (.bipush 100, 2) := by decide +kernel
theorem dX0_init_7 : decode cX0_init 7 = .ok (.anewarray 11, 3) := by decide +kernel
theorem dX0_init_10 : decode cX0_init 10 = .ok (.putfield 13, 3) := by decide +kernel
theorem dX0_init_13 : decode cX0_init 13 = .ok (.aload_n 0, 1) := by decide +kernel
theorem dX0_init_14 : decode cX0_init 14 = .ok (.bipush 40, 2) := by decide +kernel
theorem dX0_init_16 : decode cX0_init 16 = .ok (.anewarray 11, 3) := by decide +kernel
theorem dX0_init_19 : decode cX0_init 19 = .ok (.putfield 17, 3) := by decide +kernel
theorem dX0_init_22 : decode cX0_init 22 = .ok (.aload_n 0, 1) := by decide +kernel
theorem dX0_init_23 : decode cX0_init 23 = .ok (.new 20, 3) := by decide +kernel
theorem dX0_init_26 : decode cX0_init 26 = .ok (.dup, 1) := by decide +kernel
theorem dX0_init_27 : decode cX0_init 27 = .ok (.new 11, 3) := by decide +kernel
theorem dX0_init_30 : decode cX0_init 30 = .ok (.dup, 1) := by decide +kernel
theorem dX0_init_31 : decode cX0_init 31 = .ok (.iconst 0, 1) := by decide +kernel
theorem dX0_init_32 : decode cX0_init 32 = .ok (.newarray .byte, 2) := by decide +kernel
theorem dX0_init_34 : decode cX0_init 34 = .ok (.iconst (-1), 1) := by decide +kernel
theorem dX0_init_35 : decode cX0_init 35 = .ok (.iconst 0, 1) := by decide +kernel
theorem dX0_init_36 : decode cX0_init 36 = .ok (.invokespecial 22, 3) := by decide +kernel
theorem dX0_init_39 : decode cX0_init 39 = .ok (.aconst_null, 1) := by decide +kernel
theorem dX0_init_40 : decode cX0_init 40 = .ok (.iconst 0, 1) := by decide +kernel
theorem dX0_init_41 : decode cX0_init 41 = .ok (.invokespecial 25, 3) := by decide +kernel
theorem dX0_init_44 : decode cX0_init 44 = .ok (.putfield 28, 3) := by decide +kernel
theorem dX0_init_47 : decode cX0_init 47 = .ok (.aload_n 0, 1) := by decide +kernel
theorem dX0_init_48 : decode cX0_init 48 = .ok (.iconst 0, 1) := by decide +kernel
theorem dX0_init_49 : decode cX0_init 49 = .ok (.putfield 32, 3) := by decide +kernel
theorem dX0_init_52 : decode cX0_init 52 = .ok (.aload_n 0, 1) := by decide +kernel
theorem dX0_init_53 : decode cX0_init 53 = .ok (.iconst 0, 1) := by decide +kernel
theorem dX0_init_54 : decode cX0_init 54 = .ok (.putfield 36, 3) := by decide +kernel
theorem dX0_init_57 : decode cX0_init 57 = .ok (.aload_n 0, 1) := by decide +kernel
theorem dX0_init_58 : decode cX0_init 58 = .ok (.iconst 0, 1) := by decide +kernel
theorem dX0_init_59 : decode cX0_init 59 = .ok (.putfield 39, 3) := by decide +kernel
theorem dX0_init_62 : decode cX0_init 62 = .ok (.return_, 1) := by decide +kernel
set_option maxHeartbeats 4000000 in
set_option maxRecDepth 100000 in
theorem N_X0_c {l : Launch} {dC : Nat → ClassId} {dI : Nat → Nat → Nat} {cs : Nat → ClassId} {ad ak : Nat → Nat}  {r : va_W} {x : Nat} (hE : th_EO (xE5 ad ak)) : th_Cv l yX0_init cX0_init 1 none 2 6 151 (dC, dI) (th_ty cs) (xE5 ad ak) wI9 [.ref x] (r ++ [(x, .inr (0, [.null, .null, .null, .int 0, .int 0, .int 0]))]) (fun ws => ∃ b1 : Nat, ∃ b2 : Nat, ∃ b3 : Nat, ∃ b4 : Nat, ∃ b5 : Nat, ∃ b6 : Nat, ws = r ++ [(x, .inr (0, [.ref b1, .ref b2, .ref b3, .int 0, .int 0, .int 0])), (b1, .inl (cs 4, (100, .inr (.inr (.inr (.inr (fun _ => none))))))), (b2, .inl (cs 4, (40, .inr (.inr (.inr (.inr (fun _ => none))))))), (b3, .inr (2, [.ref b4, .null, .ref b6, .int 0, .int 0, .int 0, .null, .null])), (b4, .inr (5, [.ref b5, .int (-1), .int 0])), (b5, .inl (cs 0, (0, .inl (fun _ => 0)))), (b6, .inl (cs 1, (0, .inl (fun _ => 0))))]) := by
  refine th_ofvI (by decide) (Nat.le_of_ble_eq_true rfl) hE rfl ?_
  intro p e s m below meth c A ls C hin hw hl
  have C : th_Cx p s m _ meth c cX0_init RX0 1 none (dC, dI) (th_ty cs) (xE5 ad ak) A := C
  have hl : lv_has ls 1 [(0, .ref x)] := hl
  generalize (List.toArray _ : Array Value) = args at C ⊢
  have hx := C.1
  have hb := C.2.1
  refine lv_aload_n hx hb dX0_init_0 rfl (lv_at hl 0 rfl) ?_
  refine W.objInit hx hb C.2.2.2.1 (C.2.2.2.2.1 _ (th_b1 191 rfl rfl)) (C.2.2.2.2.1 _ (th_b1 32 rfl rfl)) (C.2.2.2.2.1 _ (th_b1 33 rfl rfl)) rfl (by rw [C.2.2.1]; exact hl.1) rfl dX0_init_1 (Nat.le_of_ble_eq_true rfl) (Nat.le_of_ble_eq_true rfl) ?_
  refine W.eq (g2 := F0 m 4 ls []) rfl ?_
  refine lv_aload_n hx hb dX0_init_4 rfl (lv_at hl 0 rfl) ?_
  refine lv_bipush (v := (100 : Int32)) hx hb dX0_init_5 (by decide) ?_
  refine kn_q (N := 100) (i := 4) C hw (C.2.2.2.2.1 _ (th_b1 192 rfl rfl)) C.2.2.2.2.2.2.2.2.2.1.2.1 rfl (by decide) (by decide) (by decide) (Nat.le_of_ble_eq_true rfl) (Nat.le_of_ble_eq_true rfl) dX0_init_7 (fun b1 H hw => ?_)
  replace hw : th_wI (dC, dI) wI9 A s.heap (r ++ [(x, .inr (0, [.null, .null, .null, .int 0, .int 0, .int 0])), (b1, .inl (cs 4, (100, .inr (.inr (.inr (.inr (fun _ => none)))))))]) H _ := hw
  refine va_putF (D := (dC, dI)) (ci := 0) (v := .ref b1) (ty := .array (.object "ThreadHouse$Row")) (C := RX0) (T := TX0) (N := 6) C.1 C.2.1 C.2.2.2.2.1 in0X0 tyX0 tyX0_ok nmX0 C.2.2.2.1 C.2.2.2.2.2.1 hw.1 hw.2.1 hw.2.2 r.length kc_at rfl 0 (by decide) (C.2.2.2.2.1 _ (th_b2 10 rfl rfl)) (fun _ h => h) rfl hin rfl (by decide +kernel) rfl rfl (Nat.le_of_ble_eq_true rfl) dX0_init_10 (fun H locs hP hD hS => ?_)
  unfold wI9 at hP hD
  rw [kc_set] at hP hD
  replace hw : th_wI (dC, dI) wI9 A s.heap (r ++ [(x, .inr (0, [.ref b1, .null, .null, .int 0, .int 0, .int 0])), (b1, .inl (cs 4, (100, .inr (.inr (.inr (.inr (fun _ => none)))))))]) H locs := ⟨hP, hD, hS⟩
  clear hP hD hS
  refine lv_aload_n hx hb dX0_init_13 rfl (lv_at hl 0 rfl) ?_
  refine lv_bipush (v := (40 : Int32)) hx hb dX0_init_14 (by decide) ?_
  refine kn_q (N := 40) (i := 4) C hw (C.2.2.2.2.1 _ (th_b1 192 rfl rfl)) C.2.2.2.2.2.2.2.2.2.1.2.1 rfl (by decide) (by decide) (by decide) (Nat.le_of_ble_eq_true rfl) (Nat.le_of_ble_eq_true rfl) dX0_init_16 (fun b2 H hw => ?_)
  replace hw : th_wI (dC, dI) wI9 A s.heap (r ++ [(x, .inr (0, [.ref b1, .null, .null, .int 0, .int 0, .int 0])), (b1, .inl (cs 4, (100, .inr (.inr (.inr (.inr (fun _ => none))))))), (b2, .inl (cs 4, (40, .inr (.inr (.inr (.inr (fun _ => none)))))))]) H _ := hw
  refine va_putF (D := (dC, dI)) (ci := 0) (v := .ref b2) (ty := .array (.object "ThreadHouse$Row")) (C := RX0) (T := TX0) (N := 6) C.1 C.2.1 C.2.2.2.2.1 in0X0 tyX0 tyX0_ok nmX0 C.2.2.2.1 C.2.2.2.2.2.1 hw.1 hw.2.1 hw.2.2 r.length kc_at rfl 1 (by decide) (C.2.2.2.2.1 _ (th_b2 11 rfl rfl)) (fun _ h => h) rfl hin rfl (by decide +kernel) rfl rfl (Nat.le_of_ble_eq_true rfl) dX0_init_19 (fun H locs hP hD hS => ?_)
  unfold wI9 at hP hD
  rw [kc_set] at hP hD
  replace hw : th_wI (dC, dI) wI9 A s.heap (r ++ [(x, .inr (0, [.ref b1, .ref b2, .null, .int 0, .int 0, .int 0])), (b1, .inl (cs 4, (100, .inr (.inr (.inr (.inr (fun _ => none))))))), (b2, .inl (cs 4, (40, .inr (.inr (.inr (.inr (fun _ => none)))))))]) H locs := ⟨hP, hD, hS⟩
  clear hP hD hS
  refine lv_aload_n hx hb dX0_init_22 rfl (lv_at hl 0 rfl) ?_
  refine kn_o (ci := 2) (C9 := RX2) (T := TX2) (N := 8) (ty := tyX2) (fs := [.null, .null, .null, .int 0, .int 0, .int 0, .null, .null]) C hw in0X2 tyX2_ok (C.2.2.2.2.1 _ (th_b1 194 rfl rfl)) (th_b1 195 rfl rfl) (th_b1 9 rfl rfl) rfl (fun j hj => by
      match j, hj with
      | 0, _ => rfl
      | 1, _ => rfl
      | 2, _ => rfl
      | 3, _ => rfl
      | 4, _ => rfl
      | 5, _ => rfl
      | 6, _ => rfl
      | 7, _ => rfl
      | j + 8, h => exact absurd h (by omega)) (Nat.le_of_ble_eq_true rfl) (Nat.le_of_ble_eq_true rfl) dX0_init_23 (fun b3 H hw => ?_)
  replace hw : th_wI (dC, dI) wI9 A s.heap (r ++ [(x, .inr (0, [.ref b1, .ref b2, .null, .int 0, .int 0, .int 0])), (b1, .inl (cs 4, (100, .inr (.inr (.inr (.inr (fun _ => none))))))), (b2, .inl (cs 4, (40, .inr (.inr (.inr (.inr (fun _ => none))))))), (b3, .inr (2, [.null, .null, .null, .int 0, .int 0, .int 0, .null, .null]))]) H _ := hw
  refine lv_dup hx hb dX0_init_26 rfl ?_
  refine kn_o (ci := 5) (C9 := RX5) (T := TX5) (N := 3) (ty := tyX5) (fs := [.null, .int 0, .int 0]) C hw in0X5 tyX5_ok (C.2.2.2.2.1 _ (th_b1 192 rfl rfl)) (th_b1 196 rfl rfl) (th_b1 10 rfl rfl) rfl (fun j hj => by
      match j, hj with
      | 0, _ => rfl
      | 1, _ => rfl
      | 2, _ => rfl
      | j + 3, h => exact absurd h (by omega)) (Nat.le_of_ble_eq_true rfl) (Nat.le_of_ble_eq_true rfl) dX0_init_27 (fun b4 H hw => ?_)
  replace hw : th_wI (dC, dI) wI9 A s.heap (r ++ [(x, .inr (0, [.ref b1, .ref b2, .null, .int 0, .int 0, .int 0])), (b1, .inl (cs 4, (100, .inr (.inr (.inr (.inr (fun _ => none))))))), (b2, .inl (cs 4, (40, .inr (.inr (.inr (.inr (fun _ => none))))))), (b3, .inr (2, [.null, .null, .null, .int 0, .int 0, .int 0, .null, .null])), (b4, .inr (5, [.null, .int 0, .int 0]))]) H _ := hw
  refine lv_dup hx hb dX0_init_30 rfl ?_
  refine lv_iconst (v := (0 : Int32)) hx hb dX0_init_31 (by decide) ?_
  refine kn_a (N := 0) (i := 0) (ty := .byte) (a0 := (0, .inl (fun _ => 0))) C hw (th_b1 52 rfl rfl) rfl rfl (fun _ => rfl) (by decide) (by decide) (by decide) (Nat.le_of_ble_eq_true rfl) (Nat.le_of_ble_eq_true rfl) dX0_init_32 (fun b5 H hw => ?_)
  replace hw : th_wI (dC, dI) wI9 A s.heap (r ++ [(x, .inr (0, [.ref b1, .ref b2, .null, .int 0, .int 0, .int 0])), (b1, .inl (cs 4, (100, .inr (.inr (.inr (.inr (fun _ => none))))))), (b2, .inl (cs 4, (40, .inr (.inr (.inr (.inr (fun _ => none))))))), (b3, .inr (2, [.null, .null, .null, .int 0, .int 0, .int 0, .null, .null])), (b4, .inr (5, [.null, .int 0, .int 0])), (b5, .inl (cs 0, (0, .inl (fun _ => 0))))]) H _ := hw
  refine lv_iconst (v := (-1 : Int32)) hx hb dX0_init_34 (by decide) ?_
  refine lv_iconst (v := (0 : Int32)) hx hb dX0_init_35 (by decide) ?_
  replace hw : th_wI (dC, dI) wI9 A s.heap ((r ++ [(x, .inr (0, [.ref b1, .ref b2, .null, .int 0, .int 0, .int 0])), (b1, .inl (cs 4, (100, .inr (.inr (.inr (.inr (fun _ => none))))))), (b2, .inl (cs 4, (40, .inr (.inr (.inr (.inr (fun _ => none))))))), (b3, .inr (2, [.null, .null, .null, .int 0, .int 0, .int 0, .null, .null]))]) ++ [(b4, .inr (5, [.null, .int 0, .int 0])), (b5, .inl (cs 0, (0, .inl (fun _ => 0))))]) H locs := by
    rw [List.append_assoc]
    exact hw
  refine th_callIv (As := [.ref b5, .int (-1), .int 0]) (rest := [.ref b4, .ref b3, .ref b3, .ref x]) (y := yX5_init) (bytes := cX5_init) (n := 4) (k := 3) C ⟨(th_b1 197 rfl rfl), (th_b1 198 rfl rfl), (th_b1 10 rfl rfl), (th_b1 199 rfl rfl), rfl, by decide +kernel⟩ (N_X5_c (hE := hE)) hw rfl rfl ⟨Nat.le_of_ble_eq_true rfl, Nat.le_of_ble_eq_true rfl⟩ hl.1 (Nat.le_of_ble_eq_true rfl) ⟨Nat.le_of_ble_eq_true rfl, Nat.le_of_ble_eq_true rfl⟩ dX0_init_36 (fun ws H locs hf hw => ?_)
  obtain rfl := hf
  replace hw : th_wI (dC, dI) wI9 A s.heap (r ++ [(x, .inr (0, [.ref b1, .ref b2, .null, .int 0, .int 0, .int 0])), (b1, .inl (cs 4, (100, .inr (.inr (.inr (.inr (fun _ => none))))))), (b2, .inl (cs 4, (40, .inr (.inr (.inr (.inr (fun _ => none))))))), (b3, .inr (2, [.null, .null, .null, .int 0, .int 0, .int 0, .null, .null])), (b4, .inr (5, [.ref b5, .int (-1), .int 0])), (b5, .inl (cs 0, (0, .inl (fun _ => 0))))]) H locs := by
    rw [List.append_assoc] at hw
    exact hw
  refine lv_null hx hb dX0_init_39 ?_
  refine lv_iconst (v := (0 : Int32)) hx hb dX0_init_40 (by decide) ?_
  replace hw : th_wI (dC, dI) wI9 A s.heap ((r ++ [(x, .inr (0, [.ref b1, .ref b2, .null, .int 0, .int 0, .int 0])), (b1, .inl (cs 4, (100, .inr (.inr (.inr (.inr (fun _ => none))))))), (b2, .inl (cs 4, (40, .inr (.inr (.inr (.inr (fun _ => none)))))))]) ++ [(b3, .inr (2, [.null, .null, .null, .int 0, .int 0, .int 0, .null, .null])), (b4, .inr (5, [.ref b5, .int (-1), .int 0])), (b5, .inl (cs 0, (0, .inl (fun _ => 0))))]) H locs := by
    rw [List.append_assoc]
    exact hw
  refine th_callIv (As := [.ref b4, .null, .int 0]) (rest := [.ref b3, .ref x]) (y := yX2_init) (bytes := cX2_init) (n := 4) (k := 3) C ⟨(th_b1 214 rfl rfl), (th_b1 215 rfl rfl), (th_b1 9 rfl rfl), (th_b1 216 rfl rfl), rfl, by decide +kernel⟩ (N_X2_c (hE := hE)) hw rfl rfl ⟨Nat.le_of_ble_eq_true rfl, Nat.le_of_ble_eq_true rfl⟩ hl.1 (Nat.le_of_ble_eq_true rfl) ⟨Nat.le_of_ble_eq_true rfl, Nat.le_of_ble_eq_true rfl⟩ dX0_init_41 (fun ws H locs hf hw => ?_)
  obtain ⟨b6, rfl⟩ := hf
  replace hw : th_wI (dC, dI) wI9 A s.heap (r ++ [(x, .inr (0, [.ref b1, .ref b2, .null, .int 0, .int 0, .int 0])), (b1, .inl (cs 4, (100, .inr (.inr (.inr (.inr (fun _ => none))))))), (b2, .inl (cs 4, (40, .inr (.inr (.inr (.inr (fun _ => none))))))), (b3, .inr (2, [.ref b4, .null, .ref b6, .int 0, .int 0, .int 0, .null, .null])), (b4, .inr (5, [.ref b5, .int (-1), .int 0])), (b5, .inl (cs 0, (0, .inl (fun _ => 0)))), (b6, .inl (cs 1, (0, .inl (fun _ => 0))))]) H locs := by
    rw [List.append_assoc] at hw
    exact hw
  refine va_putF (D := (dC, dI)) (ci := 0) (v := .ref b3) (ty := .object "ThreadHouse$Feel") (C := RX0) (T := TX0) (N := 6) C.1 C.2.1 C.2.2.2.2.1 in0X0 tyX0 tyX0_ok nmX0 C.2.2.2.1 C.2.2.2.2.2.1 hw.1 hw.2.1 hw.2.2 r.length kc_at rfl 2 (by decide) (C.2.2.2.2.1 _ (th_b2 12 rfl rfl)) (fun _ h => h) rfl hin rfl (by decide +kernel) rfl rfl (Nat.le_of_ble_eq_true rfl) dX0_init_44 (fun H locs hP hD hS => ?_)
  unfold wI9 at hP hD
  rw [kc_set] at hP hD
  replace hw : th_wI (dC, dI) wI9 A s.heap (r ++ [(x, .inr (0, [.ref b1, .ref b2, .ref b3, .int 0, .int 0, .int 0])), (b1, .inl (cs 4, (100, .inr (.inr (.inr (.inr (fun _ => none))))))), (b2, .inl (cs 4, (40, .inr (.inr (.inr (.inr (fun _ => none))))))), (b3, .inr (2, [.ref b4, .null, .ref b6, .int 0, .int 0, .int 0, .null, .null])), (b4, .inr (5, [.ref b5, .int (-1), .int 0])), (b5, .inl (cs 0, (0, .inl (fun _ => 0)))), (b6, .inl (cs 1, (0, .inl (fun _ => 0))))]) H locs := ⟨hP, hD, hS⟩
  clear hP hD hS
  refine lv_aload_n hx hb dX0_init_47 rfl (lv_at hl 0 rfl) ?_
  refine lv_iconst (v := (0 : Int32)) hx hb dX0_init_48 (by decide) ?_
  refine va_put (D := (dC, dI)) (ci := 0) (v := .int 0) (ty := .int) (C := RX0) (T := TX0) (N := 6) C.1 C.2.1 C.2.2.2.2.1 in0X0 tyX0 tyX0_ok nmX0 C.2.2.2.1 C.2.2.2.2.2.1 hw.1 hw.2.1 hw.2.2 r.length kc_at rfl 3 (by decide) (C.2.2.2.2.1 _ (th_b2 13 rfl rfl)) (fun _ h => h) rfl (by decide +kernel) rfl rfl (Nat.le_of_ble_eq_true rfl) dX0_init_49 (fun H locs hP hD hS => ?_)
  unfold wI9 at hP hD
  rw [kc_set] at hP hD
  replace hw : th_wI (dC, dI) wI9 A s.heap (r ++ [(x, .inr (0, [.ref b1, .ref b2, .ref b3, .int 0, .int 0, .int 0])), (b1, .inl (cs 4, (100, .inr (.inr (.inr (.inr (fun _ => none))))))), (b2, .inl (cs 4, (40, .inr (.inr (.inr (.inr (fun _ => none))))))), (b3, .inr (2, [.ref b4, .null, .ref b6, .int 0, .int 0, .int 0, .null, .null])), (b4, .inr (5, [.ref b5, .int (-1), .int 0])), (b5, .inl (cs 0, (0, .inl (fun _ => 0)))), (b6, .inl (cs 1, (0, .inl (fun _ => 0))))]) H locs := ⟨hP, hD, hS⟩
  clear hP hD hS
  refine lv_aload_n hx hb dX0_init_52 rfl (lv_at hl 0 rfl) ?_
  refine lv_iconst (v := (0 : Int32)) hx hb dX0_init_53 (by decide) ?_
  refine va_put (D := (dC, dI)) (ci := 0) (v := .int 0) (ty := .int) (C := RX0) (T := TX0) (N := 6) C.1 C.2.1 C.2.2.2.2.1 in0X0 tyX0 tyX0_ok nmX0 C.2.2.2.1 C.2.2.2.2.2.1 hw.1 hw.2.1 hw.2.2 r.length kc_at rfl 4 (by decide) (C.2.2.2.2.1 _ (th_b2 14 rfl rfl)) (fun _ h => h) rfl (by decide +kernel) rfl rfl (Nat.le_of_ble_eq_true rfl) dX0_init_54 (fun H locs hP hD hS => ?_)
  unfold wI9 at hP hD
  rw [kc_set] at hP hD
  replace hw : th_wI (dC, dI) wI9 A s.heap (r ++ [(x, .inr (0, [.ref b1, .ref b2, .ref b3, .int 0, .int 0, .int 0])), (b1, .inl (cs 4, (100, .inr (.inr (.inr (.inr (fun _ => none))))))), (b2, .inl (cs 4, (40, .inr (.inr (.inr (.inr (fun _ => none))))))), (b3, .inr (2, [.ref b4, .null, .ref b6, .int 0, .int 0, .int 0, .null, .null])), (b4, .inr (5, [.ref b5, .int (-1), .int 0])), (b5, .inl (cs 0, (0, .inl (fun _ => 0)))), (b6, .inl (cs 1, (0, .inl (fun _ => 0))))]) H locs := ⟨hP, hD, hS⟩
  clear hP hD hS
  refine lv_aload_n hx hb dX0_init_57 rfl (lv_at hl 0 rfl) ?_
  refine lv_iconst (v := (0 : Int32)) hx hb dX0_init_58 (by decide) ?_
  refine va_put (D := (dC, dI)) (ci := 0) (v := .int 0) (ty := .int) (C := RX0) (T := TX0) (N := 6) C.1 C.2.1 C.2.2.2.2.1 in0X0 tyX0 tyX0_ok nmX0 C.2.2.2.1 C.2.2.2.2.2.1 hw.1 hw.2.1 hw.2.2 r.length kc_at rfl 5 (by decide) (C.2.2.2.2.1 _ (th_b2 16 rfl rfl)) (fun _ h => h) rfl (by decide +kernel) rfl rfl (Nat.le_of_ble_eq_true rfl) dX0_init_59 (fun H locs hP hD hS => ?_)
  unfold wI9 at hP hD
  rw [kc_set] at hP hD
  replace hw : th_wI (dC, dI) wI9 A s.heap (r ++ [(x, .inr (0, [.ref b1, .ref b2, .ref b3, .int 0, .int 0, .int 0])), (b1, .inl (cs 4, (100, .inr (.inr (.inr (.inr (fun _ => none))))))), (b2, .inl (cs 4, (40, .inr (.inr (.inr (.inr (fun _ => none))))))), (b3, .inr (2, [.ref b4, .null, .ref b6, .int 0, .int 0, .int 0, .null, .null])), (b4, .inr (5, [.ref b5, .int (-1), .int 0])), (b5, .inl (cs 0, (0, .inl (fun _ => 0)))), (b6, .inl (cs 1, (0, .inl (fun _ => 0))))]) H locs := ⟨hP, hD, hS⟩
  clear hP hD hS
  exact th_vret C hw ⟨b1, b2, b3, b4, b5, b6, rfl⟩ dX0_init_62

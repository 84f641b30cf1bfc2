def xs_new (u : xs_St) (b k : Nat) : xs_St := (u.1, u.2.1, u.2.2.1, (u.2.2.2.1 ++ [b], va_up u.2.2.2.2.1 b k, (fun f => va_up (u.2.2.2.2.2.1 f) b none), (fun f => va_up (u.2.2.2.2.2.2.1 f) b 0), u.2.2.2.2.2.2.2))
def xs_newA (u : xs_St) (b k N : Nat) : xs_St := (u.1, u.2.1, u.2.2.1, (u.2.2.2.1 ++ [b], va_up u.2.2.2.2.1 b k, u.2.2.2.2.2.1, u.2.2.2.2.2.2.1, va_up u.2.2.2.2.2.2.2.1 b N, va_up u.2.2.2.2.2.2.2.2 b (fun _ => 0)))
theorem xd_push {cs : Nat → ClassId} {ad q v g : Nat → Nat} {u : xs_St} {b : Nat} (hb : b ∉ xdL u) (e : va_E) (u1 : xs_St) (h0 : wX0 cs ad q v g u1 = wX0 cs ad q v g u) (h1 : u1.2.2.2.1 = u.2.2.2.1 ++ [b]) (hE : ∀ a, va_up (xd_E cs u.2.2.2) b e a = xd_E cs u1.2.2.2 a) : wX cs ad q v g u ++ [(b, e)] = wX cs ad q v g u1 := by
  unfold wX
  rw [List.append_assoc, va_pl_push hb, h0, h1, va_pl_congr hE]
theorem xd_fresh {A : Nat → Prop} {cs : Nat → ClassId} {ad q v g : Nat → Nat} {u : xs_St} {b : Nat} {e : va_E} (hD : va_D A (wX cs ad q v g u ++ [(b, e)])) : b ∉ xdL u := by
  intro h
  obtain ⟨k, hk⟩ := va_pl_get (X := wX0 cs ad q v g u) (f := xd_E cs u.2.2.2) h
  have hk : (wX cs ad q v g u)[k]? = some (b, xd_E cs u.2.2.2 b) := hk
  have hlt : k < (wX cs ad q v g u).length := (List.getElem?_eq_some_iff.mp hk).1
  have e1 : (wX cs ad q v g u ++ [(b, e)])[k]? = some (b, xd_E cs u.2.2.2 b) := by rw [List.getElem?_append_left hlt]; exact hk
  have e2 : (wX cs ad q v g u ++ [(b, e)])[(wX cs ad q v g u).length]? = some (b, e) := by simp
  have := hD.1 k _ _ _ e1 e2 rfl
  omega
def xs_LI (own : String) (idx : Nat) (y : MethodName) (bytes : ByteArray) (n k : Nat) : Prop := Cond.methodLink own idx y ∈ th_BIG ∧ Cond.instanceMethod y ∈ th_BIG ∧ Cond.initialized y.cls ∈ th_BIG ∧ Cond.code y bytes n none ∈ th_BIG ∧ y.name = "<init>" ∧ (y.cls ≠ "java/lang/invoke/MethodHandle" ∧ y.cls ≠ "java/lang/invoke/VarHandle" ∧ (parseMethodDescriptor y.desc).map (fun d => d.parameters.length) = some k)
section
variable {p : Program} {l : Launch} {e : Env} {R : Room} {s : State} {m : MethodId} {args : Array Value} {below : List Frame} {meth : Method} {c : Code} {H : Heap} {locs : List Loc} {cells slots : Nat} {Q : State → Prop} {cc : ByteArray} {nL pc idx : Nat} {ret : Option FieldType} {dC : Nat → ClassId} {dI : Nat → Nat → Nat} {cs : Nat → ClassId} {ad ak : Nat → Nat} {q v g : Nat → Nat} {E : th_Ex} {A : Nat → Prop} {u : xs_St} {H0 : Heap} {ls : Array Slot} {rest : List Value} {own : String}
theorem xn_Row (C : th_Cx p s m args meth c cc own nL ret (dC, dI) (th_ty cs) (xE ad ak) A) (hw : th_wI (dC, dI) (wX cs ad q v g) A s.heap u H locs) (hl : (Cond.classLink own idx RX5).before args s = true) (hc : cells + 1 ≤ R.cells) (hs : slots + 3 ≤ R.slots) (hd : decode cc pc = .ok (.new idx, 3)) (kk : ∀ b : Nat, b ∉ xdL u → ∀ u1 : xs_St, u1 = xs_new u b 1 → ∀ H : Heap, th_wI (dC, dI) (wX cs ad q v g) A s.heap u1 H locs → W p l e R s m args below meth c H locs (cells + 1) (slots + 3) Q (F0 m (pc + 3) ls (.ref b :: rest))) : W p l e R s m args below meth c H locs cells slots Q (F0 m pc ls rest) := by
  refine va_new (D := (dC, dI)) (ci := 5) (fs := [.null, .int 0, .int 0]) (C := RX5) (T := TX5) (N := 3) C.1 C.2.1 C.2.2.2.2.1 in0X5 tyX5 tyX5_ok C.2.2.2.1 hl (C.2.2.2.2.1 _ hwZ_X5) (C.2.2.2.2.1 _ hwI_X5) C.2.2.2.2.2.1 hw.1 hw.2.1 hw.2.2 C.2.2.2.2.2.2.2.2.1 rfl (fun j hj => by
    match j, hj with
    | 0, _ => rfl
    | 1, _ => rfl
    | 2, _ => rfl
    | j + 3, h => exact absurd h (by omega)) hc hs hd (fun b H hP hD hS => ?_)
  have hb := xd_fresh hD
  have e9 : wX cs ad q v g u ++ [(b, .inr (5, [.null, .int 0, .int 0]))] = wX cs ad q v g (xs_new u b 1) := by
    refine xd_push hb _ _ rfl rfl (fun a => ?_)
    by_cases h : a = b
    · subst h; simp [va_up, xd_E, xs_new, va_rf]
    · simp [va_up, xd_E, xs_new, h]
  rw [e9] at hP hD
  exact kk b hb _ rfl H ⟨hP, hD, hS⟩
theorem xn_Feel (C : th_Cx p s m args meth c cc own nL ret (dC, dI) (th_ty cs) (xE ad ak) A) (hw : th_wI (dC, dI) (wX cs ad q v g) A s.heap u H locs) (hl : (Cond.classLink own idx RX2).before args s = true) (hc : cells + 1 ≤ R.cells) (hs : slots + 8 ≤ R.slots) (hd : decode cc pc = .ok (.new idx, 3)) (kk : ∀ b : Nat, b ∉ xdL u → ∀ u1 : xs_St, u1 = xs_new u b 3 → ∀ H : Heap, th_wI (dC, dI) (wX cs ad q v g) A s.heap u1 H locs → W p l e R s m args below meth c H locs (cells + 1) (slots + 8) Q (F0 m (pc + 3) ls (.ref b :: rest))) : W p l e R s m args below meth c H locs cells slots Q (F0 m pc ls rest) := by
  refine va_new (D := (dC, dI)) (ci := 2) (fs := [.null, .null, .null, .int 0, .int 0, .int 0, .null, .null]) (C := RX2) (T := TX2) (N := 8) C.1 C.2.1 C.2.2.2.2.1 in0X2 tyX2 tyX2_ok C.2.2.2.1 hl (C.2.2.2.2.1 _ hwZ_X2) (C.2.2.2.2.1 _ hwI_X2) C.2.2.2.2.2.1 hw.1 hw.2.1 hw.2.2 C.2.2.2.2.2.2.2.2.1 rfl (fun j hj => by
    match j, hj with
    | 0, _ => rfl
    | 1, _ => rfl
    | 2, _ => rfl
    | 3, _ => rfl
    | 4, _ => rfl
    | 5, _ => rfl
    | 6, _ => rfl
    | 7, _ => rfl
    | j + 8, h => exact absurd h (by omega)) hc hs hd (fun b H hP hD hS => ?_)
  have hb := xd_fresh hD
  have e9 : wX cs ad q v g u ++ [(b, .inr (2, [.null, .null, .null, .int 0, .int 0, .int 0, .null, .null]))] = wX cs ad q v g (xs_new u b 3) := by
    refine xd_push hb _ _ rfl rfl (fun a => ?_)
    by_cases h : a = b
    · subst h; simp [va_up, xd_E, xs_new, va_rf]
    · simp [va_up, xd_E, xs_new, h]
  rw [e9] at hP hD
  exact kk b hb _ rfl H ⟨hP, hD, hS⟩
theorem xn_I (C : th_Cx p s m args meth c cc own nL ret (dC, dI) (th_ty cs) (xE ad ak) A) (hw : th_wI (dC, dI) (wX cs ad q v g) A s.heap u H locs) {n : Int32} (hn : ¬ n < 0) (hn2 : n.toNatClampNeg ≤ 48) (hc : cells + 1 ≤ R.cells) (hs : slots + 48 ≤ R.slots) (hd : decode cc pc = .ok (.newarray .int, 2)) (kk : ∀ b : Nat, b ∉ xdL u → ∀ u1 : xs_St, u1 = xs_newA u b 4 n.toNatClampNeg → ∀ H : Heap, th_wI (dC, dI) (wX cs ad q v g) A s.heap u1 H locs → W p l e R s m args below meth c H locs (cells + 1) (slots + 48) Q (F0 m (pc + 2) ls (.ref b :: rest))) : W p l e R s m args below meth c H locs cells slots Q (F0 m pc ls (.int n :: rest)) := by
  refine va_newa (D := (dC, dI)) (atype := .int) (ty := .int) (a0 := (n.toNatClampNeg, .inl (fun _ => 0))) C.1 C.2.1 (C.2.2.2.2.1 _ hwA_int) rfl C.2.2.2.2.2.1 hw.1 hw.2.1 hw.2.2 C.2.2.2.2.2.2.2.2.1 (fun cA => rfl) hn rfl (by show _ * 4 ≤ _; omega) hc (by omega) hd (fun b cA H hK hP hD hS => ?_)
  have h1 : s.vm.findClass ("[" ++ (FieldType.int).toString) = some cA := (hK.2 6 (cA, .int) rfl).2
  have h2 : s.vm.findClass ("[" ++ (FieldType.int).toString) = some (cs 1) := (C.2.2.2.2.2.1.2 1 (cs 1, .int) rfl).2
  obtain rfl : cA = cs 1 := Option.some.inj (h1.symm.trans h2)
  have hb := xd_fresh hD
  have e9 : wX cs ad q v g u ++ [(b, .inl (cs 1, (n.toNatClampNeg, .inl (fun _ => 0))))] = wX cs ad q v g (xs_newA u b 4 n.toNatClampNeg) := by
    refine xd_push hb _ _ rfl rfl (fun a => ?_)
    by_cases h : a = b
    · subst h; simp [va_up, xd_E, xs_newA]
    · simp [va_up, xd_E, xs_newA, h]
  rw [e9] at hP hD
  exact W.widen (Nat.le_refl _) (by omega) (kk b hb _ rfl H ⟨hP, hD, hS⟩)
theorem xn_B (C : th_Cx p s m args meth c cc own nL ret (dC, dI) (th_ty cs) (xE ad ak) A) (hw : th_wI (dC, dI) (wX cs ad q v g) A s.heap u H locs) {n : Int32} (hn : ¬ n < 0) (hn2 : n.toNatClampNeg ≤ 440) (hc : cells + 1 ≤ R.cells) (hs : slots + 440 ≤ R.slots) (hd : decode cc pc = .ok (.newarray .byte, 2)) (kk : ∀ b : Nat, b ∉ xdL u → ∀ u1 : xs_St, u1 = xs_newA u b 2 n.toNatClampNeg → ∀ H : Heap, th_wI (dC, dI) (wX cs ad q v g) A s.heap u1 H locs → W p l e R s m args below meth c H locs (cells + 1) (slots + 440) Q (F0 m (pc + 2) ls (.ref b :: rest))) : W p l e R s m args below meth c H locs cells slots Q (F0 m pc ls (.int n :: rest)) := by
  refine va_newa (D := (dC, dI)) (atype := .byte) (ty := .byte) (a0 := (n.toNatClampNeg, .inl (fun _ => 0))) C.1 C.2.1 (C.2.2.2.2.1 _ hwA_byte) rfl C.2.2.2.2.2.1 hw.1 hw.2.1 hw.2.2 C.2.2.2.2.2.2.2.2.1 (fun cA => rfl) hn rfl (by show _ * 1 ≤ _; omega) hc (by omega) hd (fun b cA H hK hP hD hS => ?_)
  have h1 : s.vm.findClass ("[" ++ (FieldType.byte).toString) = some cA := (hK.2 6 (cA, .byte) rfl).2
  have h2 : s.vm.findClass ("[" ++ (FieldType.byte).toString) = some (cs 0) := (C.2.2.2.2.2.1.2 0 (cs 0, .byte) rfl).2
  obtain rfl : cA = cs 0 := Option.some.inj (h1.symm.trans h2)
  have hb := xd_fresh hD
  have e9 : wX cs ad q v g u ++ [(b, .inl (cs 0, (n.toNatClampNeg, .inl (fun _ => 0))))] = wX cs ad q v g (xs_newA u b 2 n.toNatClampNeg) := by
    refine xd_push hb _ _ rfl rfl (fun a => ?_)
    by_cases h : a = b
    · subst h; simp [va_up, xd_E, xs_newA]
    · simp [va_up, xd_E, xs_newA, h]
  rw [e9] at hP hD
  exact W.widen (Nat.le_refl _) (by omega) (kk b hb _ rfl H ⟨hP, hD, hS⟩)
theorem x_cpy (C : th_Cx p s m args meth c cc own nL ret (dC, dI) (th_ty cs) E A) (hw : th_wI (dC, dI) (wX cs ad q v g) A H0 u H locs) {b : Nat} (hm : xd_is u b 2) {sp dp n : Int32} (h1 : ¬ sp < 0) (h2 : ¬ dp < 0) (h3 : ¬ n < 0) (h4 : sp.toNatClampNeg + n.toNatClampNeg ≤ 440) (h5 : dp.toNatClampNeg + n.toNatClampNeg ≤ xdN u b) (hfit : ∀ i, i < n.toNatClampNeg → fits .byte (.int (xa u 100 (sp.toNatClampNeg + i))) = true) (hz : ls.size = nL) (hframes : 1 ≤ R.frames) (hlocals : (rest.map fun v => v.category).sum + (nativeFrameWords "java/lang/System" "arraycopy" 5 + 11) ≤ R.locals) (hl : (Cond.methodLink own idx arraycopyName).before args s = true) (hd : decode cc pc = .ok (.invokestatic idx, 3)) (kk : ∀ u1 : xs_St, u1 = xs_da u b (va_cpy (xa u 100) (xdA u b) sp.toNatClampNeg dp.toNatClampNeg n.toNatClampNeg) → ∀ (H : Heap) (locs : List Loc), th_wI (dC, dI) (wX cs ad q v g) A H0 u1 H locs → W p l e R s m args below meth c H locs cells slots Q (F0 m (pc + 3) ls rest)) : W p l e R s m args below meth c H locs cells slots Q (F0 m pc ls (.int n :: .int dp :: .ref b :: .int sp :: .ref (q 100) :: rest)) := by
  obtain ⟨k, hk⟩ := va_pl_get (X := wX0 cs ad q v g u) (f := xd_E cs u.2.2.2) hm.1
  refine va_copyi (D := (dC, dI)) (ty := .byte) C.1 C.2.1 (C.2.2.1.trans hz.symm) C.2.2.2.1 hl (C.2.2.2.2.1 _ hwX_nat) (C.2.2.2.2.1 _ hwX_stat) (C.2.2.2.2.1 _ hwI_System) C.2.2.2.2.2.1 hw.1 hw.2.1 hw.2.2 5 k 0 0 rfl (hk.trans (congrArg (fun e => some (b, e)) (xd_E2 cs hm))) rfl rfl rfl h1 h2 h3 h4 h5 hfit hframes hlocals hd (fun H locs hP hD hS => ?_)
  have e9 : (wX cs ad q v g u).set k (b, .inl (cs 0, (xdN u b, .inl (va_cpy (xa u 100) (xdA u b) sp.toNatClampNeg dp.toNatClampNeg n.toNatClampNeg)))) = wX cs ad q v g (xs_da u b (va_cpy (xa u 100) (xdA u b) sp.toNatClampNeg dp.toNatClampNeg n.toNatClampNeg)) := by
    refine xd_put hw.2.1 hm.1 hk _ _ rfl rfl (fun a => ?_)
    have h2 : u.2.2.2.2.1 b = 2 := hm.2
    by_cases h : a = b
    · subst h; simp [va_up, xd_E, xs_da, h2]
    · simp [va_up, xd_E, xs_da, h]
  rw [e9] at hP hD
  exact kk _ rfl H locs ⟨hP, hD, hS⟩
theorem th_callIv {α : Type} {w : α → va_W} {u : α} {k n d mc ms : Nat} {y : MethodName} {bytes : ByteArray} {b : Addr} {As : List Value} {D : va_G} {tys : List (ClassId × FieldType)} {K : α → Prop} {st : List Value} (C : th_Cx p s m args meth c cc own nL ret D tys E A) (hL : xs_LI own idx y bytes n k) (hM : th_Cv l y bytes n none d mc ms D tys E w (.ref b :: As) u K) (hw : th_wI D w A s.heap u H locs) (hst : st = As.reverse ++ .ref b :: rest) (hn : As.length = k) (hR : d + 1 ≤ R.frames ∧ 8 + (n + 11) + 50 * d ≤ R.locals) (hz : ls.size = nL) (hrest : (rest.map fun v => v.category).sum ≤ 8) (hcs : cells + mc ≤ R.cells ∧ slots + ms ≤ R.slots) (hd : decode cc pc = .ok (.invokespecial idx, 3))
    (kk : ∀ (u1 : α) (H1 : Heap) (locs1 : List Loc), K u1 → th_wI D w A s.heap u1 H1 locs1 → W p l e R s m args below meth c H1 locs1 (cells + mc) (slots + ms) Q (F0 m (pc + 3) ls rest)) : W p l e R s m args below meth c H locs cells slots Q (F0 m pc ls st) := by
  obtain ⟨hx, hb, hml, hown, hts, hK, -, -, hA, hE0, hE⟩ := C
  obtain ⟨h1, h2, h3, h4, h5, h6⟩ := hL
  subst hst
  have hF := hw.free hA
  refine va_callv (va_runI (As := As) (rest := rest) ⟨hx, hb, hml, hown, hts⟩ (hM H.size) (cwI k hts (th_good (fun w hw => (List.mem_cons.mp hw).elim (fun e => e ▸ h4) id)) rfl rfl rfl (hts _ h3) (hts _ h1) (hts _ h2) h5 h6 hR) ⟨th_blind hE, th_start hK hA hE0 hE hw⟩ rfl hn hz rfl (lv_room hrest) hd hcs) hw.2.2 (fun q _ h => hF q h) hF (fun u1 t H1 locs1 ht _ hp hB _ _ hS => kk u1 H1 locs1 hp ⟨by rw [← ht]; exact hB.1, hB.2.weaken (fun _ q _ h => hF q.1 h), hS⟩)
theorem th_callSq {α : Type} {w : α → va_W} {u : α} {k n d mc ms : Nat} {y : MethodName} {bytes : ByteArray} {As : List Value} {D : va_G} {tys : List (ClassId × FieldType)} {ret1 : Option FieldType} {K : Option Nat → α → Prop} {st : List Value} (C : th_Cx p s m args meth c cc own nL ret D tys E A) (hL : GoodIn th_BIG (va_wsS own idx y (Cond.code y bytes n ret1 :: th_BIG)) ∧ (y.cls ≠ "java/lang/invoke/MethodHandle" ∧ y.cls ≠ "java/lang/invoke/VarHandle" ∧ (parseMethodDescriptor y.desc).map (fun d => d.parameters.length) = some k)) (hM : th_Cq l y bytes n ret1 d mc ms D tys E w As u K) (hw : th_wI D w A s.heap u H locs) (hst : st = As.reverse ++ rest) (hn : As.length = k) (hR : d + 1 ≤ R.frames ∧ 8 + (n + 11) + 50 * d ≤ R.locals) (hz : ls.size = nL) (hrest : (rest.map fun v => v.category).sum ≤ 8) (hcs : cells + mc ≤ R.cells ∧ slots + ms ≤ R.slots) (hd : decode cc pc = .ok (.invokestatic idx, 3))
    (kk : ∀ (r : Option Nat) (u1 : α) (H1 : Heap) (locs1 : List Loc), K r u1 → th_wI D w A s.heap u1 H1 locs1 → W p l e R s m args below meth c H1 locs1 (cells + mc) (slots + ms) Q (F0 m (pc + 3) ls (va_rf r :: rest))) : W p l e R s m args below meth c H locs cells slots Q (F0 m pc ls st) := by
  obtain ⟨hx, hb, hml, hown, hts, hK, -, -, hA, hE0, hE⟩ := C
  subst hst
  have hF := hw.free hA
  have ok : ∀ w ∈ va_wsS own idx y (Cond.code y bytes n ret1 :: th_BIG), w.before args s = true := fun w h => hts w (hL.1 w h).1
  refine va_callq (va_runS (As := As) (rest := rest) ⟨hx, hb, hml, hown, hts⟩ (hM H.size) ⟨callB_of k hts (fun w h => hL.1 w (by unfold va_wsS; exact List.mem_append_right _ h)) rfl rfl rfl (ok _ (by simp [va_wsS])) (ok _ (by simp [va_wsS])) hL.2 hR, ok _ (by simp [va_wsS])⟩ ⟨th_blind hE, th_start hK hA hE0 hE hw⟩ rfl hn hz rfl (lv_room hrest) hd hcs) hw.2.2 (fun q _ h => hF q h) hF (fun r u1 t H1 locs1 ht _ hp hB _ _ hS => kk r u1 H1 locs1 hp ⟨by rw [← ht]; exact hB.1, hB.2.weaken (fun _ q _ h => hF q.1 h), hS⟩)
end
/-- a constructor's contract: its body knows that it is one -/
theorem th_ofvI {α : Type} {l : Launch} {y : MethodName} {cc : ByteArray} {n : Nat} {ret : Option FieldType} {d mc ms : Nat} {D : va_G} {tys : List (ClassId × FieldType)} {E : th_Ex} {w : α → va_W} {av : List Value} {u : α} {K : α → Prop} (hy : plainName y.cls = true) (hav : (lg_sl av).length ≤ n) (hE : th_EO E) (hnm : y.name = "<init>")
    (body : ∀ (p : Program) (e : Env) (s : State) (m : MethodId) (below : List Frame) (meth : Method) (c : Code) (A : Nat → Prop) (ls : Array Slot), th_Cx p s m av.toArray meth c cc y.cls n ret D tys E A → meth.name = "<init>" → th_wI D w A s.heap u s.heap [] → lv_has ls n (lv_args 0 av) →
      W p l e (th_rm d mc ms) s m av.toArray below meth c s.heap [] 0 0 (MQ below (va_Qv K (th_Post D w A) A) av.toArray s mc ms A) (F0 m 0 ls [])) : th_Cv l y cc n ret d mc ms D tys E w av u K := by
  intro sz
  refine Met.ofW (cc := cc) (maxL := n) (ret := ret) hy rfl ?_
  intro p e s m args below meth c s₁ B hml hv
  obtain ⟨rfl, hsz, hP, hK, hD0, hE0⟩ := hv
  subst hsz
  have hl := lv_entry av (n := n) hav
  rw [lg_entry_eq]
  exact body p e s m below meth c _ _ ⟨B.exec, B.bytes, hml, findClass_of_methodNamed B.named, fun w hw => atoms_spec (ws := Cond.code y cc n ret :: th_BIG) B.pre w (List.mem_cons_of_mem _ hw), hK, B.returns, B.notSynchronized, fun q h => Or.inr h, hE0, hE⟩ (by rw [← hnm]; exact (name_of_methodNamed B.named B.method).1) ⟨hP, hD0.self, va_S.rf⟩ hl
def th_Ce {α : Type} (ad : Nat → Nat) (l : Launch) (y : MethodName) (cc : ByteArray) (n : Nat) (ret : Option FieldType) (d mc ms : Nat) (D : va_G) (tys : List (ClassId × FieldType)) (E : th_Ex) (w : α → va_W) (av : List Value) (u : α) (K : Option Nat → α → Prop) : Prop :=
  ∀ sz, Met l y (Cond.code y cc n ret :: th_BIG) (th_rm d mc ms) (va_Pc av (th_Pre D tys E w u sz)) (va_Qe ad K (th_Post D w (va_A (w u) sz)) (va_A (w u) sz)) mc ms (va_A (w u) sz)
theorem th_ofe {α : Type} {ad : Nat → Nat} {l : Launch} {y : MethodName} {cc : ByteArray} {n : Nat} {ret : Option FieldType} {d mc ms : Nat} {D : va_G} {tys : List (ClassId × FieldType)} {E : th_Ex} {w : α → va_W} {av : List Value} {u : α} {K : Option Nat → α → Prop} (hy : plainName y.cls = true) (hav : (lg_sl av).length ≤ n) (hE : th_EO E)
    (body : ∀ (p : Program) (e : Env) (s : State) (m : MethodId) (below : List Frame) (meth : Method) (c : Code) (A : Nat → Prop) (ls : Array Slot), th_Cx p s m av.toArray meth c cc y.cls n ret D tys E A → th_wI D w A s.heap u s.heap [] → lv_has ls n (lv_args 0 av) →
      W p l e (th_rm d mc ms) s m av.toArray below meth c s.heap [] 0 0 (MQ below (va_Qe ad K (th_Post D w A) A) av.toArray s mc ms A) (F0 m 0 ls [])) : th_Ce ad l y cc n ret d mc ms D tys E w av u K := by
  intro sz
  refine Met.ofW (cc := cc) (maxL := n) (ret := ret) hy rfl ?_
  intro p e s m args below meth c s₁ B hml hv
  obtain ⟨rfl, hsz, hP, hK, hD0, hE0⟩ := hv
  subst hsz
  have hl := lv_entry av (n := n) hav
  rw [lg_entry_eq]
  exact body p e s m below meth c _ _ ⟨B.exec, B.bytes, hml, findClass_of_methodNamed B.named, fun w hw => atoms_spec (ws := Cond.code y cc n ret :: th_BIG) B.pre w (List.mem_cons_of_mem _ hw), hK, B.returns, B.notSynchronized, fun q h => Or.inr h, hE0, hE⟩ ⟨hP, hD0.self, va_S.rf⟩ hl
section
variable {p : Program} {l : Launch} {e : Env} {R : Room} {s : State} {m : MethodId} {args : Array Value} {below : List Frame} {meth : Method} {c : Code} {H : Heap} {locs : List Loc} {cells slots : Nat} {Q : State → Prop} {cc : ByteArray} {nL pc idx : Nat} {ret : Option FieldType} {dC : Nat → ClassId} {dI : Nat → Nat → Nat} {cs : Nat → ClassId} {ad ak : Nat → Nat} {q v g : Nat → Nat} {E : th_Ex} {A : Nat → Prop} {u : xs_St} {H0 : Heap} {ls : Array Slot} {rest : List Value} {own : String}
theorem th_eret {α : Type} {w : α → va_W} {u : α} {D : va_G} {tys : List (ClassId × FieldType)} {mc ms : Nat} {K : Option Nat → α → Prop} {r : Option Nat} {rt : FieldType} (hrt : (∃ n, rt = .object n) ∨ ∃ t, rt = .array t) (C : th_Cx p s m args meth c cc own nL (some rt) D tys E A) (hw : th_wI D w A s.heap u H locs) (hf : K r u) (hd : decode cc pc = .ok (.areturn, 1)) : W p l e R s m args below meth c H locs mc ms (MQ below (va_Qe ad K (th_Post D w A) A) args s mc ms A) (F0 m pc ls [va_re ad r]) :=
  W.aret C.1 C.2.1 C.2.2.2.2.2.2.1 hrt (va_re_or ad r) (fun t ht _ => ⟨⟨r, u, rfl, hf, by rw [ht]; exact hw.1, hw.2.1⟩, hw.2.2.F ht⟩) hw.2.2.2.2 hd C.2.2.2.2.2.2.2.1
theorem th_nret {α : Type} {w : α → va_W} {u : α} {D : va_G} {tys : List (ClassId × FieldType)} {mc ms : Nat} {K : Int32 → α → Prop} {r : Int32} {ty : FieldType} (C : th_Cx p s m args meth c cc own nL (some ty) D tys E A) (hw : th_wI D w A s.heap u H locs) (hn : narrow ty (.int r) = .int r) (hf : K r u) (hd : decode cc pc = .ok (.ireturn, 1)) : W p l e R s m args below meth c H locs mc ms (MQ below (va_Qi K (th_Post D w A) A) args s mc ms A) (F0 m pc ls [.int r]) :=
  W.zret C.1 C.2.1 C.2.2.2.2.2.2.1 hn (fun t ht _ => ⟨⟨r, u, rfl, hf, by rw [ht]; exact hw.1, hw.2.1⟩, hw.2.2.F ht⟩) hw.2.2.2.2 hd C.2.2.2.2.2.2.2.1
theorem th_callSji {α : Type} {w : α → va_W} {u : α} {k n d mc ms : Nat} {y : MethodName} {bytes : ByteArray} {As : List Value} {D : va_G} {tys : List (ClassId × FieldType)} {ret1 : Option FieldType} {K : Int32 → α → Prop} {st : List Value} (C : th_Cx p s m args meth c cc own nL ret D tys E A) (hL : GoodIn th_BIG (va_wsS own idx y (Cond.code y bytes n ret1 :: th_BIG)) ∧ (y.cls ≠ "java/lang/invoke/MethodHandle" ∧ y.cls ≠ "java/lang/invoke/VarHandle" ∧ (parseMethodDescriptor y.desc).map (fun d => d.parameters.length) = some k)) (hM : th_Ci l y bytes n ret1 d mc ms D tys E w As u K) (hw : th_wI D w A s.heap u H locs) (hst : st = As.reverse ++ rest) (hn : As.length = k) (hR : d + 1 ≤ R.frames ∧ 8 + (n + 11) + 50 * d ≤ R.locals) (hz : ls.size = nL) (hrest : (rest.map fun v => v.category).sum ≤ 8) (hcs : cells + mc ≤ R.cells ∧ slots + ms ≤ R.slots) (hd : decode cc pc = .ok (.invokestatic idx, 3))
    (kk : ∀ (r : Int32) (u1 : α) (H1 : Heap) (locs1 : List Loc), K r u1 → th_wI D w A s.heap u1 H1 locs1 → W p l e R s m args below meth c H1 locs1 (cells + mc) (slots + ms) Q (F0 m (pc + 3) ls (.int r :: rest))) : W p l e R s m args below meth c H locs cells slots Q (F0 m pc ls st) := by
  obtain ⟨hx, hb, hml, hown, hts, hK, -, -, hA, hE0, hE⟩ := C
  subst hst
  have hF := hw.free hA
  have ok : ∀ w ∈ va_wsS own idx y (Cond.code y bytes n ret1 :: th_BIG), w.before args s = true := fun w h => hts w (hL.1 w h).1
  refine va_calli (va_runS (As := As) (rest := rest) ⟨hx, hb, hml, hown, hts⟩ (hM H.size) ⟨callB_of k hts (fun w h => hL.1 w (by unfold va_wsS; exact List.mem_append_right _ h)) rfl rfl rfl (ok _ (by simp [va_wsS])) (ok _ (by simp [va_wsS])) hL.2 hR, ok _ (by simp [va_wsS])⟩ ⟨th_blind hE, th_start hK hA hE0 hE hw⟩ rfl hn hz rfl (lv_room hrest) hd hcs) hw.2.2 (fun q _ h => hF q h) hF (fun r u1 t H1 locs1 ht _ hp hB _ _ hS => kk r u1 H1 locs1 hp ⟨by rw [← ht]; exact hB.1, hB.2.weaken (fun _ q _ h => hF q.1 h), hS⟩)
theorem th_callSe {α : Type} {w : α → va_W} {u : α} {k n d mc ms : Nat} {y : MethodName} {bytes : ByteArray} {As : List Value} {D : va_G} {tys : List (ClassId × FieldType)} {ret1 : Option FieldType} {K : Option Nat → α → Prop} {st : List Value} (C : th_Cx p s m args meth c cc own nL ret D tys E A) (hL : th_LS own idx y bytes n k ret1) (hM : th_Ce ad l y bytes n ret1 d mc ms D tys E w As u K) (hw : th_wI D w A s.heap u H locs) (hst : st = As.reverse ++ rest) (hn : As.length = k) (hR : d + 1 ≤ R.frames ∧ 8 + (n + 11) + 50 * d ≤ R.locals) (hz : ls.size = nL) (hrest : (rest.map fun v => v.category).sum ≤ 8) (hcs : cells + mc ≤ R.cells ∧ slots + ms ≤ R.slots) (hd : decode cc pc = .ok (.invokestatic idx, 3))
    (kk : ∀ (r : Option Nat) (u1 : α) (H1 : Heap) (locs1 : List Loc), K r u1 → th_wI D w A s.heap u1 H1 locs1 → W p l e R s m args below meth c H1 locs1 (cells + mc) (slots + ms) Q (F0 m (pc + 3) ls (va_re ad r :: rest))) : W p l e R s m args below meth c H locs cells slots Q (F0 m pc ls st) := by
  obtain ⟨hx, hb, hml, hown, hts, hK, -, -, hA, hE0, hE⟩ := C
  subst hst
  have hF := hw.free hA
  refine va_calle (va_runS (As := As) (rest := rest) ⟨hx, hb, hml, hown, hts⟩ (hM H.size) (cwS k hts hL.1 rfl rfl rfl hL.2 hR) ⟨th_blind hE, th_start hK hA hE0 hE hw⟩ rfl hn hz rfl (lv_room hrest) hd hcs) hw.2.2 (fun q _ h => hF q h) hF (fun r u1 t H1 locs1 ht _ hp hB _ _ hS => kk r u1 H1 locs1 hp ⟨by rw [← ht]; exact hB.1, hB.2.weaken (fun _ q _ h => hF q.1 h), hS⟩)
theorem x_e2 (C : th_Cx p s m args meth c cc own nL ret (dC, dI) (th_ty cs) (xE ad ak) A) : xE2 ad ak A s s.heap := C.2.2.2.2.2.2.2.2.2.1.2.2.2.1
theorem x_e3 (C : th_Cx p s m args meth c cc own nL ret (dC, dI) (th_ty cs) (xE ad ak) A) : xE3 ak A s s.heap := C.2.2.2.2.2.2.2.2.2.1.2.2.2.2
theorem x_OF (C : th_Cx p s m args meth c cc own nL ret (dC, dI) (th_ty cs) (xE ad ak) A) (hw : th_wI (dC, dI) (wX cs ad q v g) A s.heap u H locs) {o n d : String} {v9 : Value} {t : Nat} (hE : va_OF o n d v9 t A s s.heap) (hl : (Cond.fieldLink own idx o n d).before args s = true) (hd : decode cc pc = .ok (.getfield idx, 3)) (kk : W p l e R s m args below meth c H locs cells slots Q (F0 m (pc + 3) ls (v9 :: rest))) : W p l e R s m args below meth c H locs cells slots Q (F0 m pc ls (.ref t :: rest)) := vk_getf C.1 C.2.1 hE hw.2.2 C.2.2.2.1 hl (fun _ h => h) hd kk
theorem x_OFn (C : th_Cx p s m args meth c cc own nL ret (dC, dI) (th_ty cs) (xE ad ak) A) (hw : th_wI (dC, dI) (wX cs ad q v g) A s.heap u H locs) {o n d : String} {v9 : Value} {t : Nat} (hE : va_OF o n d v9 t A s s.heap) (hl : (Cond.fieldLinkNest own idx o n d "ThreadHouse").before args s = true) (hd : decode cc pc = .ok (.getfield idx, 3)) (kk : W p l e R s m args below meth c H locs cells slots Q (F0 m (pc + 3) ls (v9 :: rest))) : W p l e R s m args below meth c H locs cells slots Q (F0 m pc ls (.ref t :: rest)) := by
  obtain ⟨cf, k, i, f, cell, h1, h2, h3, h4, h5, h6⟩ := hE
  have hlt : t < s.heap.size := (Array.getElem?_eq_some_iff.mp h3).1
  exact va_Wgetf C.1 C.2.1 C.2.2.2.1 hl h1 h2 (by rw [hw.2.2.2.1 _ hlt h6]; exact h3) h4 h5 rfl rfl hd kk
theorem x_wr (C : th_Cx p s m args meth c cc own nL ret (dC, dI) (th_ty cs) (xE ad ak) A) (hw : th_wI (dC, dI) (wX cs ad q v g) A s.heap u H locs) {k : Nat} (hk : k < 27) (hl : (Cond.fieldLink own idx "ThreadHouse$Token" "written" "Ljava/lang/String;").before args s = true) (hd : decode cc pc = .ok (.getfield idx, 3)) (kk : W p l e R s m args below meth c H locs cells slots Q (F0 m (pc + 3) ls (.ref (ak (100 + k)) :: rest))) : W p l e R s m args below meth c H locs cells slots Q (F0 m pc ls (va_re ad (some k) :: rest)) := x_OF C hw ((x_e2 C).2.2.1 k hk) hl hd kk
theorem x_wrn (C : th_Cx p s m args meth c cc own nL ret (dC, dI) (th_ty cs) (xE ad ak) A) (hw : th_wI (dC, dI) (wX cs ad q v g) A s.heap u H locs) {k : Nat} (hk : k < 27) (hl : (Cond.fieldLinkNest own idx "ThreadHouse$Token" "written" "Ljava/lang/String;" "ThreadHouse").before args s = true) (hd : decode cc pc = .ok (.getfield idx, 3)) (kk : W p l e R s m args below meth c H locs cells slots Q (F0 m (pc + 3) ls (.ref (ak (100 + k)) :: rest))) : W p l e R s m args below meth c H locs cells slots Q (F0 m pc ls (va_re ad (some k) :: rest)) := x_OFn C hw ((x_e2 C).2.2.1 k hk) hl hd kk
theorem x_sval (C : th_Cx p s m args meth c cc own nL ret (dC, dI) (th_ty cs) (xE ad ak) A) (hw : th_wI (dC, dI) (wX cs ad q v g) A s.heap u H locs) {k : Nat} (hk : k < 27) (hl : (Cond.fieldLink own idx "java/lang/String" "value" "[B").before args s = true) (hd : decode cc pc = .ok (.getfield idx, 3)) (kk : W p l e R s m args below meth c H locs cells slots Q (F0 m (pc + 3) ls (.ref (ak (200 + k)) :: rest))) : W p l e R s m args below meth c H locs cells slots Q (F0 m pc ls (.ref (ak (100 + k)) :: rest)) := x_OF C hw ((x_e2 C).2.2.2.1 k hk).2.2.1 hl hd kk
theorem x_scod (C : th_Cx p s m args meth c cc own nL ret (dC, dI) (th_ty cs) (xE ad ak) A) (hw : th_wI (dC, dI) (wX cs ad q v g) A s.heap u H locs) {k : Nat} (hk : k < 27) (hl : (Cond.fieldLink own idx "java/lang/String" "coder" "B").before args s = true) (hd : decode cc pc = .ok (.getfield idx, 3)) (kk : W p l e R s m args below meth c H locs cells slots Q (F0 m (pc + 3) ls (.int 0 :: rest))) : W p l e R s m args below meth c H locs cells slots Q (F0 m pc ls (.ref (ak (100 + k)) :: rest)) := x_OF C hw ((x_e2 C).2.2.2.1 k hk).2.1 hl hd kk
theorem x_src (C : th_Cx p s m args meth c cc own nL ret (dC, dI) (th_ty cs) (xE ad ak) A) (hw : th_wI (dC, dI) (wX cs ad q v g) A s.heap u H locs) {k : Nat} (hk : k < 27) : th_Rc s H "java/lang/String" (ak (100 + k)) := by
  obtain ⟨cell, h1, h2, h3, h4⟩ := ((x_e2 C).2.2.2.1 k hk).1
  have hlt : ak (100 + k) < s.heap.size := (Array.getElem?_eq_some_iff.mp h1).1
  exact ⟨cell, by rw [hw.2.2.2.1 _ hlt h4]; exact h1, h2, h3⟩
theorem x_tok (C : th_Cx p s m args meth c cc own nL ret (dC, dI) (th_ty cs) (xE ad ak) A) (hw : th_wI (dC, dI) (wX cs ad q v g) A s.heap u H locs) (hl : (Cond.fieldLink own idx "ThreadHouse$Reader" "TOKENS" "[LThreadHouse$Token;").before args s = true) (hd : decode cc pc = .ok (.getstatic idx, 3)) (kk : W p l e R s m args below meth c H locs cells slots Q (F0 m (pc + 3) ls (.ref (ak 0) :: rest))) : W p l e R s m args below meth c H locs cells slots Q (F0 m pc ls rest) := va_gets C.1 C.2.1 (x_e2 C).1 hw.2.2 C.2.2.2.1 hl (fun _ h => h) hd kk
theorem x_cmp (C : th_Cx p s m args meth c cc own nL ret (dC, dI) (th_ty cs) (xE ad ak) A) (hw : th_wI (dC, dI) (wX cs ad q v g) A s.heap u H locs) (hl : (Cond.fieldLink own idx "java/lang/String" "COMPACT_STRINGS" "Z").before args s = true) (hd : decode cc pc = .ok (.getstatic idx, 3)) (kk : W p l e R s m args below meth c H locs cells slots Q (F0 m (pc + 3) ls (.int 1 :: rest))) : W p l e R s m args below meth c H locs cells slots Q (F0 m pc ls rest) := va_gets C.1 C.2.1 (x_e2 C).2.2.2.2.1 hw.2.2 C.2.2.2.1 hl (fun _ h => h) hd kk
theorem x_fmt (C : th_Cx p s m args meth c cc own nL ret (dC, dI) (th_ty cs) (xE ad ak) A) (hw : th_wI (dC, dI) (wX cs ad q v g) A s.heap u H locs) (hl : (Cond.fieldLink own idx "jdk/internal/util/Preconditions" "SIOOBE_FORMATTER" "Ljava/util/function/BiFunction;").before args s = true) (hd : decode cc pc = .ok (.getstatic idx, 3)) (kk : ∀ r : Option Nat, W p l e R s m args below meth c H locs cells slots Q (F0 m (pc + 3) ls (va_rf r :: rest))) : W p l e R s m args below meth c H locs cells slots Q (F0 m pc ls rest) := by
  rcases (x_e2 C).2.2.2.2.2 with h | ⟨t, h⟩
  · exact va_gets C.1 C.2.1 h hw.2.2 C.2.2.2.1 hl (fun _ h => h) hd (kk none)
  · exact va_gets C.1 C.2.1 h hw.2.2 C.2.2.2.1 hl (fun _ h => h) hd (kk (some t))
theorem x_sln (C : th_Cx p s m args meth c cc own nL ret (dC, dI) (th_ty cs) (xE ad ak) A) (hw : th_wI (dC, dI) (wX cs ad q v g) A s.heap u H locs) {k : Nat} (hk : k < 27) (hd : decode cc pc = .ok (.arraylength, 1)) (kk : W p l e R s m args below meth c H locs cells slots Q (F0 m (pc + 1) ls (.int (nI (xs_len k)) :: rest))) : W p l e R s m args below meth c H locs cells slots Q (F0 m pc ls (.ref (ak (200 + k)) :: rest)) := va_tlen C.1 C.2.1 ((x_e2 C).2.2.2.1 k hk).2.2.2 hw.2.2 rfl hd kk
theorem x_tln (C : th_Cx p s m args meth c cc own nL ret (dC, dI) (th_ty cs) (xE ad ak) A) (hw : th_wI (dC, dI) (wX cs ad q v g) A s.heap u H locs) (hd : decode cc pc = .ok (.arraylength, 1)) (kk : W p l e R s m args below meth c H locs cells slots Q (F0 m (pc + 1) ls (.int (27 : Int32) :: rest))) : W p l e R s m args below meth c H locs cells slots Q (F0 m pc ls (.ref (ak 0) :: rest)) := va_tlen C.1 C.2.1 (x_e2 C).2.1 hw.2.2 (by decide) hd kk
theorem x_sch (C : th_Cx p s m args meth c cc own nL ret (dC, dI) (th_ty cs) (xE ad ak) A) (hw : th_wI (dC, dI) (wX cs ad q v g) A s.heap u H locs) {k : Nat} {i : Int32} (hk : k < 27) (hin : vp_in i (xs_len k)) (hd : decode cc pc = .ok (.baload, 1)) (kk : ∀ y : Int32, y = xs_chr k i.toNatClampNeg → W p l e R s m args below meth c H locs cells slots Q (F0 m (pc + 1) ls (.int y :: rest))) : W p l e R s m args below meth c H locs cells slots Q (F0 m pc ls (.int i :: .ref (ak (200 + k)) :: rest)) := va_tb C.1 C.2.1 ((x_e2 C).2.2.2.1 k hk).2.2.2 hw.2.2 hin rfl hd (kk _ rfl)
theorem x_tld (C : th_Cx p s m args meth c cc own nL ret (dC, dI) (th_ty cs) (xE ad ak) A) (hw : th_wI (dC, dI) (wX cs ad q v g) A s.heap u H locs) {i : Int32} (hin : vp_in i 27) (hd : decode cc pc = .ok (.aaload, 1)) (kk : W p l e R s m args below meth c H locs cells slots Q (F0 m (pc + 1) ls (va_re ad (some i.toNatClampNeg) :: rest))) : W p l e R s m args below meth c H locs cells slots Q (F0 m pc ls (.int i :: .ref (ak 0) :: rest)) := by
  exact vb_tq C.1 C.2.1 (x_e2 C).2.1 hw.2.2 hin rfl hd kk
end
def xs_tx (k : Nat) : Nat := if 300 ≤ k ∧ k < 400 then k + 100 else if 400 ≤ k ∧ k < 500 then k - 100 else k
/-- the two Texts change places -/
def xw_399_499 (u : xs_St) : xs_St := (((fun k => u.1.1 (xs_tx k)), u.1.2.1, (fun k => u.1.2.2.1 (xs_tx k)), u.1.2.2.2), u.2.1, (fun k => u.2.2.1 (xs_tx k)), u.2.2.2)
def xw_c1 (cs : Nat → ClassId) (ad q v g9 : Nat → Nat) (u : xs_St) : va_W := [((q 99), .inr (10, [.ref (q 199), .ref (q 299), .ref (q 599), .ref (q 699), .ref (q 799), .ref (q 899), .ref (q 999), .ref (q 7), .int (u.1.1 8), .ref (g9 399), .ref (g9 10), .ref (g9 11), .int (u.1.1 12)])),
  ((q 7), .inl (cs 1, (48, .inl (u.1.2.2.1 7)))),
  ((v 10), .inl (cs 2, (217, .inr (.inl (u.1.2.2.2 10))))),
  ((v 11), .inl (cs 2, (217, .inr (.inl (u.1.2.2.2 11))))),
  ((q 199), .inr (6, [.ref (q 100), .int (u.1.1 101)])),
  ((q 100), .inl (cs 0, (440, .inl (u.1.2.2.1 100)))),
  ((q 299), .inr (4, [.ref (q 200), .ref (q 201), .ref (q 202), .int (u.1.1 203), .ref (g9 499), .int (u.1.1 205), va_re ad (u.2.1 206), .int (u.1.1 207), .int (u.1.1 208), .int (u.1.1 209), .int (u.1.1 210), .int (u.1.1 211), .int (u.1.1 212), .int (u.1.1 213)])),
  ((q 200), .inl (cs 5, (401, .inr (.inr (.inr (.inr (fun i => (u.2.2.1 200 i).map ad))))))),
  ((q 201), .inl (cs 1, (401, .inl (u.1.2.2.1 201)))),
  ((q 202), .inl (cs 1, (401, .inl (u.1.2.2.1 202)))),
  ((v 499), .inr (7, [.int (u.1.1 400), .int (u.1.1 401), .int (u.1.1 402), .int (u.1.1 403), .int (u.1.1 404), .int (u.1.1 405), .int (u.1.1 406), .ref (g9 407), .ref (g9 408), .ref (g9 409), .ref (g9 410), .ref (g9 411), .ref (g9 412), .ref (g9 413), .ref (g9 414)])),
  ((v 307), .inl (cs 3, (48, .inl (u.1.2.2.1 307)))),
  ((v 308), .inl (cs 1, (48, .inl (u.1.2.2.1 308)))),
  ((v 309), .inl (cs 1, (6, .inl (u.1.2.2.1 309)))),
  ((v 310), .inl (cs 1, (6, .inl (u.1.2.2.1 310)))),
  ((v 311), .inl (cs 5, (80, .inr (.inr (.inr (.inr (fun i => (u.2.2.1 311 i).map ad))))))),
  ((v 312), .inl (cs 5, (80, .inr (.inr (.inr (.inr (fun i => (u.2.2.1 312 i).map ad))))))),
  ((v 313), .inl (cs 1, (80, .inl (u.1.2.2.1 313)))),
  ((v 314), .inl (cs 1, (80, .inl (u.1.2.2.1 314)))),
  ((v 399), .inr (7, [.int (u.1.1 300), .int (u.1.1 301), .int (u.1.1 302), .int (u.1.1 303), .int (u.1.1 304), .int (u.1.1 305), .int (u.1.1 306), .ref (g9 307), .ref (g9 308), .ref (g9 309), .ref (g9 310), .ref (g9 311), .ref (g9 312), .ref (g9 313), .ref (g9 314)])),
  ((v 407), .inl (cs 3, (48, .inl (u.1.2.2.1 407)))),
  ((v 408), .inl (cs 1, (48, .inl (u.1.2.2.1 408)))),
  ((v 409), .inl (cs 1, (6, .inl (u.1.2.2.1 409)))),
  ((v 410), .inl (cs 1, (6, .inl (u.1.2.2.1 410)))),
  ((v 411), .inl (cs 5, (80, .inr (.inr (.inr (.inr (fun i => (u.2.2.1 411 i).map ad))))))),
  ((v 412), .inl (cs 5, (80, .inr (.inr (.inr (.inr (fun i => (u.2.2.1 412 i).map ad))))))),
  ((v 413), .inl (cs 1, (80, .inl (u.1.2.2.1 413)))),
  ((v 414), .inl (cs 1, (80, .inl (u.1.2.2.1 414)))),
  ((q 599), .inr (0, [.ref (q 500), .ref (q 501), va_rf (u.2.1 502), .int (u.1.1 503), .int (u.1.1 504), .int (u.1.1 505)])),
  ((q 500), .inl (cs 4, (100, .inr (.inr (.inr (.inr (u.2.2.1 500))))))),
  ((q 501), .inl (cs 4, (40, .inr (.inr (.inr (.inr (u.2.2.1 501))))))),
  ((q 699), .inr (8, [.ref (q 600), .ref (q 601), .int (u.1.1 602), .ref (g9 603), .ref (g9 604), .ref (q 605), .ref (q 606), .ref (g9 607), .ref (g9 608)])),
  ((q 600), .inl (cs 1, (48, .inl (u.1.2.2.1 600)))),
  ((q 601), .inl (cs 1, (48, .inl (u.1.2.2.1 601)))),
  ((v 603), .inl (cs 2, (961, .inr (.inl (u.1.2.2.2 603))))),
  ((v 604), .inl (cs 2, (961, .inr (.inl (u.1.2.2.2 604))))),
  ((q 605), .inl (cs 2, (32, .inr (.inl (u.1.2.2.2 605))))),
  ((q 606), .inl (cs 1, (1488, .inl (u.1.2.2.1 606)))),
  ((v 607), .inl (cs 1, (31, .inl (u.1.2.2.1 607)))),
  ((v 608), .inl (cs 1, (31, .inl (u.1.2.2.1 608)))),
  ((q 799), .inr (1, [.ref (q 700), .ref (q 701), .ref (q 702), .ref (q 703), .ref (q 704), .ref (q 705), .ref (q 706), .ref (q 707), .int (u.1.1 708)])),
  ((q 700), .inl (cs 1, (6, .inl (u.1.2.2.1 700)))),
  ((q 701), .inl (cs 1, (54, .inl (u.1.2.2.1 701)))),
  ((q 702), .inl (cs 1, (49, .inl (u.1.2.2.1 702)))),
  ((q 703), .inl (cs 1, (48, .inl (u.1.2.2.1 703)))),
  ((q 704), .inl (cs 1, (48, .inl (u.1.2.2.1 704)))),
  ((q 705), .inl (cs 1, (48, .inl (u.1.2.2.1 705)))),
  ((q 706), .inl (cs 1, (48, .inl (u.1.2.2.1 706)))),
  ((q 707), .inl (cs 1, (48, .inl (u.1.2.2.1 707)))),
  ((q 899), .inr (9, [.ref (q 800), .int (u.1.1 801), .ref (q 802), .ref (g9 803), .ref (g9 804)])),
  ((q 800), .inl (cs 1, (40, .inl (u.1.2.2.1 800)))),
  ((q 802), .inl (cs 0, (1920, .inl (u.1.2.2.1 802)))),
  ((v 803), .inl (cs 1, (48, .inl (u.1.2.2.1 803)))),
  ((v 804), .inl (cs 1, (48, .inl (u.1.2.2.1 804)))),
  ((q 999), .inr (3, [.ref (q 900), .int (u.1.1 901), .ref (q 902)])),
  ((q 900), .inl (cs 1, (48, .inl (u.1.2.2.1 900)))),
  ((q 902), .inl (cs 1, (2401, .inl (u.1.2.2.1 902))))] ++ va_pl u.2.2.2.1 (xd_E cs u.2.2.2)
def xw_c2 (cs : Nat → ClassId) (ad q v g9 : Nat → Nat) (u : xs_St) : va_W := [((q 99), .inr (10, [.ref (q 199), .ref (q 299), .ref (q 599), .ref (q 699), .ref (q 799), .ref (q 899), .ref (q 999), .ref (q 7), .int (u.1.1 8), .ref (g9 399), .ref (g9 10), .ref (g9 11), .int (u.1.1 12)])),
  ((q 7), .inl (cs 1, (48, .inl (u.1.2.2.1 7)))),
  ((v 10), .inl (cs 2, (217, .inr (.inl (u.1.2.2.2 10))))),
  ((v 11), .inl (cs 2, (217, .inr (.inl (u.1.2.2.2 11))))),
  ((q 199), .inr (6, [.ref (q 100), .int (u.1.1 101)])),
  ((q 100), .inl (cs 0, (440, .inl (u.1.2.2.1 100)))),
  ((q 299), .inr (4, [.ref (q 200), .ref (q 201), .ref (q 202), .int (u.1.1 203), .ref (g9 499), .int (u.1.1 205), va_re ad (u.2.1 206), .int (u.1.1 207), .int (u.1.1 208), .int (u.1.1 209), .int (u.1.1 210), .int (u.1.1 211), .int (u.1.1 212), .int (u.1.1 213)])),
  ((q 200), .inl (cs 5, (401, .inr (.inr (.inr (.inr (fun i => (u.2.2.1 200 i).map ad))))))),
  ((q 201), .inl (cs 1, (401, .inl (u.1.2.2.1 201)))),
  ((q 202), .inl (cs 1, (401, .inl (u.1.2.2.1 202)))),
  ((v 499), .inr (7, [.int (u.1.1 400), .int (u.1.1 401), .int (u.1.1 402), .int (u.1.1 403), .int (u.1.1 404), .int (u.1.1 405), .int (u.1.1 406), .ref (g9 407), .ref (g9 408), .ref (g9 409), .ref (g9 410), .ref (g9 411), .ref (g9 412), .ref (g9 413), .ref (g9 414)])),
  ((v 407), .inl (cs 3, (48, .inl (u.1.2.2.1 407)))),
  ((v 308), .inl (cs 1, (48, .inl (u.1.2.2.1 308)))),
  ((v 309), .inl (cs 1, (6, .inl (u.1.2.2.1 309)))),
  ((v 310), .inl (cs 1, (6, .inl (u.1.2.2.1 310)))),
  ((v 311), .inl (cs 5, (80, .inr (.inr (.inr (.inr (fun i => (u.2.2.1 311 i).map ad))))))),
  ((v 312), .inl (cs 5, (80, .inr (.inr (.inr (.inr (fun i => (u.2.2.1 312 i).map ad))))))),
  ((v 313), .inl (cs 1, (80, .inl (u.1.2.2.1 313)))),
  ((v 314), .inl (cs 1, (80, .inl (u.1.2.2.1 314)))),
  ((v 399), .inr (7, [.int (u.1.1 300), .int (u.1.1 301), .int (u.1.1 302), .int (u.1.1 303), .int (u.1.1 304), .int (u.1.1 305), .int (u.1.1 306), .ref (g9 307), .ref (g9 308), .ref (g9 309), .ref (g9 310), .ref (g9 311), .ref (g9 312), .ref (g9 313), .ref (g9 314)])),
  ((v 307), .inl (cs 3, (48, .inl (u.1.2.2.1 307)))),
  ((v 408), .inl (cs 1, (48, .inl (u.1.2.2.1 408)))),
  ((v 409), .inl (cs 1, (6, .inl (u.1.2.2.1 409)))),
  ((v 410), .inl (cs 1, (6, .inl (u.1.2.2.1 410)))),
  ((v 411), .inl (cs 5, (80, .inr (.inr (.inr (.inr (fun i => (u.2.2.1 411 i).map ad))))))),
  ((v 412), .inl (cs 5, (80, .inr (.inr (.inr (.inr (fun i => (u.2.2.1 412 i).map ad))))))),
  ((v 413), .inl (cs 1, (80, .inl (u.1.2.2.1 413)))),
  ((v 414), .inl (cs 1, (80, .inl (u.1.2.2.1 414)))),
  ((q 599), .inr (0, [.ref (q 500), .ref (q 501), va_rf (u.2.1 502), .int (u.1.1 503), .int (u.1.1 504), .int (u.1.1 505)])),
  ((q 500), .inl (cs 4, (100, .inr (.inr (.inr (.inr (u.2.2.1 500))))))),
  ((q 501), .inl (cs 4, (40, .inr (.inr (.inr (.inr (u.2.2.1 501))))))),
  ((q 699), .inr (8, [.ref (q 600), .ref (q 601), .int (u.1.1 602), .ref (g9 603), .ref (g9 604), .ref (q 605), .ref (q 606), .ref (g9 607), .ref (g9 608)])),
  ((q 600), .inl (cs 1, (48, .inl (u.1.2.2.1 600)))),
  ((q 601), .inl (cs 1, (48, .inl (u.1.2.2.1 601)))),
  ((v 603), .inl (cs 2, (961, .inr (.inl (u.1.2.2.2 603))))),
  ((v 604), .inl (cs 2, (961, .inr (.inl (u.1.2.2.2 604))))),
  ((q 605), .inl (cs 2, (32, .inr (.inl (u.1.2.2.2 605))))),
  ((q 606), .inl (cs 1, (1488, .inl (u.1.2.2.1 606)))),
  ((v 607), .inl (cs 1, (31, .inl (u.1.2.2.1 607)))),
  ((v 608), .inl (cs 1, (31, .inl (u.1.2.2.1 608)))),
  ((q 799), .inr (1, [.ref (q 700), .ref (q 701), .ref (q 702), .ref (q 703), .ref (q 704), .ref (q 705), .ref (q 706), .ref (q 707), .int (u.1.1 708)])),
  ((q 700), .inl (cs 1, (6, .inl (u.1.2.2.1 700)))),
  ((q 701), .inl (cs 1, (54, .inl (u.1.2.2.1 701)))),
  ((q 702), .inl (cs 1, (49, .inl (u.1.2.2.1 702)))),
  ((q 703), .inl (cs 1, (48, .inl (u.1.2.2.1 703)))),
  ((q 704), .inl (cs 1, (48, .inl (u.1.2.2.1 704)))),
  ((q 705), .inl (cs 1, (48, .inl (u.1.2.2.1 705)))),
  ((q 706), .inl (cs 1, (48, .inl (u.1.2.2.1 706)))),
  ((q 707), .inl (cs 1, (48, .inl (u.1.2.2.1 707)))),
  ((q 899), .inr (9, [.ref (q 800), .int (u.1.1 801), .ref (q 802), .ref (g9 803), .ref (g9 804)])),
  ((q 800), .inl (cs 1, (40, .inl (u.1.2.2.1 800)))),
  ((q 802), .inl (cs 0, (1920, .inl (u.1.2.2.1 802)))),
  ((v 803), .inl (cs 1, (48, .inl (u.1.2.2.1 803)))),
  ((v 804), .inl (cs 1, (48, .inl (u.1.2.2.1 804)))),
  ((q 999), .inr (3, [.ref (q 900), .int (u.1.1 901), .ref (q 902)])),
  ((q 900), .inl (cs 1, (48, .inl (u.1.2.2.1 900)))),
  ((q 902), .inl (cs 1, (2401, .inl (u.1.2.2.1 902))))] ++ va_pl u.2.2.2.1 (xd_E cs u.2.2.2)
def xw_c3 (cs : Nat → ClassId) (ad q v g9 : Nat → Nat) (u : xs_St) : va_W := [((q 99), .inr (10, [.ref (q 199), .ref (q 299), .ref (q 599), .ref (q 699), .ref (q 799), .ref (q 899), .ref (q 999), .ref (q 7), .int (u.1.1 8), .ref (g9 399), .ref (g9 10), .ref (g9 11), .int (u.1.1 12)])),
  ((q 7), .inl (cs 1, (48, .inl (u.1.2.2.1 7)))),
  ((v 10), .inl (cs 2, (217, .inr (.inl (u.1.2.2.2 10))))),
  ((v 11), .inl (cs 2, (217, .inr (.inl (u.1.2.2.2 11))))),
  ((q 199), .inr (6, [.ref (q 100), .int (u.1.1 101)])),
  ((q 100), .inl (cs 0, (440, .inl (u.1.2.2.1 100)))),
  ((q 299), .inr (4, [.ref (q 200), .ref (q 201), .ref (q 202), .int (u.1.1 203), .ref (g9 499), .int (u.1.1 205), va_re ad (u.2.1 206), .int (u.1.1 207), .int (u.1.1 208), .int (u.1.1 209), .int (u.1.1 210), .int (u.1.1 211), .int (u.1.1 212), .int (u.1.1 213)])),
  ((q 200), .inl (cs 5, (401, .inr (.inr (.inr (.inr (fun i => (u.2.2.1 200 i).map ad))))))),
  ((q 201), .inl (cs 1, (401, .inl (u.1.2.2.1 201)))),
  ((q 202), .inl (cs 1, (401, .inl (u.1.2.2.1 202)))),
  ((v 499), .inr (7, [.int (u.1.1 400), .int (u.1.1 401), .int (u.1.1 402), .int (u.1.1 403), .int (u.1.1 404), .int (u.1.1 405), .int (u.1.1 406), .ref (g9 407), .ref (g9 408), .ref (g9 409), .ref (g9 410), .ref (g9 411), .ref (g9 412), .ref (g9 413), .ref (g9 414)])),
  ((v 407), .inl (cs 3, (48, .inl (u.1.2.2.1 407)))),
  ((v 408), .inl (cs 1, (48, .inl (u.1.2.2.1 408)))),
  ((v 309), .inl (cs 1, (6, .inl (u.1.2.2.1 309)))),
  ((v 310), .inl (cs 1, (6, .inl (u.1.2.2.1 310)))),
  ((v 311), .inl (cs 5, (80, .inr (.inr (.inr (.inr (fun i => (u.2.2.1 311 i).map ad))))))),
  ((v 312), .inl (cs 5, (80, .inr (.inr (.inr (.inr (fun i => (u.2.2.1 312 i).map ad))))))),
  ((v 313), .inl (cs 1, (80, .inl (u.1.2.2.1 313)))),
  ((v 314), .inl (cs 1, (80, .inl (u.1.2.2.1 314)))),
  ((v 399), .inr (7, [.int (u.1.1 300), .int (u.1.1 301), .int (u.1.1 302), .int (u.1.1 303), .int (u.1.1 304), .int (u.1.1 305), .int (u.1.1 306), .ref (g9 307), .ref (g9 308), .ref (g9 309), .ref (g9 310), .ref (g9 311), .ref (g9 312), .ref (g9 313), .ref (g9 314)])),
  ((v 307), .inl (cs 3, (48, .inl (u.1.2.2.1 307)))),
  ((v 308), .inl (cs 1, (48, .inl (u.1.2.2.1 308)))),
  ((v 409), .inl (cs 1, (6, .inl (u.1.2.2.1 409)))),
  ((v 410), .inl (cs 1, (6, .inl (u.1.2.2.1 410)))),
  ((v 411), .inl (cs 5, (80, .inr (.inr (.inr (.inr (fun i => (u.2.2.1 411 i).map ad))))))),
  ((v 412), .inl (cs 5, (80, .inr (.inr (.inr (.inr (fun i => (u.2.2.1 412 i).map ad))))))),
  ((v 413), .inl (cs 1, (80, .inl (u.1.2.2.1 413)))),
  ((v 414), .inl (cs 1, (80, .inl (u.1.2.2.1 414)))),
  ((q 599), .inr (0, [.ref (q 500), .ref (q 501), va_rf (u.2.1 502), .int (u.1.1 503), .int (u.1.1 504), .int (u.1.1 505)])),
  ((q 500), .inl (cs 4, (100, .inr (.inr (.inr (.inr (u.2.2.1 500))))))),
  ((q 501), .inl (cs 4, (40, .inr (.inr (.inr (.inr (u.2.2.1 501))))))),
  ((q 699), .inr (8, [.ref (q 600), .ref (q 601), .int (u.1.1 602), .ref (g9 603), .ref (g9 604), .ref (q 605), .ref (q 606), .ref (g9 607), .ref (g9 608)])),
  ((q 600), .inl (cs 1, (48, .inl (u.1.2.2.1 600)))),
  ((q 601), .inl (cs 1, (48, .inl (u.1.2.2.1 601)))),
  ((v 603), .inl (cs 2, (961, .inr (.inl (u.1.2.2.2 603))))),
  ((v 604), .inl (cs 2, (961, .inr (.inl (u.1.2.2.2 604))))),
  ((q 605), .inl (cs 2, (32, .inr (.inl (u.1.2.2.2 605))))),
  ((q 606), .inl (cs 1, (1488, .inl (u.1.2.2.1 606)))),
  ((v 607), .inl (cs 1, (31, .inl (u.1.2.2.1 607)))),
  ((v 608), .inl (cs 1, (31, .inl (u.1.2.2.1 608)))),
  ((q 799), .inr (1, [.ref (q 700), .ref (q 701), .ref (q 702), .ref (q 703), .ref (q 704), .ref (q 705), .ref (q 706), .ref (q 707), .int (u.1.1 708)])),
  ((q 700), .inl (cs 1, (6, .inl (u.1.2.2.1 700)))),
  ((q 701), .inl (cs 1, (54, .inl (u.1.2.2.1 701)))),
  ((q 702), .inl (cs 1, (49, .inl (u.1.2.2.1 702)))),
  ((q 703), .inl (cs 1, (48, .inl (u.1.2.2.1 703)))),
  ((q 704), .inl (cs 1, (48, .inl (u.1.2.2.1 704)))),
  ((q 705), .inl (cs 1, (48, .inl (u.1.2.2.1 705)))),
  ((q 706), .inl (cs 1, (48, .inl (u.1.2.2.1 706)))),
  ((q 707), .inl (cs 1, (48, .inl (u.1.2.2.1 707)))),
  ((q 899), .inr (9, [.ref (q 800), .int (u.1.1 801), .ref (q 802), .ref (g9 803), .ref (g9 804)])),
  ((q 800), .inl (cs 1, (40, .inl (u.1.2.2.1 800)))),
  ((q 802), .inl (cs 0, (1920, .inl (u.1.2.2.1 802)))),
  ((v 803), .inl (cs 1, (48, .inl (u.1.2.2.1 803)))),
  ((v 804), .inl (cs 1, (48, .inl (u.1.2.2.1 804)))),
  ((q 999), .inr (3, [.ref (q 900), .int (u.1.1 901), .ref (q 902)])),
  ((q 900), .inl (cs 1, (48, .inl (u.1.2.2.1 900)))),
  ((q 902), .inl (cs 1, (2401, .inl (u.1.2.2.1 902))))] ++ va_pl u.2.2.2.1 (xd_E cs u.2.2.2)
def xw_c4 (cs : Nat → ClassId) (ad q v g9 : Nat → Nat) (u : xs_St) : va_W := [((q 99), .inr (10, [.ref (q 199), .ref (q 299), .ref (q 599), .ref (q 699), .ref (q 799), .ref (q 899), .ref (q 999), .ref (q 7), .int (u.1.1 8), .ref (g9 399), .ref (g9 10), .ref (g9 11), .int (u.1.1 12)])),
  ((q 7), .inl (cs 1, (48, .inl (u.1.2.2.1 7)))),
  ((v 10), .inl (cs 2, (217, .inr (.inl (u.1.2.2.2 10))))),
  ((v 11), .inl (cs 2, (217, .inr (.inl (u.1.2.2.2 11))))),
  ((q 199), .inr (6, [.ref (q 100), .int (u.1.1 101)])),
  ((q 100), .inl (cs 0, (440, .inl (u.1.2.2.1 100)))),
  ((q 299), .inr (4, [.ref (q 200), .ref (q 201), .ref (q 202), .int (u.1.1 203), .ref (g9 499), .int (u.1.1 205), va_re ad (u.2.1 206), .int (u.1.1 207), .int (u.1.1 208), .int (u.1.1 209), .int (u.1.1 210), .int (u.1.1 211), .int (u.1.1 212), .int (u.1.1 213)])),
  ((q 200), .inl (cs 5, (401, .inr (.inr (.inr (.inr (fun i => (u.2.2.1 200 i).map ad))))))),
  ((q 201), .inl (cs 1, (401, .inl (u.1.2.2.1 201)))),
  ((q 202), .inl (cs 1, (401, .inl (u.1.2.2.1 202)))),
  ((v 499), .inr (7, [.int (u.1.1 400), .int (u.1.1 401), .int (u.1.1 402), .int (u.1.1 403), .int (u.1.1 404), .int (u.1.1 405), .int (u.1.1 406), .ref (g9 407), .ref (g9 408), .ref (g9 409), .ref (g9 410), .ref (g9 411), .ref (g9 412), .ref (g9 413), .ref (g9 414)])),
  ((v 407), .inl (cs 3, (48, .inl (u.1.2.2.1 407)))),
  ((v 408), .inl (cs 1, (48, .inl (u.1.2.2.1 408)))),
  ((v 409), .inl (cs 1, (6, .inl (u.1.2.2.1 409)))),
  ((v 310), .inl (cs 1, (6, .inl (u.1.2.2.1 310)))),
  ((v 311), .inl (cs 5, (80, .inr (.inr (.inr (.inr (fun i => (u.2.2.1 311 i).map ad))))))),
  ((v 312), .inl (cs 5, (80, .inr (.inr (.inr (.inr (fun i => (u.2.2.1 312 i).map ad))))))),
  ((v 313), .inl (cs 1, (80, .inl (u.1.2.2.1 313)))),
  ((v 314), .inl (cs 1, (80, .inl (u.1.2.2.1 314)))),
  ((v 399), .inr (7, [.int (u.1.1 300), .int (u.1.1 301), .int (u.1.1 302), .int (u.1.1 303), .int (u.1.1 304), .int (u.1.1 305), .int (u.1.1 306), .ref (g9 307), .ref (g9 308), .ref (g9 309), .ref (g9 310), .ref (g9 311), .ref (g9 312), .ref (g9 313), .ref (g9 314)])),
  ((v 307), .inl (cs 3, (48, .inl (u.1.2.2.1 307)))),
  ((v 308), .inl (cs 1, (48, .inl (u.1.2.2.1 308)))),
  ((v 309), .inl (cs 1, (6, .inl (u.1.2.2.1 309)))),
  ((v 410), .inl (cs 1, (6, .inl (u.1.2.2.1 410)))),
  ((v 411), .inl (cs 5, (80, .inr (.inr (.inr (.inr (fun i => (u.2.2.1 411 i).map ad))))))),
  ((v 412), .inl (cs 5, (80, .inr (.inr (.inr (.inr (fun i => (u.2.2.1 412 i).map ad))))))),
  ((v 413), .inl (cs 1, (80, .inl (u.1.2.2.1 413)))),
  ((v 414), .inl (cs 1, (80, .inl (u.1.2.2.1 414)))),
  ((q 599), .inr (0, [.ref (q 500), .ref (q 501), va_rf (u.2.1 502), .int (u.1.1 503), .int (u.1.1 504), .int (u.1.1 505)])),
  ((q 500), .inl (cs 4, (100, .inr (.inr (.inr (.inr (u.2.2.1 500))))))),
  ((q 501), .inl (cs 4, (40, .inr (.inr (.inr (.inr (u.2.2.1 501))))))),
  ((q 699), .inr (8, [.ref (q 600), .ref (q 601), .int (u.1.1 602), .ref (g9 603), .ref (g9 604), .ref (q 605), .ref (q 606), .ref (g9 607), .ref (g9 608)])),
  ((q 600), .inl (cs 1, (48, .inl (u.1.2.2.1 600)))),
  ((q 601), .inl (cs 1, (48, .inl (u.1.2.2.1 601)))),
  ((v 603), .inl (cs 2, (961, .inr (.inl (u.1.2.2.2 603))))),
  ((v 604), .inl (cs 2, (961, .inr (.inl (u.1.2.2.2 604))))),
  ((q 605), .inl (cs 2, (32, .inr (.inl (u.1.2.2.2 605))))),
  ((q 606), .inl (cs 1, (1488, .inl (u.1.2.2.1 606)))),
  ((v 607), .inl (cs 1, (31, .inl (u.1.2.2.1 607)))),
  ((v 608), .inl (cs 1, (31, .inl (u.1.2.2.1 608)))),
  ((q 799), .inr (1, [.ref (q 700), .ref (q 701), .ref (q 702), .ref (q 703), .ref (q 704), .ref (q 705), .ref (q 706), .ref (q 707), .int (u.1.1 708)])),
  ((q 700), .inl (cs 1, (6, .inl (u.1.2.2.1 700)))),
  ((q 701), .inl (cs 1, (54, .inl (u.1.2.2.1 701)))),
  ((q 702), .inl (cs 1, (49, .inl (u.1.2.2.1 702)))),
  ((q 703), .inl (cs 1, (48, .inl (u.1.2.2.1 703)))),
  ((q 704), .inl (cs 1, (48, .inl (u.1.2.2.1 704)))),
  ((q 705), .inl (cs 1, (48, .inl (u.1.2.2.1 705)))),
  ((q 706), .inl (cs 1, (48, .inl (u.1.2.2.1 706)))),
  ((q 707), .inl (cs 1, (48, .inl (u.1.2.2.1 707)))),
  ((q 899), .inr (9, [.ref (q 800), .int (u.1.1 801), .ref (q 802), .ref (g9 803), .ref (g9 804)])),
  ((q 800), .inl (cs 1, (40, .inl (u.1.2.2.1 800)))),
  ((q 802), .inl (cs 0, (1920, .inl (u.1.2.2.1 802)))),
  ((v 803), .inl (cs 1, (48, .inl (u.1.2.2.1 803)))),
  ((v 804), .inl (cs 1, (48, .inl (u.1.2.2.1 804)))),
  ((q 999), .inr (3, [.ref (q 900), .int (u.1.1 901), .ref (q 902)])),
  ((q 900), .inl (cs 1, (48, .inl (u.1.2.2.1 900)))),
  ((q 902), .inl (cs 1, (2401, .inl (u.1.2.2.1 902))))] ++ va_pl u.2.2.2.1 (xd_E cs u.2.2.2)
def xw_c5 (cs : Nat → ClassId) (ad q v g9 : Nat → Nat) (u : xs_St) : va_W := [((q 99), .inr (10, [.ref (q 199), .ref (q 299), .ref (q 599), .ref (q 699), .ref (q 799), .ref (q 899), .ref (q 999), .ref (q 7), .int (u.1.1 8), .ref (g9 399), .ref (g9 10), .ref (g9 11), .int (u.1.1 12)])),
  ((q 7), .inl (cs 1, (48, .inl (u.1.2.2.1 7)))),
  ((v 10), .inl (cs 2, (217, .inr (.inl (u.1.2.2.2 10))))),
  ((v 11), .inl (cs 2, (217, .inr (.inl (u.1.2.2.2 11))))),
  ((q 199), .inr (6, [.ref (q 100), .int (u.1.1 101)])),
  ((q 100), .inl (cs 0, (440, .inl (u.1.2.2.1 100)))),
  ((q 299), .inr (4, [.ref (q 200), .ref (q 201), .ref (q 202), .int (u.1.1 203), .ref (g9 499), .int (u.1.1 205), va_re ad (u.2.1 206), .int (u.1.1 207), .int (u.1.1 208), .int (u.1.1 209), .int (u.1.1 210), .int (u.1.1 211), .int (u.1.1 212), .int (u.1.1 213)])),
  ((q 200), .inl (cs 5, (401, .inr (.inr (.inr (.inr (fun i => (u.2.2.1 200 i).map ad))))))),
  ((q 201), .inl (cs 1, (401, .inl (u.1.2.2.1 201)))),
  ((q 202), .inl (cs 1, (401, .inl (u.1.2.2.1 202)))),
  ((v 499), .inr (7, [.int (u.1.1 400), .int (u.1.1 401), .int (u.1.1 402), .int (u.1.1 403), .int (u.1.1 404), .int (u.1.1 405), .int (u.1.1 406), .ref (g9 407), .ref (g9 408), .ref (g9 409), .ref (g9 410), .ref (g9 411), .ref (g9 412), .ref (g9 413), .ref (g9 414)])),
  ((v 407), .inl (cs 3, (48, .inl (u.1.2.2.1 407)))),
  ((v 408), .inl (cs 1, (48, .inl (u.1.2.2.1 408)))),
  ((v 409), .inl (cs 1, (6, .inl (u.1.2.2.1 409)))),
  ((v 410), .inl (cs 1, (6, .inl (u.1.2.2.1 410)))),
  ((v 311), .inl (cs 5, (80, .inr (.inr (.inr (.inr (fun i => (u.2.2.1 311 i).map ad))))))),
  ((v 312), .inl (cs 5, (80, .inr (.inr (.inr (.inr (fun i => (u.2.2.1 312 i).map ad))))))),
  ((v 313), .inl (cs 1, (80, .inl (u.1.2.2.1 313)))),
  ((v 314), .inl (cs 1, (80, .inl (u.1.2.2.1 314)))),
  ((v 399), .inr (7, [.int (u.1.1 300), .int (u.1.1 301), .int (u.1.1 302), .int (u.1.1 303), .int (u.1.1 304), .int (u.1.1 305), .int (u.1.1 306), .ref (g9 307), .ref (g9 308), .ref (g9 309), .ref (g9 310), .ref (g9 311), .ref (g9 312), .ref (g9 313), .ref (g9 314)])),
  ((v 307), .inl (cs 3, (48, .inl (u.1.2.2.1 307)))),
  ((v 308), .inl (cs 1, (48, .inl (u.1.2.2.1 308)))),
  ((v 309), .inl (cs 1, (6, .inl (u.1.2.2.1 309)))),
  ((v 310), .inl (cs 1, (6, .inl (u.1.2.2.1 310)))),
  ((v 411), .inl (cs 5, (80, .inr (.inr (.inr (.inr (fun i => (u.2.2.1 411 i).map ad))))))),
  ((v 412), .inl (cs 5, (80, .inr (.inr (.inr (.inr (fun i => (u.2.2.1 412 i).map ad))))))),
  ((v 413), .inl (cs 1, (80, .inl (u.1.2.2.1 413)))),
  ((v 414), .inl (cs 1, (80, .inl (u.1.2.2.1 414)))),
  ((q 599), .inr (0, [.ref (q 500), .ref (q 501), va_rf (u.2.1 502), .int (u.1.1 503), .int (u.1.1 504), .int (u.1.1 505)])),
  ((q 500), .inl (cs 4, (100, .inr (.inr (.inr (.inr (u.2.2.1 500))))))),
  ((q 501), .inl (cs 4, (40, .inr (.inr (.inr (.inr (u.2.2.1 501))))))),
  ((q 699), .inr (8, [.ref (q 600), .ref (q 601), .int (u.1.1 602), .ref (g9 603), .ref (g9 604), .ref (q 605), .ref (q 606), .ref (g9 607), .ref (g9 608)])),
  ((q 600), .inl (cs 1, (48, .inl (u.1.2.2.1 600)))),
  ((q 601), .inl (cs 1, (48, .inl (u.1.2.2.1 601)))),
  ((v 603), .inl (cs 2, (961, .inr (.inl (u.1.2.2.2 603))))),
  ((v 604), .inl (cs 2, (961, .inr (.inl (u.1.2.2.2 604))))),
  ((q 605), .inl (cs 2, (32, .inr (.inl (u.1.2.2.2 605))))),
  ((q 606), .inl (cs 1, (1488, .inl (u.1.2.2.1 606)))),
  ((v 607), .inl (cs 1, (31, .inl (u.1.2.2.1 607)))),
  ((v 608), .inl (cs 1, (31, .inl (u.1.2.2.1 608)))),
  ((q 799), .inr (1, [.ref (q 700), .ref (q 701), .ref (q 702), .ref (q 703), .ref (q 704), .ref (q 705), .ref (q 706), .ref (q 707), .int (u.1.1 708)])),
  ((q 700), .inl (cs 1, (6, .inl (u.1.2.2.1 700)))),
  ((q 701), .inl (cs 1, (54, .inl (u.1.2.2.1 701)))),
  ((q 702), .inl (cs 1, (49, .inl (u.1.2.2.1 702)))),
  ((q 703), .inl (cs 1, (48, .inl (u.1.2.2.1 703)))),
  ((q 704), .inl (cs 1, (48, .inl (u.1.2.2.1 704)))),
  ((q 705), .inl (cs 1, (48, .inl (u.1.2.2.1 705)))),
  ((q 706), .inl (cs 1, (48, .inl (u.1.2.2.1 706)))),
  ((q 707), .inl (cs 1, (48, .inl (u.1.2.2.1 707)))),
  ((q 899), .inr (9, [.ref (q 800), .int (u.1.1 801), .ref (q 802), .ref (g9 803), .ref (g9 804)])),
  ((q 800), .inl (cs 1, (40, .inl (u.1.2.2.1 800)))),
  ((q 802), .inl (cs 0, (1920, .inl (u.1.2.2.1 802)))),
  ((v 803), .inl (cs 1, (48, .inl (u.1.2.2.1 803)))),
  ((v 804), .inl (cs 1, (48, .inl (u.1.2.2.1 804)))),
  ((q 999), .inr (3, [.ref (q 900), .int (u.1.1 901), .ref (q 902)])),
  ((q 900), .inl (cs 1, (48, .inl (u.1.2.2.1 900)))),
  ((q 902), .inl (cs 1, (2401, .inl (u.1.2.2.1 902))))] ++ va_pl u.2.2.2.1 (xd_E cs u.2.2.2)
def xw_c6 (cs : Nat → ClassId) (ad q v g9 : Nat → Nat) (u : xs_St) : va_W := [((q 99), .inr (10, [.ref (q 199), .ref (q 299), .ref (q 599), .ref (q 699), .ref (q 799), .ref (q 899), .ref (q 999), .ref (q 7), .int (u.1.1 8), .ref (g9 399), .ref (g9 10), .ref (g9 11), .int (u.1.1 12)])),
  ((q 7), .inl (cs 1, (48, .inl (u.1.2.2.1 7)))),
  ((v 10), .inl (cs 2, (217, .inr (.inl (u.1.2.2.2 10))))),
  ((v 11), .inl (cs 2, (217, .inr (.inl (u.1.2.2.2 11))))),
  ((q 199), .inr (6, [.ref (q 100), .int (u.1.1 101)])),
  ((q 100), .inl (cs 0, (440, .inl (u.1.2.2.1 100)))),
  ((q 299), .inr (4, [.ref (q 200), .ref (q 201), .ref (q 202), .int (u.1.1 203), .ref (g9 499), .int (u.1.1 205), va_re ad (u.2.1 206), .int (u.1.1 207), .int (u.1.1 208), .int (u.1.1 209), .int (u.1.1 210), .int (u.1.1 211), .int (u.1.1 212), .int (u.1.1 213)])),
  ((q 200), .inl (cs 5, (401, .inr (.inr (.inr (.inr (fun i => (u.2.2.1 200 i).map ad))))))),
  ((q 201), .inl (cs 1, (401, .inl (u.1.2.2.1 201)))),
  ((q 202), .inl (cs 1, (401, .inl (u.1.2.2.1 202)))),
  ((v 499), .inr (7, [.int (u.1.1 400), .int (u.1.1 401), .int (u.1.1 402), .int (u.1.1 403), .int (u.1.1 404), .int (u.1.1 405), .int (u.1.1 406), .ref (g9 407), .ref (g9 408), .ref (g9 409), .ref (g9 410), .ref (g9 411), .ref (g9 412), .ref (g9 413), .ref (g9 414)])),
  ((v 407), .inl (cs 3, (48, .inl (u.1.2.2.1 407)))),
  ((v 408), .inl (cs 1, (48, .inl (u.1.2.2.1 408)))),
  ((v 409), .inl (cs 1, (6, .inl (u.1.2.2.1 409)))),
  ((v 410), .inl (cs 1, (6, .inl (u.1.2.2.1 410)))),
  ((v 411), .inl (cs 5, (80, .inr (.inr (.inr (.inr (fun i => (u.2.2.1 411 i).map ad))))))),
  ((v 312), .inl (cs 5, (80, .inr (.inr (.inr (.inr (fun i => (u.2.2.1 312 i).map ad))))))),
  ((v 313), .inl (cs 1, (80, .inl (u.1.2.2.1 313)))),
  ((v 314), .inl (cs 1, (80, .inl (u.1.2.2.1 314)))),
  ((v 399), .inr (7, [.int (u.1.1 300), .int (u.1.1 301), .int (u.1.1 302), .int (u.1.1 303), .int (u.1.1 304), .int (u.1.1 305), .int (u.1.1 306), .ref (g9 307), .ref (g9 308), .ref (g9 309), .ref (g9 310), .ref (g9 311), .ref (g9 312), .ref (g9 313), .ref (g9 314)])),
  ((v 307), .inl (cs 3, (48, .inl (u.1.2.2.1 307)))),
  ((v 308), .inl (cs 1, (48, .inl (u.1.2.2.1 308)))),
  ((v 309), .inl (cs 1, (6, .inl (u.1.2.2.1 309)))),
  ((v 310), .inl (cs 1, (6, .inl (u.1.2.2.1 310)))),
  ((v 311), .inl (cs 5, (80, .inr (.inr (.inr (.inr (fun i => (u.2.2.1 311 i).map ad))))))),
  ((v 412), .inl (cs 5, (80, .inr (.inr (.inr (.inr (fun i => (u.2.2.1 412 i).map ad))))))),
  ((v 413), .inl (cs 1, (80, .inl (u.1.2.2.1 413)))),
  ((v 414), .inl (cs 1, (80, .inl (u.1.2.2.1 414)))),
  ((q 599), .inr (0, [.ref (q 500), .ref (q 501), va_rf (u.2.1 502), .int (u.1.1 503), .int (u.1.1 504), .int (u.1.1 505)])),
  ((q 500), .inl (cs 4, (100, .inr (.inr (.inr (.inr (u.2.2.1 500))))))),
  ((q 501), .inl (cs 4, (40, .inr (.inr (.inr (.inr (u.2.2.1 501))))))),
  ((q 699), .inr (8, [.ref (q 600), .ref (q 601), .int (u.1.1 602), .ref (g9 603), .ref (g9 604), .ref (q 605), .ref (q 606), .ref (g9 607), .ref (g9 608)])),
  ((q 600), .inl (cs 1, (48, .inl (u.1.2.2.1 600)))),
  ((q 601), .inl (cs 1, (48, .inl (u.1.2.2.1 601)))),
  ((v 603), .inl (cs 2, (961, .inr (.inl (u.1.2.2.2 603))))),
  ((v 604), .inl (cs 2, (961, .inr (.inl (u.1.2.2.2 604))))),
  ((q 605), .inl (cs 2, (32, .inr (.inl (u.1.2.2.2 605))))),
  ((q 606), .inl (cs 1, (1488, .inl (u.1.2.2.1 606)))),
  ((v 607), .inl (cs 1, (31, .inl (u.1.2.2.1 607)))),
  ((v 608), .inl (cs 1, (31, .inl (u.1.2.2.1 608)))),
  ((q 799), .inr (1, [.ref (q 700), .ref (q 701), .ref (q 702), .ref (q 703), .ref (q 704), .ref (q 705), .ref (q 706), .ref (q 707), .int (u.1.1 708)])),
  ((q 700), .inl (cs 1, (6, .inl (u.1.2.2.1 700)))),
  ((q 701), .inl (cs 1, (54, .inl (u.1.2.2.1 701)))),
  ((q 702), .inl (cs 1, (49, .inl (u.1.2.2.1 702)))),
  ((q 703), .inl (cs 1, (48, .inl (u.1.2.2.1 703)))),
  ((q 704), .inl (cs 1, (48, .inl (u.1.2.2.1 704)))),
  ((q 705), .inl (cs 1, (48, .inl (u.1.2.2.1 705)))),
  ((q 706), .inl (cs 1, (48, .inl (u.1.2.2.1 706)))),
  ((q 707), .inl (cs 1, (48, .inl (u.1.2.2.1 707)))),
  ((q 899), .inr (9, [.ref (q 800), .int (u.1.1 801), .ref (q 802), .ref (g9 803), .ref (g9 804)])),
  ((q 800), .inl (cs 1, (40, .inl (u.1.2.2.1 800)))),
  ((q 802), .inl (cs 0, (1920, .inl (u.1.2.2.1 802)))),
  ((v 803), .inl (cs 1, (48, .inl (u.1.2.2.1 803)))),
  ((v 804), .inl (cs 1, (48, .inl (u.1.2.2.1 804)))),
  ((q 999), .inr (3, [.ref (q 900), .int (u.1.1 901), .ref (q 902)])),
  ((q 900), .inl (cs 1, (48, .inl (u.1.2.2.1 900)))),
  ((q 902), .inl (cs 1, (2401, .inl (u.1.2.2.1 902))))] ++ va_pl u.2.2.2.1 (xd_E cs u.2.2.2)
def xw_c7 (cs : Nat → ClassId) (ad q v g9 : Nat → Nat) (u : xs_St) : va_W := [((q 99), .inr (10, [.ref (q 199), .ref (q 299), .ref (q 599), .ref (q 699), .ref (q 799), .ref (q 899), .ref (q 999), .ref (q 7), .int (u.1.1 8), .ref (g9 399), .ref (g9 10), .ref (g9 11), .int (u.1.1 12)])),
  ((q 7), .inl (cs 1, (48, .inl (u.1.2.2.1 7)))),
  ((v 10), .inl (cs 2, (217, .inr (.inl (u.1.2.2.2 10))))),
  ((v 11), .inl (cs 2, (217, .inr (.inl (u.1.2.2.2 11))))),
  ((q 199), .inr (6, [.ref (q 100), .int (u.1.1 101)])),
  ((q 100), .inl (cs 0, (440, .inl (u.1.2.2.1 100)))),
  ((q 299), .inr (4, [.ref (q 200), .ref (q 201), .ref (q 202), .int (u.1.1 203), .ref (g9 499), .int (u.1.1 205), va_re ad (u.2.1 206), .int (u.1.1 207), .int (u.1.1 208), .int (u.1.1 209), .int (u.1.1 210), .int (u.1.1 211), .int (u.1.1 212), .int (u.1.1 213)])),
  ((q 200), .inl (cs 5, (401, .inr (.inr (.inr (.inr (fun i => (u.2.2.1 200 i).map ad))))))),
  ((q 201), .inl (cs 1, (401, .inl (u.1.2.2.1 201)))),
  ((q 202), .inl (cs 1, (401, .inl (u.1.2.2.1 202)))),
  ((v 499), .inr (7, [.int (u.1.1 400), .int (u.1.1 401), .int (u.1.1 402), .int (u.1.1 403), .int (u.1.1 404), .int (u.1.1 405), .int (u.1.1 406), .ref (g9 407), .ref (g9 408), .ref (g9 409), .ref (g9 410), .ref (g9 411), .ref (g9 412), .ref (g9 413), .ref (g9 414)])),
  ((v 407), .inl (cs 3, (48, .inl (u.1.2.2.1 407)))),
  ((v 408), .inl (cs 1, (48, .inl (u.1.2.2.1 408)))),
  ((v 409), .inl (cs 1, (6, .inl (u.1.2.2.1 409)))),
  ((v 410), .inl (cs 1, (6, .inl (u.1.2.2.1 410)))),
  ((v 411), .inl (cs 5, (80, .inr (.inr (.inr (.inr (fun i => (u.2.2.1 411 i).map ad))))))),
  ((v 412), .inl (cs 5, (80, .inr (.inr (.inr (.inr (fun i => (u.2.2.1 412 i).map ad))))))),
  ((v 313), .inl (cs 1, (80, .inl (u.1.2.2.1 313)))),
  ((v 314), .inl (cs 1, (80, .inl (u.1.2.2.1 314)))),
  ((v 399), .inr (7, [.int (u.1.1 300), .int (u.1.1 301), .int (u.1.1 302), .int (u.1.1 303), .int (u.1.1 304), .int (u.1.1 305), .int (u.1.1 306), .ref (g9 307), .ref (g9 308), .ref (g9 309), .ref (g9 310), .ref (g9 311), .ref (g9 312), .ref (g9 313), .ref (g9 314)])),
  ((v 307), .inl (cs 3, (48, .inl (u.1.2.2.1 307)))),
  ((v 308), .inl (cs 1, (48, .inl (u.1.2.2.1 308)))),
  ((v 309), .inl (cs 1, (6, .inl (u.1.2.2.1 309)))),
  ((v 310), .inl (cs 1, (6, .inl (u.1.2.2.1 310)))),
  ((v 311), .inl (cs 5, (80, .inr (.inr (.inr (.inr (fun i => (u.2.2.1 311 i).map ad))))))),
  ((v 312), .inl (cs 5, (80, .inr (.inr (.inr (.inr (fun i => (u.2.2.1 312 i).map ad))))))),
  ((v 413), .inl (cs 1, (80, .inl (u.1.2.2.1 413)))),
  ((v 414), .inl (cs 1, (80, .inl (u.1.2.2.1 414)))),
  ((q 599), .inr (0, [.ref (q 500), .ref (q 501), va_rf (u.2.1 502), .int (u.1.1 503), .int (u.1.1 504), .int (u.1.1 505)])),
  ((q 500), .inl (cs 4, (100, .inr (.inr (.inr (.inr (u.2.2.1 500))))))),
  ((q 501), .inl (cs 4, (40, .inr (.inr (.inr (.inr (u.2.2.1 501))))))),
  ((q 699), .inr (8, [.ref (q 600), .ref (q 601), .int (u.1.1 602), .ref (g9 603), .ref (g9 604), .ref (q 605), .ref (q 606), .ref (g9 607), .ref (g9 608)])),
  ((q 600), .inl (cs 1, (48, .inl (u.1.2.2.1 600)))),
  ((q 601), .inl (cs 1, (48, .inl (u.1.2.2.1 601)))),
  ((v 603), .inl (cs 2, (961, .inr (.inl (u.1.2.2.2 603))))),
  ((v 604), .inl (cs 2, (961, .inr (.inl (u.1.2.2.2 604))))),
  ((q 605), .inl (cs 2, (32, .inr (.inl (u.1.2.2.2 605))))),
  ((q 606), .inl (cs 1, (1488, .inl (u.1.2.2.1 606)))),
  ((v 607), .inl (cs 1, (31, .inl (u.1.2.2.1 607)))),
  ((v 608), .inl (cs 1, (31, .inl (u.1.2.2.1 608)))),
  ((q 799), .inr (1, [.ref (q 700), .ref (q 701), .ref (q 702), .ref (q 703), .ref (q 704), .ref (q 705), .ref (q 706), .ref (q 707), .int (u.1.1 708)])),
  ((q 700), .inl (cs 1, (6, .inl (u.1.2.2.1 700)))),
  ((q 701), .inl (cs 1, (54, .inl (u.1.2.2.1 701)))),
  ((q 702), .inl (cs 1, (49, .inl (u.1.2.2.1 702)))),
  ((q 703), .inl (cs 1, (48, .inl (u.1.2.2.1 703)))),
  ((q 704), .inl (cs 1, (48, .inl (u.1.2.2.1 704)))),
  ((q 705), .inl (cs 1, (48, .inl (u.1.2.2.1 705)))),
  ((q 706), .inl (cs 1, (48, .inl (u.1.2.2.1 706)))),
  ((q 707), .inl (cs 1, (48, .inl (u.1.2.2.1 707)))),
  ((q 899), .inr (9, [.ref (q 800), .int (u.1.1 801), .ref (q 802), .ref (g9 803), .ref (g9 804)])),
  ((q 800), .inl (cs 1, (40, .inl (u.1.2.2.1 800)))),
  ((q 802), .inl (cs 0, (1920, .inl (u.1.2.2.1 802)))),
  ((v 803), .inl (cs 1, (48, .inl (u.1.2.2.1 803)))),
  ((v 804), .inl (cs 1, (48, .inl (u.1.2.2.1 804)))),
  ((q 999), .inr (3, [.ref (q 900), .int (u.1.1 901), .ref (q 902)])),
  ((q 900), .inl (cs 1, (48, .inl (u.1.2.2.1 900)))),
  ((q 902), .inl (cs 1, (2401, .inl (u.1.2.2.1 902))))] ++ va_pl u.2.2.2.1 (xd_E cs u.2.2.2)
def xw_c8 (cs : Nat → ClassId) (ad q v g9 : Nat → Nat) (u : xs_St) : va_W := [((q 99), .inr (10, [.ref (q 199), .ref (q 299), .ref (q 599), .ref (q 699), .ref (q 799), .ref (q 899), .ref (q 999), .ref (q 7), .int (u.1.1 8), .ref (g9 399), .ref (g9 10), .ref (g9 11), .int (u.1.1 12)])),
  ((q 7), .inl (cs 1, (48, .inl (u.1.2.2.1 7)))),
  ((v 10), .inl (cs 2, (217, .inr (.inl (u.1.2.2.2 10))))),
  ((v 11), .inl (cs 2, (217, .inr (.inl (u.1.2.2.2 11))))),
  ((q 199), .inr (6, [.ref (q 100), .int (u.1.1 101)])),
  ((q 100), .inl (cs 0, (440, .inl (u.1.2.2.1 100)))),
  ((q 299), .inr (4, [.ref (q 200), .ref (q 201), .ref (q 202), .int (u.1.1 203), .ref (g9 499), .int (u.1.1 205), va_re ad (u.2.1 206), .int (u.1.1 207), .int (u.1.1 208), .int (u.1.1 209), .int (u.1.1 210), .int (u.1.1 211), .int (u.1.1 212), .int (u.1.1 213)])),
  ((q 200), .inl (cs 5, (401, .inr (.inr (.inr (.inr (fun i => (u.2.2.1 200 i).map ad))))))),
  ((q 201), .inl (cs 1, (401, .inl (u.1.2.2.1 201)))),
  ((q 202), .inl (cs 1, (401, .inl (u.1.2.2.1 202)))),
  ((v 499), .inr (7, [.int (u.1.1 400), .int (u.1.1 401), .int (u.1.1 402), .int (u.1.1 403), .int (u.1.1 404), .int (u.1.1 405), .int (u.1.1 406), .ref (g9 407), .ref (g9 408), .ref (g9 409), .ref (g9 410), .ref (g9 411), .ref (g9 412), .ref (g9 413), .ref (g9 414)])),
  ((v 407), .inl (cs 3, (48, .inl (u.1.2.2.1 407)))),
  ((v 408), .inl (cs 1, (48, .inl (u.1.2.2.1 408)))),
  ((v 409), .inl (cs 1, (6, .inl (u.1.2.2.1 409)))),
  ((v 410), .inl (cs 1, (6, .inl (u.1.2.2.1 410)))),
  ((v 411), .inl (cs 5, (80, .inr (.inr (.inr (.inr (fun i => (u.2.2.1 411 i).map ad))))))),
  ((v 412), .inl (cs 5, (80, .inr (.inr (.inr (.inr (fun i => (u.2.2.1 412 i).map ad))))))),
  ((v 413), .inl (cs 1, (80, .inl (u.1.2.2.1 413)))),
  ((v 314), .inl (cs 1, (80, .inl (u.1.2.2.1 314)))),
  ((v 399), .inr (7, [.int (u.1.1 300), .int (u.1.1 301), .int (u.1.1 302), .int (u.1.1 303), .int (u.1.1 304), .int (u.1.1 305), .int (u.1.1 306), .ref (g9 307), .ref (g9 308), .ref (g9 309), .ref (g9 310), .ref (g9 311), .ref (g9 312), .ref (g9 313), .ref (g9 314)])),
  ((v 307), .inl (cs 3, (48, .inl (u.1.2.2.1 307)))),
  ((v 308), .inl (cs 1, (48, .inl (u.1.2.2.1 308)))),
  ((v 309), .inl (cs 1, (6, .inl (u.1.2.2.1 309)))),
  ((v 310), .inl (cs 1, (6, .inl (u.1.2.2.1 310)))),
  ((v 311), .inl (cs 5, (80, .inr (.inr (.inr (.inr (fun i => (u.2.2.1 311 i).map ad))))))),
  ((v 312), .inl (cs 5, (80, .inr (.inr (.inr (.inr (fun i => (u.2.2.1 312 i).map ad))))))),
  ((v 313), .inl (cs 1, (80, .inl (u.1.2.2.1 313)))),
  ((v 414), .inl (cs 1, (80, .inl (u.1.2.2.1 414)))),
  ((q 599), .inr (0, [.ref (q 500), .ref (q 501), va_rf (u.2.1 502), .int (u.1.1 503), .int (u.1.1 504), .int (u.1.1 505)])),
  ((q 500), .inl (cs 4, (100, .inr (.inr (.inr (.inr (u.2.2.1 500))))))),
  ((q 501), .inl (cs 4, (40, .inr (.inr (.inr (.inr (u.2.2.1 501))))))),
  ((q 699), .inr (8, [.ref (q 600), .ref (q 601), .int (u.1.1 602), .ref (g9 603), .ref (g9 604), .ref (q 605), .ref (q 606), .ref (g9 607), .ref (g9 608)])),
  ((q 600), .inl (cs 1, (48, .inl (u.1.2.2.1 600)))),
  ((q 601), .inl (cs 1, (48, .inl (u.1.2.2.1 601)))),
  ((v 603), .inl (cs 2, (961, .inr (.inl (u.1.2.2.2 603))))),
  ((v 604), .inl (cs 2, (961, .inr (.inl (u.1.2.2.2 604))))),
  ((q 605), .inl (cs 2, (32, .inr (.inl (u.1.2.2.2 605))))),
  ((q 606), .inl (cs 1, (1488, .inl (u.1.2.2.1 606)))),
  ((v 607), .inl (cs 1, (31, .inl (u.1.2.2.1 607)))),
  ((v 608), .inl (cs 1, (31, .inl (u.1.2.2.1 608)))),
  ((q 799), .inr (1, [.ref (q 700), .ref (q 701), .ref (q 702), .ref (q 703), .ref (q 704), .ref (q 705), .ref (q 706), .ref (q 707), .int (u.1.1 708)])),
  ((q 700), .inl (cs 1, (6, .inl (u.1.2.2.1 700)))),
  ((q 701), .inl (cs 1, (54, .inl (u.1.2.2.1 701)))),
  ((q 702), .inl (cs 1, (49, .inl (u.1.2.2.1 702)))),
  ((q 703), .inl (cs 1, (48, .inl (u.1.2.2.1 703)))),
  ((q 704), .inl (cs 1, (48, .inl (u.1.2.2.1 704)))),
  ((q 705), .inl (cs 1, (48, .inl (u.1.2.2.1 705)))),
  ((q 706), .inl (cs 1, (48, .inl (u.1.2.2.1 706)))),
  ((q 707), .inl (cs 1, (48, .inl (u.1.2.2.1 707)))),
  ((q 899), .inr (9, [.ref (q 800), .int (u.1.1 801), .ref (q 802), .ref (g9 803), .ref (g9 804)])),
  ((q 800), .inl (cs 1, (40, .inl (u.1.2.2.1 800)))),
  ((q 802), .inl (cs 0, (1920, .inl (u.1.2.2.1 802)))),
  ((v 803), .inl (cs 1, (48, .inl (u.1.2.2.1 803)))),
  ((v 804), .inl (cs 1, (48, .inl (u.1.2.2.1 804)))),
  ((q 999), .inr (3, [.ref (q 900), .int (u.1.1 901), .ref (q 902)])),
  ((q 900), .inl (cs 1, (48, .inl (u.1.2.2.1 900)))),
  ((q 902), .inl (cs 1, (2401, .inl (u.1.2.2.1 902))))] ++ va_pl u.2.2.2.1 (xd_E cs u.2.2.2)
def xw_c9 (cs : Nat → ClassId) (ad q v g9 : Nat → Nat) (u : xs_St) : va_W := [((q 99), .inr (10, [.ref (q 199), .ref (q 299), .ref (q 599), .ref (q 699), .ref (q 799), .ref (q 899), .ref (q 999), .ref (q 7), .int (u.1.1 8), .ref (g9 399), .ref (g9 10), .ref (g9 11), .int (u.1.1 12)])),
  ((q 7), .inl (cs 1, (48, .inl (u.1.2.2.1 7)))),
  ((v 10), .inl (cs 2, (217, .inr (.inl (u.1.2.2.2 10))))),
  ((v 11), .inl (cs 2, (217, .inr (.inl (u.1.2.2.2 11))))),
  ((q 199), .inr (6, [.ref (q 100), .int (u.1.1 101)])),
  ((q 100), .inl (cs 0, (440, .inl (u.1.2.2.1 100)))),
  ((q 299), .inr (4, [.ref (q 200), .ref (q 201), .ref (q 202), .int (u.1.1 203), .ref (g9 499), .int (u.1.1 205), va_re ad (u.2.1 206), .int (u.1.1 207), .int (u.1.1 208), .int (u.1.1 209), .int (u.1.1 210), .int (u.1.1 211), .int (u.1.1 212), .int (u.1.1 213)])),
  ((q 200), .inl (cs 5, (401, .inr (.inr (.inr (.inr (fun i => (u.2.2.1 200 i).map ad))))))),
  ((q 201), .inl (cs 1, (401, .inl (u.1.2.2.1 201)))),
  ((q 202), .inl (cs 1, (401, .inl (u.1.2.2.1 202)))),
  ((v 499), .inr (7, [.int (u.1.1 400), .int (u.1.1 401), .int (u.1.1 402), .int (u.1.1 403), .int (u.1.1 404), .int (u.1.1 405), .int (u.1.1 406), .ref (g9 407), .ref (g9 408), .ref (g9 409), .ref (g9 410), .ref (g9 411), .ref (g9 412), .ref (g9 413), .ref (g9 414)])),
  ((v 407), .inl (cs 3, (48, .inl (u.1.2.2.1 407)))),
  ((v 408), .inl (cs 1, (48, .inl (u.1.2.2.1 408)))),
  ((v 409), .inl (cs 1, (6, .inl (u.1.2.2.1 409)))),
  ((v 410), .inl (cs 1, (6, .inl (u.1.2.2.1 410)))),
  ((v 411), .inl (cs 5, (80, .inr (.inr (.inr (.inr (fun i => (u.2.2.1 411 i).map ad))))))),
  ((v 412), .inl (cs 5, (80, .inr (.inr (.inr (.inr (fun i => (u.2.2.1 412 i).map ad))))))),
  ((v 413), .inl (cs 1, (80, .inl (u.1.2.2.1 413)))),
  ((v 414), .inl (cs 1, (80, .inl (u.1.2.2.1 414)))),
  ((v 399), .inr (7, [.int (u.1.1 300), .int (u.1.1 301), .int (u.1.1 302), .int (u.1.1 303), .int (u.1.1 304), .int (u.1.1 305), .int (u.1.1 306), .ref (g9 307), .ref (g9 308), .ref (g9 309), .ref (g9 310), .ref (g9 311), .ref (g9 312), .ref (g9 313), .ref (g9 314)])),
  ((v 307), .inl (cs 3, (48, .inl (u.1.2.2.1 307)))),
  ((v 308), .inl (cs 1, (48, .inl (u.1.2.2.1 308)))),
  ((v 309), .inl (cs 1, (6, .inl (u.1.2.2.1 309)))),
  ((v 310), .inl (cs 1, (6, .inl (u.1.2.2.1 310)))),
  ((v 311), .inl (cs 5, (80, .inr (.inr (.inr (.inr (fun i => (u.2.2.1 311 i).map ad))))))),
  ((v 312), .inl (cs 5, (80, .inr (.inr (.inr (.inr (fun i => (u.2.2.1 312 i).map ad))))))),
  ((v 313), .inl (cs 1, (80, .inl (u.1.2.2.1 313)))),
  ((v 314), .inl (cs 1, (80, .inl (u.1.2.2.1 314)))),
  ((q 599), .inr (0, [.ref (q 500), .ref (q 501), va_rf (u.2.1 502), .int (u.1.1 503), .int (u.1.1 504), .int (u.1.1 505)])),
  ((q 500), .inl (cs 4, (100, .inr (.inr (.inr (.inr (u.2.2.1 500))))))),
  ((q 501), .inl (cs 4, (40, .inr (.inr (.inr (.inr (u.2.2.1 501))))))),
  ((q 699), .inr (8, [.ref (q 600), .ref (q 601), .int (u.1.1 602), .ref (g9 603), .ref (g9 604), .ref (q 605), .ref (q 606), .ref (g9 607), .ref (g9 608)])),
  ((q 600), .inl (cs 1, (48, .inl (u.1.2.2.1 600)))),
  ((q 601), .inl (cs 1, (48, .inl (u.1.2.2.1 601)))),
  ((v 603), .inl (cs 2, (961, .inr (.inl (u.1.2.2.2 603))))),
  ((v 604), .inl (cs 2, (961, .inr (.inl (u.1.2.2.2 604))))),
  ((q 605), .inl (cs 2, (32, .inr (.inl (u.1.2.2.2 605))))),
  ((q 606), .inl (cs 1, (1488, .inl (u.1.2.2.1 606)))),
  ((v 607), .inl (cs 1, (31, .inl (u.1.2.2.1 607)))),
  ((v 608), .inl (cs 1, (31, .inl (u.1.2.2.1 608)))),
  ((q 799), .inr (1, [.ref (q 700), .ref (q 701), .ref (q 702), .ref (q 703), .ref (q 704), .ref (q 705), .ref (q 706), .ref (q 707), .int (u.1.1 708)])),
  ((q 700), .inl (cs 1, (6, .inl (u.1.2.2.1 700)))),
  ((q 701), .inl (cs 1, (54, .inl (u.1.2.2.1 701)))),
  ((q 702), .inl (cs 1, (49, .inl (u.1.2.2.1 702)))),
  ((q 703), .inl (cs 1, (48, .inl (u.1.2.2.1 703)))),
  ((q 704), .inl (cs 1, (48, .inl (u.1.2.2.1 704)))),
  ((q 705), .inl (cs 1, (48, .inl (u.1.2.2.1 705)))),
  ((q 706), .inl (cs 1, (48, .inl (u.1.2.2.1 706)))),
  ((q 707), .inl (cs 1, (48, .inl (u.1.2.2.1 707)))),
  ((q 899), .inr (9, [.ref (q 800), .int (u.1.1 801), .ref (q 802), .ref (g9 803), .ref (g9 804)])),
  ((q 800), .inl (cs 1, (40, .inl (u.1.2.2.1 800)))),
  ((q 802), .inl (cs 0, (1920, .inl (u.1.2.2.1 802)))),
  ((v 803), .inl (cs 1, (48, .inl (u.1.2.2.1 803)))),
  ((v 804), .inl (cs 1, (48, .inl (u.1.2.2.1 804)))),
  ((q 999), .inr (3, [.ref (q 900), .int (u.1.1 901), .ref (q 902)])),
  ((q 900), .inl (cs 1, (48, .inl (u.1.2.2.1 900)))),
  ((q 902), .inl (cs 1, (2401, .inl (u.1.2.2.1 902))))] ++ va_pl u.2.2.2.1 (xd_E cs u.2.2.2)
set_option maxRecDepth 100000 in
set_option maxHeartbeats 4000000 in
theorem xw_399_499_f {dC : Nat → ClassId} {dI : Nat → Nat → Nat} {cs : Nat → ClassId} {ad q v : Nat → Nat} {A : Nat → Prop} {H0 H : Heap} {u : xs_St} {locs : List Loc} (hw : th_wI (dC, dI) (wX cs ad q v (va_up (va_up v 399 (v 499)) 499 (v 399))) A H0 u H locs) : ∃ v1 : Nat → Nat, th_wI (dC, dI) (wX cs ad q v1 v1) A H0 (xw_399_499 u) H locs := by
  refine ⟨fun k => v (xs_tx k), ?_⟩
  obtain ⟨h1, h2, h3⟩ := hw
  have p1 := xs_sw (ws := wX cs ad q v (va_up (va_up v 399 (v 499)) 499 (v 399)) u) 10 19 (x := ((v 399), .inr (7, [.int (u.1.1 300), .int (u.1.1 301), .int (u.1.1 302), .int (u.1.1 303), .int (u.1.1 304), .int (u.1.1 305), .int (u.1.1 306), .ref ((va_up (va_up v 399 (v 499)) 499 (v 399)) 307), .ref ((va_up (va_up v 399 (v 499)) 499 (v 399)) 308), .ref ((va_up (va_up v 399 (v 499)) 499 (v 399)) 309), .ref ((va_up (va_up v 399 (v 499)) 499 (v 399)) 310), .ref ((va_up (va_up v 399 (v 499)) 499 (v 399)) 311), .ref ((va_up (va_up v 399 (v 499)) 499 (v 399)) 312), .ref ((va_up (va_up v 399 (v 499)) 499 (v 399)) 313), .ref ((va_up (va_up v 399 (v 499)) 499 (v 399)) 314)]))) (y := ((v 499), .inr (7, [.int (u.1.1 400), .int (u.1.1 401), .int (u.1.1 402), .int (u.1.1 403), .int (u.1.1 404), .int (u.1.1 405), .int (u.1.1 406), .ref ((va_up (va_up v 399 (v 499)) 499 (v 399)) 407), .ref ((va_up (va_up v 399 (v 499)) 499 (v 399)) 408), .ref ((va_up (va_up v 399 (v 499)) 499 (v 399)) 409), .ref ((va_up (va_up v 399 (v 499)) 499 (v 399)) 410), .ref ((va_up (va_up v 399 (v 499)) 499 (v 399)) 411), .ref ((va_up (va_up v 399 (v 499)) 499 (v 399)) 412), .ref ((va_up (va_up v 399 (v 499)) 499 (v 399)) 413), .ref ((va_up (va_up v 399 (v 499)) 499 (v 399)) 414)]))) rfl rfl
  obtain ⟨h1, h2⟩ := xs_perm p1 h1 h2
  have h1 : va_P (dC, dI) vwCl (xw_c1 cs ad q v (va_up (va_up v 399 (v 499)) 499 (v 399)) u) H := h1
  have h2 : va_D A (xw_c1 cs ad q v (va_up (va_up v 399 (v 499)) 499 (v 399)) u) := h2
  have p2 := xs_sw (ws := xw_c1 cs ad q v (va_up (va_up v 399 (v 499)) 499 (v 399)) u) 11 20 (x := ((v 307), .inl (cs 3, (48, .inl (u.1.2.2.1 307))))) (y := ((v 407), .inl (cs 3, (48, .inl (u.1.2.2.1 407))))) rfl rfl
  obtain ⟨h1, h2⟩ := xs_perm p2 h1 h2
  have h1 : va_P (dC, dI) vwCl (xw_c2 cs ad q v (va_up (va_up v 399 (v 499)) 499 (v 399)) u) H := h1
  have h2 : va_D A (xw_c2 cs ad q v (va_up (va_up v 399 (v 499)) 499 (v 399)) u) := h2
  have p3 := xs_sw (ws := xw_c2 cs ad q v (va_up (va_up v 399 (v 499)) 499 (v 399)) u) 12 21 (x := ((v 308), .inl (cs 1, (48, .inl (u.1.2.2.1 308))))) (y := ((v 408), .inl (cs 1, (48, .inl (u.1.2.2.1 408))))) rfl rfl
  obtain ⟨h1, h2⟩ := xs_perm p3 h1 h2
  have h1 : va_P (dC, dI) vwCl (xw_c3 cs ad q v (va_up (va_up v 399 (v 499)) 499 (v 399)) u) H := h1
  have h2 : va_D A (xw_c3 cs ad q v (va_up (va_up v 399 (v 499)) 499 (v 399)) u) := h2
  have p4 := xs_sw (ws := xw_c3 cs ad q v (va_up (va_up v 399 (v 499)) 499 (v 399)) u) 13 22 (x := ((v 309), .inl (cs 1, (6, .inl (u.1.2.2.1 309))))) (y := ((v 409), .inl (cs 1, (6, .inl (u.1.2.2.1 409))))) rfl rfl
  obtain ⟨h1, h2⟩ := xs_perm p4 h1 h2
  have h1 : va_P (dC, dI) vwCl (xw_c4 cs ad q v (va_up (va_up v 399 (v 499)) 499 (v 399)) u) H := h1
  have h2 : va_D A (xw_c4 cs ad q v (va_up (va_up v 399 (v 499)) 499 (v 399)) u) := h2
  have p5 := xs_sw (ws := xw_c4 cs ad q v (va_up (va_up v 399 (v 499)) 499 (v 399)) u) 14 23 (x := ((v 310), .inl (cs 1, (6, .inl (u.1.2.2.1 310))))) (y := ((v 410), .inl (cs 1, (6, .inl (u.1.2.2.1 410))))) rfl rfl
  obtain ⟨h1, h2⟩ := xs_perm p5 h1 h2
  have h1 : va_P (dC, dI) vwCl (xw_c5 cs ad q v (va_up (va_up v 399 (v 499)) 499 (v 399)) u) H := h1
  have h2 : va_D A (xw_c5 cs ad q v (va_up (va_up v 399 (v 499)) 499 (v 399)) u) := h2
  have p6 := xs_sw (ws := xw_c5 cs ad q v (va_up (va_up v 399 (v 499)) 499 (v 399)) u) 15 24 (x := ((v 311), .inl (cs 5, (80, .inr (.inr (.inr (.inr (fun i => (u.2.2.1 311 i).map ad)))))))) (y := ((v 411), .inl (cs 5, (80, .inr (.inr (.inr (.inr (fun i => (u.2.2.1 411 i).map ad)))))))) rfl rfl
  obtain ⟨h1, h2⟩ := xs_perm p6 h1 h2
  have h1 : va_P (dC, dI) vwCl (xw_c6 cs ad q v (va_up (va_up v 399 (v 499)) 499 (v 399)) u) H := h1
  have h2 : va_D A (xw_c6 cs ad q v (va_up (va_up v 399 (v 499)) 499 (v 399)) u) := h2
  have p7 := xs_sw (ws := xw_c6 cs ad q v (va_up (va_up v 399 (v 499)) 499 (v 399)) u) 16 25 (x := ((v 312), .inl (cs 5, (80, .inr (.inr (.inr (.inr (fun i => (u.2.2.1 312 i).map ad)))))))) (y := ((v 412), .inl (cs 5, (80, .inr (.inr (.inr (.inr (fun i => (u.2.2.1 412 i).map ad)))))))) rfl rfl
  obtain ⟨h1, h2⟩ := xs_perm p7 h1 h2
  have h1 : va_P (dC, dI) vwCl (xw_c7 cs ad q v (va_up (va_up v 399 (v 499)) 499 (v 399)) u) H := h1
  have h2 : va_D A (xw_c7 cs ad q v (va_up (va_up v 399 (v 499)) 499 (v 399)) u) := h2
  have p8 := xs_sw (ws := xw_c7 cs ad q v (va_up (va_up v 399 (v 499)) 499 (v 399)) u) 17 26 (x := ((v 313), .inl (cs 1, (80, .inl (u.1.2.2.1 313))))) (y := ((v 413), .inl (cs 1, (80, .inl (u.1.2.2.1 413))))) rfl rfl
  obtain ⟨h1, h2⟩ := xs_perm p8 h1 h2
  have h1 : va_P (dC, dI) vwCl (xw_c8 cs ad q v (va_up (va_up v 399 (v 499)) 499 (v 399)) u) H := h1
  have h2 : va_D A (xw_c8 cs ad q v (va_up (va_up v 399 (v 499)) 499 (v 399)) u) := h2
  have p9 := xs_sw (ws := xw_c8 cs ad q v (va_up (va_up v 399 (v 499)) 499 (v 399)) u) 18 27 (x := ((v 314), .inl (cs 1, (80, .inl (u.1.2.2.1 314))))) (y := ((v 414), .inl (cs 1, (80, .inl (u.1.2.2.1 414))))) rfl rfl
  obtain ⟨h1, h2⟩ := xs_perm p9 h1 h2
  have h1 : va_P (dC, dI) vwCl (xw_c9 cs ad q v (va_up (va_up v 399 (v 499)) 499 (v 399)) u) H := h1
  have h2 : va_D A (xw_c9 cs ad q v (va_up (va_up v 399 (v 499)) 499 (v 399)) u) := h2
  exact ⟨h1, h2, h3⟩
theorem lkIX0_25 : xs_LI RX0 25 yX2_init cX2_init 4 3 := ⟨hwM_X0_25, hwN_X2_init, hwI_X2, hwC_X2_init, rfl, by decide +kernel⟩
theorem lkIX0_22 : xs_LI RX0 22 yX5_init cX5_init 4 3 := ⟨hwM_X0_22, hwN_X5_init, hwI_X5, hwC_X5_init, rfl, by decide +kernel⟩

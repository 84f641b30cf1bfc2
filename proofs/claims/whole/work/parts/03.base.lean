/-! base: the good words of the tables, worlds that hang on a state value, contracts, calls and ends over them -/
def th_BIG : List Cond := lw_tbl.filter goodWord
theorem th_big {w : Cond} (h : w ∈ lw_tbl) (g : goodWord w = true) : w ∈ th_BIG := List.mem_filter.mpr ⟨h, g⟩
theorem th_bs {w : Cond} (i : Nat) (h : (k2_sels lw_privs)[i]? = some w) (g : goodWord w = true) : w ∈ th_BIG := th_big (List.mem_append_left _ (List.mem_of_getElem? h)) g
theorem th_b1 {w : Cond} (i : Nat) (h : tables_1_1[i]? = some w) (g : goodWord w = true) : w ∈ th_BIG := th_big (List.mem_append_right _ (List.mem_append_left _ (List.mem_of_getElem? h))) g
theorem th_b2 {w : Cond} (i : Nat) (h : tables_1_2[i]? = some w) (g : goodWord w = true) : w ∈ th_BIG := th_big (List.mem_append_right _ (List.mem_append_right _ (List.mem_append_left _ (List.mem_of_getElem? h)))) g
theorem th_b3 {w : Cond} (i : Nat) (h : tables_1_3[i]? = some w) (g : goodWord w = true) : w ∈ th_BIG := th_big (List.mem_append_right _ (List.mem_append_right _ (List.mem_append_right _ (List.mem_append_left _ (List.mem_of_getElem? h))))) g
theorem th_b4 {w : Cond} (i : Nat) (h : tables_1_4[i]? = some w) (g : goodWord w = true) : w ∈ th_BIG := th_big (List.mem_append_right _ (List.mem_append_right _ (List.mem_append_right _ (List.mem_append_right _ (List.mem_append_left _ (List.mem_of_getElem? h)))))) g
theorem th_b5 {w : Cond} (i : Nat) (h : tables_1_5[i]? = some w) (g : goodWord w = true) : w ∈ th_BIG := th_big (List.mem_append_right _ (List.mem_append_right _ (List.mem_append_right _ (List.mem_append_right _ (List.mem_append_right _ (List.mem_append_left _ (List.mem_of_getElem? h))))))) g
theorem th_b6 {w : Cond} (i : Nat) (h : tables_1_6[i]? = some w) (g : goodWord w = true) : w ∈ th_BIG := th_big (List.mem_append_right _ (List.mem_append_right _ (List.mem_append_right _ (List.mem_append_right _ (List.mem_append_right _ (List.mem_append_right _ (List.mem_append_left _ (List.mem_of_getElem? h)))))))) g
theorem th_b7 {w : Cond} (i : Nat) (h : tables_1_7[i]? = some w) (g : goodWord w = true) : w ∈ th_BIG := th_big (List.mem_append_right _ (List.mem_append_right _ (List.mem_append_right _ (List.mem_append_right _ (List.mem_append_right _ (List.mem_append_right _ (List.mem_append_right _ (List.mem_append_left _ (List.mem_of_getElem? h))))))))) g
theorem th_b8 {w : Cond} (i : Nat) (h : tables_1_8[i]? = some w) (g : goodWord w = true) : w ∈ th_BIG := th_big (List.mem_append_right _ (List.mem_append_right _ (List.mem_append_right _ (List.mem_append_right _ (List.mem_append_right _ (List.mem_append_right _ (List.mem_append_right _ (List.mem_append_right _ (List.mem_of_getElem? h))))))))) g
theorem th_good {ws : List Cond} (h : ∀ w ∈ ws, w ∈ th_BIG) : GoodIn th_BIG ws := fun w hw => ⟨h w hw, good_of_word (List.mem_filter.mp (h w hw)).2⟩
theorem th_goodV {own C : String} {idx n : Nat} {y : MethodName} {cc : ByteArray} {ret : Option FieldType} (h1 : Cond.methodLink own idx y ∈ th_BIG) (h2 : Cond.instanceMethod y ∈ th_BIG) (h3 : Cond.selects C y y ∈ th_BIG) (h4 : Cond.initialized C ∈ th_BIG) (h5 : Cond.code y cc n ret ∈ th_BIG) : GoodIn th_BIG (wsV own idx C y (Cond.code y cc n ret :: th_BIG)) := by
  refine th_good (fun w hw => ?_)
  rcases List.mem_append.mp hw with h | h
  · simp only [List.mem_cons, List.not_mem_nil, or_false] at h
    rcases h with rfl | rfl | rfl | rfl <;> assumption
  · rcases List.mem_cons.mp h with rfl | h
    · exact h5
    · exact h
theorem th_goodS {own : String} {idx n : Nat} {y : MethodName} {cc : ByteArray} {ret : Option FieldType} (h1 : Cond.methodLink own idx y ∈ th_BIG) (h2 : Cond.static y ∈ th_BIG) (h4 : Cond.initialized own ∈ th_BIG) (h5 : Cond.code y cc n ret ∈ th_BIG) : GoodIn th_BIG (wsS own idx y (Cond.code y cc n ret :: th_BIG)) := by
  refine th_good (fun w hw => ?_)
  rcases List.mem_append.mp hw with h | h
  · simp only [List.mem_cons, List.not_mem_nil, or_false] at h
    rcases h with rfl | rfl | rfl <;> assumption
  · rcases List.mem_cons.mp h with rfl | h
    · exact h5
    · exact h
/-- what stands beside the world and is never written: kept by calls and by all that happens to the world -/
abbrev th_Ex : Type := (Nat → Prop) → State → Heap → Prop
def th_EO (E : th_Ex) : Prop := (∀ (A A' : Nat → Prop) (s U : State) (H0 H : Heap) (locs : List Loc), E A s H0 → va_S A H0 H locs → s.WarmedH U.vm → (∀ q, A' q → A q) → E A' U H) ∧ ∀ (A : Nat → Prop) (U : State) (g : JFrame) (mk : MethodId) (a : Array Value) (H : Heap), E A U H → E A (U.calling g mk a) H
def th_E0 : th_Ex := fun _ _ _ => True
theorem th_E0_ok : th_EO th_E0 := ⟨fun _ _ _ _ _ _ _ _ _ _ _ => trivial, fun _ _ _ _ _ _ _ => trivial⟩
section
variable {α : Type}
def th_Pre (D : va_G) (tys : List (ClassId × FieldType)) (E : th_Ex) (w : α → va_W) (u : α) (sz : Nat) (U : State) : Prop := U.heap.size = sz ∧ va_P D vwCl (w u) U.heap ∧ va_K D vwCl tys U ∧ va_D (fun _ => True) (w u) ∧ E (va_A (w u) sz) U U.heap
def th_Post (D : va_G) (w : α → va_W) (A : Nat → Prop) (u : α) (t : State) : Prop := va_P D vwCl (w u) t.heap ∧ va_D A (w u)
def th_rm (d mc ms : Nat) : Room := { frames := d, cells := mc, slots := ms, locals := 50 * d }
def th_Ci (l : Launch) (y : MethodName) (cc : ByteArray) (n : Nat) (ret : Option FieldType) (d mc ms : Nat) (D : va_G) (tys : List (ClassId × FieldType)) (E : th_Ex) (w : α → va_W) (av : List Value) (u : α) (K : Int32 → α → Prop) : Prop :=
  ∀ sz, Met l y (Cond.code y cc n ret :: th_BIG) (th_rm d mc ms) (va_Pc av (th_Pre D tys E w u sz)) (va_Qi K (th_Post D w (va_A (w u) sz)) (va_A (w u) sz)) mc ms (va_A (w u) sz)
def th_Cl (l : Launch) (y : MethodName) (cc : ByteArray) (n : Nat) (ret : Option FieldType) (d mc ms : Nat) (D : va_G) (tys : List (ClassId × FieldType)) (E : th_Ex) (w : α → va_W) (av : List Value) (u : α) (K : Int64 → α → Prop) : Prop :=
  ∀ sz, Met l y (Cond.code y cc n ret :: th_BIG) (th_rm d mc ms) (va_Pc av (th_Pre D tys E w u sz)) (va_Ql K (th_Post D w (va_A (w u) sz)) (va_A (w u) sz)) mc ms (va_A (w u) sz)
def th_Cv (l : Launch) (y : MethodName) (cc : ByteArray) (n : Nat) (ret : Option FieldType) (d mc ms : Nat) (D : va_G) (tys : List (ClassId × FieldType)) (E : th_Ex) (w : α → va_W) (av : List Value) (u : α) (K : α → Prop) : Prop :=
  ∀ sz, Met l y (Cond.code y cc n ret :: th_BIG) (th_rm d mc ms) (va_Pc av (th_Pre D tys E w u sz)) (va_Qv K (th_Post D w (va_A (w u) sz)) (va_A (w u) sz)) mc ms (va_A (w u) sz)
/-- what stands fast in a method's body -/
def th_Cx (p : Program) (s : State) (m : MethodId) (args : Array Value) (meth : Method) (c : Code) (cc : ByteArray) (own : String) (nL : Nat) (ret : Option FieldType) (D : va_G) (tys : List (ClassId × FieldType)) (E : th_Ex) (A : Nat → Prop) : Prop :=
  p.tables.exec = Jvm.exec ∧ c.code = cc ∧ c.maxLocals = nL ∧ s.vm.findClass own = some m.cls ∧ (∀ w ∈ th_BIG, w.before args s = true) ∧ va_K D vwCl tys s ∧ meth.sig.returnType = ret ∧ meth.locks = false ∧ (∀ q, s.heap.size ≤ q → A q) ∧ E A s s.heap ∧ th_EO E
/-- the world, apart and framed -/
def th_wI (D : va_G) (w : α → va_W) (A : Nat → Prop) (H0 : Heap) (u : α) (H : Heap) (locs : List Loc) : Prop := va_P D vwCl (w u) H ∧ va_D A (w u) ∧ va_S A H0 H locs
theorem th_wI.free {D : va_G} {w : α → va_W} {A : Nat → Prop} {H0 H : Heap} {u : α} {locs : List Loc} (hw : th_wI D w A H0 u H locs) (hA : ∀ q, H0.size ≤ q → A q) : ∀ q, va_A (w u) H.size q → A q := by
  rintro q (⟨k, e, h⟩ | h)
  · exact hw.2.1.2 k (q, e) h
  · exact hA q (Nat.le_trans hw.2.2.1 h)
theorem th_blind {D : va_G} {tys : List (ClassId × FieldType)} {E : th_Ex} {w : α → va_W} {u : α} {sz : Nat} {av : List Value} (hE : th_EO E) : FrameBlind (va_Pc av (th_Pre D tys E w u sz)) := fun a U g mk q => by
  obtain ⟨q0, q1, qP, qK, qD, qE⟩ := q
  exact ⟨q0, q1, qP, va_K.moved (u := U) (U := U.calling g mk a) (Vm.Alike.refl U.vm) qK, qD, hE.2 _ _ _ _ _ _ qE⟩
theorem th_start {D : va_G} {tys : List (ClassId × FieldType)} {E : th_Ex} {w : α → va_W} {A : Nat → Prop} {s : State} {u : α} {H : Heap} {locs : List Loc} {av : List Value} (hK : va_K D vwCl tys s) (hA : ∀ q, s.heap.size ≤ q → A q) (hE0 : E A s s.heap) (hE : th_EO E) (hw : th_wI D w A s.heap u H locs) : ∀ U : State, U.heap = H → s.WarmedH U.vm → va_Pc av (th_Pre D tys E w u H.size) av.toArray U := fun U hU hW => by
  refine ⟨rfl, by rw [hU], by rw [hU]; exact hw.1, va_K.moved hW.alike hK, hw.2.1.weaken (fun _ _ _ _ => trivial), ?_⟩
  rw [hU]
  exact hE.1 A _ s U s.heap H locs hE0 hw.2.2 hW (hw.free hA)
/-- a contract out of a walk of the body -/
theorem th_ofi {l : Launch} {y : MethodName} {cc : ByteArray} {n : Nat} {ret : Option FieldType} {d mc ms : Nat} {D : va_G} {tys : List (ClassId × FieldType)} {E : th_Ex} {w : α → va_W} {av : List Value} {u : α} {K : Int32 → α → Prop} (hy : plainName y.cls = true) (hav : (lg_sl av).length ≤ n) (hE : th_EO E)
    (body : ∀ (p : Program) (e : Env) (s : State) (m : MethodId) (below : List Frame) (meth : Method) (c : Code) (A : Nat → Prop) (ls : Array Slot), th_Cx p s m av.toArray meth c cc y.cls n ret D tys E A → th_wI D w A s.heap u s.heap [] → lv_has ls n (lv_args 0 av) →
      W p l e (th_rm d mc ms) s m av.toArray below meth c s.heap [] 0 0 (MQ below (va_Qi K (th_Post D w A) A) av.toArray s mc ms A) (F0 m 0 ls [])) : th_Ci l y cc n ret d mc ms D tys E w av u K := by
  intro sz
  refine Met.ofW (cc := cc) (maxL := n) (ret := ret) hy rfl ?_
  intro p e s m args below meth c s₁ B hml hv
  obtain ⟨rfl, hsz, hP, hK, hD0, hE0⟩ := hv
  subst hsz
  have hl := lv_entry av (n := n) hav
  rw [lg_entry_eq]
  exact body p e s m below meth c _ _ ⟨B.exec, B.bytes, hml, findClass_of_methodNamed B.named, fun w hw => atoms_spec (ws := Cond.code y cc n ret :: th_BIG) B.pre w (List.mem_cons_of_mem _ hw), hK, B.returns, B.notSynchronized, fun q h => Or.inr h, hE0, hE⟩ ⟨hP, hD0.self, va_S.rf⟩ hl
theorem th_ofl {l : Launch} {y : MethodName} {cc : ByteArray} {n : Nat} {ret : Option FieldType} {d mc ms : Nat} {D : va_G} {tys : List (ClassId × FieldType)} {E : th_Ex} {w : α → va_W} {av : List Value} {u : α} {K : Int64 → α → Prop} (hy : plainName y.cls = true) (hav : (lg_sl av).length ≤ n) (hE : th_EO E)
    (body : ∀ (p : Program) (e : Env) (s : State) (m : MethodId) (below : List Frame) (meth : Method) (c : Code) (A : Nat → Prop) (ls : Array Slot), th_Cx p s m av.toArray meth c cc y.cls n ret D tys E A → th_wI D w A s.heap u s.heap [] → lv_has ls n (lv_args 0 av) →
      W p l e (th_rm d mc ms) s m av.toArray below meth c s.heap [] 0 0 (MQ below (va_Ql K (th_Post D w A) A) av.toArray s mc ms A) (F0 m 0 ls [])) : th_Cl l y cc n ret d mc ms D tys E w av u K := by
  intro sz
  refine Met.ofW (cc := cc) (maxL := n) (ret := ret) hy rfl ?_
  intro p e s m args below meth c s₁ B hml hv
  obtain ⟨rfl, hsz, hP, hK, hD0, hE0⟩ := hv
  subst hsz
  have hl := lv_entry av (n := n) hav
  rw [lg_entry_eq]
  exact body p e s m below meth c _ _ ⟨B.exec, B.bytes, hml, findClass_of_methodNamed B.named, fun w hw => atoms_spec (ws := Cond.code y cc n ret :: th_BIG) B.pre w (List.mem_cons_of_mem _ hw), hK, B.returns, B.notSynchronized, fun q h => Or.inr h, hE0, hE⟩ ⟨hP, hD0.self, va_S.rf⟩ hl
theorem th_ofv {l : Launch} {y : MethodName} {cc : ByteArray} {n : Nat} {ret : Option FieldType} {d mc ms : Nat} {D : va_G} {tys : List (ClassId × FieldType)} {E : th_Ex} {w : α → va_W} {av : List Value} {u : α} {K : α → Prop} (hy : plainName y.cls = true) (hav : (lg_sl av).length ≤ n) (hE : th_EO E)
    (body : ∀ (p : Program) (e : Env) (s : State) (m : MethodId) (below : List Frame) (meth : Method) (c : Code) (A : Nat → Prop) (ls : Array Slot), th_Cx p s m av.toArray meth c cc y.cls n ret D tys E A → th_wI D w A s.heap u s.heap [] → lv_has ls n (lv_args 0 av) →
      W p l e (th_rm d mc ms) s m av.toArray below meth c s.heap [] 0 0 (MQ below (va_Qv K (th_Post D w A) A) av.toArray s mc ms A) (F0 m 0 ls [])) : th_Cv l y cc n ret d mc ms D tys E w av u K := by
  intro sz
  refine Met.ofW (cc := cc) (maxL := n) (ret := ret) hy rfl ?_
  intro p e s m args below meth c s₁ B hml hv
  obtain ⟨rfl, hsz, hP, hK, hD0, hE0⟩ := hv
  subst hsz
  have hl := lv_entry av (n := n) hav
  rw [lg_entry_eq]
  exact body p e s m below meth c _ _ ⟨B.exec, B.bytes, hml, findClass_of_methodNamed B.named, fun w hw => atoms_spec (ws := Cond.code y cc n ret :: th_BIG) B.pre w (List.mem_cons_of_mem _ hw), hK, B.returns, B.notSynchronized, fun q h => Or.inr h, hE0, hE⟩ ⟨hP, hD0.self, va_S.rf⟩ hl
section
variable {p : Program} {l : Launch} {e : Env} {R : Room} {s : State} {m : MethodId} {args : Array Value} {below : List Frame} {meth : Method} {c : Code} {H : Heap} {locs : List Loc} {cells slots : Nat} {Q : State → Prop} {cc bytes : ByteArray} {own : String} {nL pc idx n k d mc ms : Nat} {ret ret0 : Option FieldType} {D : va_G} {tys : List (ClassId × FieldType)} {E : th_Ex} {A : Nat → Prop} {w : α → va_W} {u : α} {y : MethodName} {ls : Array Slot} {rest As : List Value} {b : Addr} {C0 : String}
theorem th_iret {K : Int32 → α → Prop} {r : Int32} (C : th_Cx p s m args meth c cc own nL (some .int) D tys E A) (hw : th_wI D w A s.heap u H locs) (hf : K r u) (hd : decode cc pc = .ok (.ireturn, 1)) : W p l e R s m args below meth c H locs mc ms (MQ below (va_Qi K (th_Post D w A) A) args s mc ms A) (F0 m pc ls [.int r]) :=
  W.iret C.1 C.2.1 C.2.2.2.2.2.2.1 (fun t ht _ => ⟨⟨r, u, rfl, hf, by rw [ht]; exact hw.1, hw.2.1⟩, hw.2.2.F ht⟩) hw.2.2.2.2 hd C.2.2.2.2.2.2.2.1
theorem th_nz {r : Int32} (h : r = 0 ∨ r = 1) : narrow .boolean (.int r) = .int r := by rcases h with rfl | rfl <;> rfl
theorem th_fz {r : Int32} (h : r = 0 ∨ r = 1) : fits .boolean (.int r) = true := by rcases h with rfl | rfl <;> rfl
theorem th_zret {K : Int32 → α → Prop} {r : Int32} (C : th_Cx p s m args meth c cc own nL (some .boolean) D tys E A) (hw : th_wI D w A s.heap u H locs) (hf : (r = 0 ∨ r = 1) ∧ K r u) (hd : decode cc pc = .ok (.ireturn, 1)) : W p l e R s m args below meth c H locs mc ms (MQ below (va_Qi K (th_Post D w A) A) args s mc ms A) (F0 m pc ls [.int r]) :=
  W.zret C.1 C.2.1 C.2.2.2.2.2.2.1 (th_nz hf.1) (fun t ht _ => ⟨⟨r, u, rfl, hf.2, by rw [ht]; exact hw.1, hw.2.1⟩, hw.2.2.F ht⟩) hw.2.2.2.2 hd C.2.2.2.2.2.2.2.1
theorem th_lret {K : Int64 → α → Prop} {r : Int64} (C : th_Cx p s m args meth c cc own nL (some .long) D tys E A) (hw : th_wI D w A s.heap u H locs) (hf : K r u) (hd : decode cc pc = .ok (.lreturn, 1)) : W p l e R s m args below meth c H locs mc ms (MQ below (va_Ql K (th_Post D w A) A) args s mc ms A) (F0 m pc ls [.long r]) :=
  W.lret C.1 C.2.1 C.2.2.2.2.2.2.1 (fun t ht _ => ⟨⟨r, u, rfl, hf, by rw [ht]; exact hw.1, hw.2.1⟩, hw.2.2.F ht⟩) hw.2.2.2.2 hd C.2.2.2.2.2.2.2.1
theorem th_vret {K : α → Prop} (C : th_Cx p s m args meth c cc own nL none D tys E A) (hw : th_wI D w A s.heap u H locs) (hf : K u) (hd : decode cc pc = .ok (.return_, 1)) : W p l e R s m args below meth c H locs mc ms (MQ below (va_Qv K (th_Post D w A) A) args s mc ms A) (F0 m pc ls []) :=
  W.vret C.1 C.2.1 C.2.2.2.2.2.2.1 (fun t ht _ => ⟨⟨u, rfl, hf, by rw [ht]; exact hw.1, hw.2.1⟩, hw.2.2.F ht⟩) hw.2.2.2.2 hd C.2.2.2.2.2.2.2.1
/-- what a virtual call of y by the entry idx of own asks of the tables -/
def th_LV (own C0 : String) (idx : Nat) (y : MethodName) (bytes : ByteArray) (n k : Nat) (ret : Option FieldType) : Prop := GoodIn th_BIG (wsV own idx C0 y (Cond.code y bytes n ret :: th_BIG)) ∧ (y.cls = C0 ∧ y.cls ≠ "java/lang/invoke/MethodHandle" ∧ y.cls ≠ "java/lang/invoke/VarHandle" ∧ (parseMethodDescriptor y.desc).map (fun d => d.parameters.length) = some k)
def th_LS (own : String) (idx : Nat) (y : MethodName) (bytes : ByteArray) (n k : Nat) (ret : Option FieldType) : Prop := GoodIn th_BIG (wsS own idx y (Cond.code y bytes n ret :: th_BIG)) ∧ (y.cls = own ∧ y.cls ≠ "java/lang/invoke/MethodHandle" ∧ y.cls ≠ "java/lang/invoke/VarHandle" ∧ (parseMethodDescriptor y.desc).map (fun d => d.parameters.length) = some k)
def th_Rc (s : State) (H : Heap) (C0 : String) (b : Addr) : Prop := ∃ cell : Cell, H[b]? = some cell ∧ cell.vm.isStatics = false ∧ s.vm.findClass C0 = some cell.cls
theorem th_callVi {K : Int32 → α → Prop} {st : List Value} (C : th_Cx p s m args meth c cc own nL ret0 D tys E A) (hL : th_LV own C0 idx y bytes n k ret) (hM : th_Ci l y bytes n ret d mc ms D tys E w (.ref b :: As) u K) (hw : th_wI D w A s.heap u H locs) (hrc : th_Rc s H C0 b) (hst : st = As.reverse ++ .ref b :: rest) (hn : As.length = k) (hR : d + 1 ≤ R.frames ∧ 8 + (n + 11) + 50 * d ≤ R.locals) (hz : ls.size = nL) (hrest : (rest.map fun v => v.category).sum ≤ 8) (hcs : cells + mc ≤ R.cells ∧ slots + ms ≤ R.slots) (hd : decode cc pc = .ok (.invokevirtual idx, 3))
    (kk : ∀ (r : Int32) (u1 : α) (H1 : Heap) (locs1 : List Loc), K r u1 → th_wI D w A s.heap u1 H1 locs1 → W p l e R s m args below meth c H1 locs1 (cells + mc) (slots + ms) Q (F0 m (pc + 3) ls (.int r :: rest))) : W p l e R s m args below meth c H locs cells slots Q (F0 m pc ls st) := by
  obtain ⟨hx, hb, hml, hown, hts, hK, -, -, hA, hE0, hE⟩ := C
  subst hst
  have hF := hw.free hA
  refine va_calli (va_runV (As := As) (rest := rest) ⟨hx, hb, hml, hown, hts⟩ (hM H.size) (cwV k hts hL.1 rfl rfl rfl hL.2 hR) ⟨th_blind hE, hrc, th_start hK hA hE0 hE hw⟩ rfl hn hz rfl (lv_room hrest) hd hcs) hw.2.2 (fun q _ h => hF q h) hF (fun r u1 t H1 locs1 ht _ hp hB _ _ hS => kk r u1 H1 locs1 hp ⟨by rw [← ht]; exact hB.1, hB.2.weaken (fun _ q _ h => hF q.1 h), hS⟩)
theorem th_callVl {K : Int64 → α → Prop} {st : List Value} (C : th_Cx p s m args meth c cc own nL ret0 D tys E A) (hL : th_LV own C0 idx y bytes n k ret) (hM : th_Cl l y bytes n ret d mc ms D tys E w (.ref b :: As) u K) (hw : th_wI D w A s.heap u H locs) (hrc : th_Rc s H C0 b) (hst : st = As.reverse ++ .ref b :: rest) (hn : As.length = k) (hR : d + 1 ≤ R.frames ∧ 8 + (n + 11) + 50 * d ≤ R.locals) (hz : ls.size = nL) (hrest : (rest.map fun v => v.category).sum ≤ 8) (hcs : cells + mc ≤ R.cells ∧ slots + ms ≤ R.slots) (hd : decode cc pc = .ok (.invokevirtual idx, 3))
    (kk : ∀ (r : Int64) (u1 : α) (H1 : Heap) (locs1 : List Loc), K r u1 → th_wI D w A s.heap u1 H1 locs1 → W p l e R s m args below meth c H1 locs1 (cells + mc) (slots + ms) Q (F0 m (pc + 3) ls (.long r :: rest))) : W p l e R s m args below meth c H locs cells slots Q (F0 m pc ls st) := by
  obtain ⟨hx, hb, hml, hown, hts, hK, -, -, hA, hE0, hE⟩ := C
  subst hst
  have hF := hw.free hA
  refine va_calll (va_runV (As := As) (rest := rest) ⟨hx, hb, hml, hown, hts⟩ (hM H.size) (cwV k hts hL.1 rfl rfl rfl hL.2 hR) ⟨th_blind hE, hrc, th_start hK hA hE0 hE hw⟩ rfl hn hz rfl (lv_room hrest) hd hcs) hw.2.2 (fun q _ h => hF q h) hF (fun r u1 t H1 locs1 ht _ hp hB _ _ hS => kk r u1 H1 locs1 hp ⟨by rw [← ht]; exact hB.1, hB.2.weaken (fun _ q _ h => hF q.1 h), hS⟩)
theorem th_callVv {K : α → Prop} {st : List Value} (C : th_Cx p s m args meth c cc own nL ret0 D tys E A) (hL : th_LV own C0 idx y bytes n k ret) (hM : th_Cv l y bytes n ret d mc ms D tys E w (.ref b :: As) u K) (hw : th_wI D w A s.heap u H locs) (hrc : th_Rc s H C0 b) (hst : st = As.reverse ++ .ref b :: rest) (hn : As.length = k) (hR : d + 1 ≤ R.frames ∧ 8 + (n + 11) + 50 * d ≤ R.locals) (hz : ls.size = nL) (hrest : (rest.map fun v => v.category).sum ≤ 8) (hcs : cells + mc ≤ R.cells ∧ slots + ms ≤ R.slots) (hd : decode cc pc = .ok (.invokevirtual idx, 3))
    (kk : ∀ (u1 : α) (H1 : Heap) (locs1 : List Loc), K u1 → th_wI D w A s.heap u1 H1 locs1 → W p l e R s m args below meth c H1 locs1 (cells + mc) (slots + ms) Q (F0 m (pc + 3) ls rest)) : W p l e R s m args below meth c H locs cells slots Q (F0 m pc ls st) := by
  obtain ⟨hx, hb, hml, hown, hts, hK, -, -, hA, hE0, hE⟩ := C
  subst hst
  have hF := hw.free hA
  refine va_callv (va_runV (As := As) (rest := rest) ⟨hx, hb, hml, hown, hts⟩ (hM H.size) (cwV k hts hL.1 rfl rfl rfl hL.2 hR) ⟨th_blind hE, hrc, th_start hK hA hE0 hE hw⟩ rfl hn hz rfl (lv_room hrest) hd hcs) hw.2.2 (fun q _ h => hF q h) hF (fun u1 t H1 locs1 ht _ hp hB _ _ hS => kk u1 H1 locs1 hp ⟨by rw [← ht]; exact hB.1, hB.2.weaken (fun _ q _ h => hF q.1 h), hS⟩)
theorem th_callSi {K : Int32 → α → Prop} {st : List Value} (C : th_Cx p s m args meth c cc own nL ret0 D tys E A) (hL : th_LS own idx y bytes n k ret) (hM : th_Ci l y bytes n ret d mc ms D tys E w As u K) (hw : th_wI D w A s.heap u H locs) (hst : st = As.reverse ++ rest) (hn : As.length = k) (hR : d + 1 ≤ R.frames ∧ 8 + (n + 11) + 50 * d ≤ R.locals) (hz : ls.size = nL) (hrest : (rest.map fun v => v.category).sum ≤ 8) (hcs : cells + mc ≤ R.cells ∧ slots + ms ≤ R.slots) (hd : decode cc pc = .ok (.invokestatic idx, 3))
    (kk : ∀ (r : Int32) (u1 : α) (H1 : Heap) (locs1 : List Loc), K r u1 → th_wI D w A s.heap u1 H1 locs1 → W p l e R s m args below meth c H1 locs1 (cells + mc) (slots + ms) Q (F0 m (pc + 3) ls (.int r :: rest))) : W p l e R s m args below meth c H locs cells slots Q (F0 m pc ls st) := by
  obtain ⟨hx, hb, hml, hown, hts, hK, -, -, hA, hE0, hE⟩ := C
  subst hst
  have hF := hw.free hA
  refine va_calli (va_runS (As := As) (rest := rest) ⟨hx, hb, hml, hown, hts⟩ (hM H.size) (cwS k hts hL.1 rfl rfl rfl hL.2 hR) ⟨th_blind hE, th_start hK hA hE0 hE hw⟩ rfl hn hz rfl (lv_room hrest) hd hcs) hw.2.2 (fun q _ h => hF q h) hF (fun r u1 t H1 locs1 ht _ hp hB _ _ hS => kk r u1 H1 locs1 hp ⟨by rw [← ht]; exact hB.1, hB.2.weaken (fun _ q _ h => hF q.1 h), hS⟩)
theorem th_callSl {K : Int64 → α → Prop} {st : List Value} (C : th_Cx p s m args meth c cc own nL ret0 D tys E A) (hL : th_LS own idx y bytes n k ret) (hM : th_Cl l y bytes n ret d mc ms D tys E w As u K) (hw : th_wI D w A s.heap u H locs) (hst : st = As.reverse ++ rest) (hn : As.length = k) (hR : d + 1 ≤ R.frames ∧ 8 + (n + 11) + 50 * d ≤ R.locals) (hz : ls.size = nL) (hrest : (rest.map fun v => v.category).sum ≤ 8) (hcs : cells + mc ≤ R.cells ∧ slots + ms ≤ R.slots) (hd : decode cc pc = .ok (.invokestatic idx, 3))
    (kk : ∀ (r : Int64) (u1 : α) (H1 : Heap) (locs1 : List Loc), K r u1 → th_wI D w A s.heap u1 H1 locs1 → W p l e R s m args below meth c H1 locs1 (cells + mc) (slots + ms) Q (F0 m (pc + 3) ls (.long r :: rest))) : W p l e R s m args below meth c H locs cells slots Q (F0 m pc ls st) := by
  obtain ⟨hx, hb, hml, hown, hts, hK, -, -, hA, hE0, hE⟩ := C
  subst hst
  have hF := hw.free hA
  refine va_calll (va_runS (As := As) (rest := rest) ⟨hx, hb, hml, hown, hts⟩ (hM H.size) (cwS k hts hL.1 rfl rfl rfl hL.2 hR) ⟨th_blind hE, th_start hK hA hE0 hE hw⟩ rfl hn hz rfl (lv_room hrest) hd hcs) hw.2.2 (fun q _ h => hF q h) hF (fun r u1 t H1 locs1 ht _ hp hB _ _ hS => kk r u1 H1 locs1 hp ⟨by rw [← ht]; exact hB.1, hB.2.weaken (fun _ q _ h => hF q.1 h), hS⟩)
end
end
/-- a state value: ints, longs, arrays of ints (bytes, booleans), arrays of longs, by their places -/
abbrev th_St : Type := (Nat → Int32) × (Nat → Int64) × (Nat → Nat → Int32) × (Nat → Nat → Int64)
def th_si (u : th_St) (k : Nat) (v : Int32) : th_St := (va_up u.1 k v, u.2.1, u.2.2.1, u.2.2.2)
def th_sj (u : th_St) (k : Nat) (v : Int64) : th_St := (u.1, va_up u.2.1 k v, u.2.2.1, u.2.2.2)
def th_sa (u : th_St) (k : Nat) (f : Nat → Int32) : th_St := (u.1, u.2.1, va_up u.2.2.1 k f, u.2.2.2)
def th_sl (u : th_St) (k : Nat) (f : Nat → Int64) : th_St := (u.1, u.2.1, u.2.2.1, va_up u.2.2.2 k f)
def th_ty (cs : Nat → ClassId) : List (ClassId × FieldType) := [(cs 0, .byte), (cs 1, .int), (cs 2, .long), (cs 3, .boolean), (cs 4, .object "ThreadHouse$Row"), (cs 5, .object "ThreadHouse$Token")]
theorem th_sw {x : Int32} (n : Nat) (h : ¬ (x.toInt < 0 ∨ (n : Int) < x.toInt)) : ∃ k : Nat, k ≤ n ∧ x = nI k := by
  have h0 : ¬ x < 0 := fun hx => h (Or.inl (by simpa [Int32.lt_iff_toInt_lt] using hx))
  obtain ⟨j, hj, rfl⟩ := nI_of h0
  refine ⟨j, ?_, rfl⟩
  rw [nI_toInt hj] at h
  omega
theorem th_sw6 {x : Int32} (h : ¬ (x = (0 : Int32) ∨ x = (1 : Int32) ∨ x = (2 : Int32) ∨ x = (3 : Int32) ∨ x = (4 : Int32) ∨ x = (5 : Int32))) : x.toInt < 0 ∨ 5 < x.toInt := by
  apply Classical.byContradiction
  intro h2
  obtain ⟨k, hk, rfl⟩ := th_sw 5 h2
  rcases (show k = 0 ∨ k = 1 ∨ k = 2 ∨ k = 3 ∨ k = 4 ∨ k = 5 by omega) with rfl | rfl | rfl | rfl | rfl | rfl <;> exact h (by decide)
theorem th_sw3 {x : Int32} (h : ¬ (x = (0 : Int32) ∨ x = (1 : Int32) ∨ x = (2 : Int32))) : x.toInt < 0 ∨ 2 < x.toInt := by
  apply Classical.byContradiction
  intro h2
  obtain ⟨k, hk, rfl⟩ := th_sw 2 h2
  rcases (show k = 0 ∨ k = 1 ∨ k = 2 by omega) with rfl | rfl | rfl <;> exact h (by decide)

def th_XT {α : Type} (D : va_G) (w : α → va_W) (A : Nat → Prop) (T : α → Prop) : String → State → State → Prop := vx_X T (fun E9 u t => E9 = "java/util/NoSuchElementException" ∧ th_Post D w A u t) A
def th_Xi {α : Type} (l : Launch) (y : MethodName) (cc : ByteArray) (n : Nat) (ret : Option FieldType) (d mc ms : Nat) (D : va_G) (tys : List (ClassId × FieldType)) (E : th_Ex) (w : α → va_W) (av : List Value) (u : α) (K : Int32 → α → Prop) (T : α → Prop) : Prop :=
  ∀ sz, vx_Met l y (Cond.code y cc n ret :: th_BIG) (th_rm d mc ms) (va_Pc av (th_Pre D tys E w u sz)) (va_Qi K (th_Post D w (va_A (w u) sz)) (va_A (w u) sz)) (th_XT D w (va_A (w u) sz) T) mc ms (va_A (w u) sz)
def th_Xl {α : Type} (l : Launch) (y : MethodName) (cc : ByteArray) (n : Nat) (ret : Option FieldType) (d mc ms : Nat) (D : va_G) (tys : List (ClassId × FieldType)) (E : th_Ex) (w : α → va_W) (av : List Value) (u : α) (K : Int64 → α → Prop) (T : α → Prop) : Prop :=
  ∀ sz, vx_Met l y (Cond.code y cc n ret :: th_BIG) (th_rm d mc ms) (va_Pc av (th_Pre D tys E w u sz)) (va_Ql K (th_Post D w (va_A (w u) sz)) (va_A (w u) sz)) (th_XT D w (va_A (w u) sz) T) mc ms (va_A (w u) sz)
theorem th_ofXi {α : Type} {l : Launch} {y : MethodName} {cc : ByteArray} {n : Nat} {ret : Option FieldType} {d mc ms : Nat} {D : va_G} {tys : List (ClassId × FieldType)} {E : th_Ex} {w : α → va_W} {av : List Value} {u : α} {K : Int32 → α → Prop} {T : α → Prop} (hy : plainName y.cls = true) (hav : (lg_sl av).length ≤ n) (hE : th_EO E)
    (body : ∀ (p : Program) (e : Env) (s : State) (m : MethodId) (below : List Frame) (meth : Method) (c : Code) (A : Nat → Prop) (ls : Array Slot), th_Cx p s m av.toArray meth c cc y.cls n ret D tys E A → (∀ x ∈ c.exceptionTable.toList, False) → th_wI D w A s.heap u s.heap [] → lv_has ls n (lv_args 0 av) →
      W p l e (th_rm d mc ms) s m av.toArray below meth c s.heap [] 0 0 (vx_MQ below (va_Qi K (th_Post D w A) A) (th_XT D w A T) av.toArray s mc ms A) (F0 m 0 ls [])) : th_Xi l y cc n ret d mc ms D tys E w av u K T := by
  intro sz
  refine vx_ofW (cc := cc) (maxL := n) (ret := ret) hy rfl ?_
  intro p e s m args below meth c s₁ B hml hne hv
  obtain ⟨rfl, hsz, hP, hK, hD0, hE0⟩ := hv
  subst hsz
  have hl := lv_entry av (n := n) hav
  rw [lg_entry_eq]
  exact body p e s m below meth c _ _ ⟨B.exec, B.bytes, hml, findClass_of_methodNamed B.named, fun w hw => atoms_spec (ws := Cond.code y cc n ret :: th_BIG) B.pre w (List.mem_cons_of_mem _ hw), hK, B.returns, B.notSynchronized, fun q h => Or.inr h, hE0, hE⟩ hne ⟨hP, hD0.self, va_S.rf⟩ hl
theorem th_ofXl {α : Type} {l : Launch} {y : MethodName} {cc : ByteArray} {n : Nat} {ret : Option FieldType} {d mc ms : Nat} {D : va_G} {tys : List (ClassId × FieldType)} {E : th_Ex} {w : α → va_W} {av : List Value} {u : α} {K : Int64 → α → Prop} {T : α → Prop} (hy : plainName y.cls = true) (hav : (lg_sl av).length ≤ n) (hE : th_EO E)
    (body : ∀ (p : Program) (e : Env) (s : State) (m : MethodId) (below : List Frame) (meth : Method) (c : Code) (A : Nat → Prop) (ls : Array Slot), th_Cx p s m av.toArray meth c cc y.cls n ret D tys E A → (∀ x ∈ c.exceptionTable.toList, False) → th_wI D w A s.heap u s.heap [] → lv_has ls n (lv_args 0 av) →
      W p l e (th_rm d mc ms) s m av.toArray below meth c s.heap [] 0 0 (vx_MQ below (va_Ql K (th_Post D w A) A) (th_XT D w A T) av.toArray s mc ms A) (F0 m 0 ls [])) : th_Xl l y cc n ret d mc ms D tys E w av u K T := by
  intro sz
  refine vx_ofW (cc := cc) (maxL := n) (ret := ret) hy rfl ?_
  intro p e s m args below meth c s₁ B hml hne hv
  obtain ⟨rfl, hsz, hP, hK, hD0, hE0⟩ := hv
  subst hsz
  have hl := lv_entry av (n := n) hav
  rw [lg_entry_eq]
  exact body p e s m below meth c _ _ ⟨B.exec, B.bytes, hml, findClass_of_methodNamed B.named, fun w hw => atoms_spec (ws := Cond.code y cc n ret :: th_BIG) B.pre w (List.mem_cons_of_mem _ hw), hK, B.returns, B.notSynchronized, fun q h => Or.inr h, hE0, hE⟩ hne ⟨hP, hD0.self, va_S.rf⟩ hl
/-! a throw of java.util.NoSuchElementException with a text: its constructor names its own above by entry 13 -/
section
variable {p : Program} {l : Launch} {e : Env} {R : Room} {s : State} {m₀ : MethodId} {args : Array Value} {below : List Frame} {meth : Method} {c : Code} {V : State} {locs : List Loc} {cells slots : Nat}
def tn_N : String := "java/util/NoSuchElementException"
def tn_R : String := "java/lang/RuntimeException"
def tn_X : String := "java/lang/Exception"
def tn_b : ByteArray := ⟨#[0x2a, 0x2b, 0xb7, 0x00, 0x0d, 0xb1]⟩
theorem tn_0 : decode tn_b 0 = .ok (.aload_n 0, 1) := by decide +kernel
theorem tn_1 : decode tn_b 1 = .ok (.aload_n 1, 1) := by decide +kernel
theorem tn_2 : decode tn_b 2 = .ok (.invokespecial 13, 3) := by decide +kernel
theorem tn_5 : decode tn_b 5 = .ok (.return_, 1) := by decide +kernel
def tn_tail (own : String) (ic : Nat) : List Cond :=
  [.methodLink own ic (Bundle.initS tn_N), .instantiable tn_N 6, .castable tn_N tn_N, .selects tn_N Bundle.tFill0 Bundle.tFill0, .selects tn_N Bundle.tFill Bundle.tFill,
   .lays tn_N Bundle.tN "cause" "Ljava/lang/Throwable;", .lays tn_N Bundle.tN "stackTrace" Bundle.steD, .lays tn_N Bundle.tN "suppressedExceptions" Bundle.listD, .lays tn_N Bundle.tN "detailMessage" "Ljava/lang/String;",
   .isRef (.static Bundle.tN "UNASSIGNED_STACK" Bundle.steD), .isRef (.static Bundle.tN "SUPPRESSED_SENTINEL" Bundle.listD),
   .fieldLink Bundle.tN 198 Bundle.tN "backtrace" "Ljava/lang/Object;", .lays Bundle.tN Bundle.tN "backtrace" "Ljava/lang/Object;", .lays tn_N Bundle.tN "backtrace" "Ljava/lang/Object;"]
def tn_ws (own : String) (ic : Nat) : List Cond := Bundle.throwableAtoms ++ Bundle.throwableSAtoms ++ Bundle.passSAtoms tn_N tn_R 13 tn_b ++ Bundle.chainSAtoms tn_R [tn_X] ++ tn_tail own ic
theorem tn_m1 {own : String} {ic : Nat} {w : Cond} (h : w ∈ Bundle.throwableAtoms) : w ∈ tn_ws own ic := List.mem_append_left _ (List.mem_append_left _ (List.mem_append_left _ (List.mem_append_left _ h)))
theorem tn_m2 {own : String} {ic : Nat} {w : Cond} (h : w ∈ Bundle.throwableSAtoms) : w ∈ tn_ws own ic := List.mem_append_left _ (List.mem_append_left _ (List.mem_append_left _ (List.mem_append_right _ h)))
theorem tn_m3 {own : String} {ic : Nat} {w : Cond} (h : w ∈ Bundle.passSAtoms tn_N tn_R 13 tn_b) : w ∈ tn_ws own ic := List.mem_append_left _ (List.mem_append_left _ (List.mem_append_right _ h))
theorem tn_m4 {own : String} {ic : Nat} {w : Cond} (h : w ∈ Bundle.chainSAtoms tn_R [tn_X]) : w ∈ tn_ws own ic := List.mem_append_left _ (List.mem_append_right _ h)
theorem tn_m5 {own : String} {ic : Nat} {w : Cond} (h : w ∈ tn_tail own ic) : w ∈ tn_ws own ic := List.mem_append_right _ h
theorem tn_fit : Bundle.fit tn_N = true ∧ Bundle.fit tn_R = true ∧ Bundle.fit tn_X = true := by decide +kernel
theorem tn_made (X : Stand p l e R s m₀ args below meth c V locs cells slots) (hexec : p.tables.exec = Jvm.exec) (htr : e.platform.stackTraces = false) {own : String} {ic : Nat}
    (hown : s.vm.findClass own = some m₀.cls) (h : ∀ a ∈ tn_ws own ic, a.before args s = true)
    (hlocs : ∀ x ∈ locs, ∀ cell, s.heap[x.base]? = some cell → cell.vm.isStatics = false)
    {a : Addr} {cX : ClassId} {kX : Class} (hfoundX : s.vm.findClass tn_N = some cX) (hkX : s.vm.classes[cX]? = some kX) (hcell : V.heap[a]? = some (freshCell cX kX)) (hnew : s.heap.size ≤ a)
    {msg : Value} (hmsg : msg.isRef = true)
    {g : JFrame} (hg : g.method = m₀) (hsize : g.locals.size = c.maxLocals) (hlocked : g.locked = none) (hentered : g.entered = []) {rest : List Value} (hstack : g.stack = msg :: .ref a :: .ref a :: rest)
    (hd6 : decode c.code g.pc = .ok (.invokespecial ic, 3)) (hd9 : decode c.code (g.pc + 3) = .ok (.athrow, 1)) (hout : ∀ x ∈ c.exceptionTable.toList, covers x (g.pc + 3) = false)
    (hRframes : 5 < R.frames) (hRlocals : 2 * g.monitorRoom + ((Value.ref a :: rest).map fun v => v.category).sum + 81 ≤ R.locals) (hlocks : meth.locks = false) :
    ∃ U : State, Steps p.tables e below (V.setTop g) U ∧ U.status = .running ∧ Ended U below (.threw a) ∧ s.WarmedH U.vm ∧ s.sameButNew ({ U with vm := s.vm } : State) locs cells slots ∧
      ∃ ce, U.heap[a]? = some ce ∧ s.vm.findClass tn_N = some ce.cls ∧ ce.vm = .none := by
  have howns : e.platform.frameOwnsMonitors = true := by rw [X.admits.platform]
  have hfin : e.platform.finalization = false := by rw [X.admits.platform]
  have hpl : e.platform.magicAccessors = ({} : Platform).magicAccessors := by rw [X.admits.platform]
  have a' : ∀ x, x ∈ tn_tail own ic → x.holds args s none s [] = true := fun x hx => h x (tn_m5 hx)
  obtain ⟨T, Z0, L, -, Y⟩ := ThrowableC.of_atoms (args := args) howns hfin hpl (fun x hx => h x (tn_m1 hx))
  obtain ⟨Z, M, LZ, LM, hnZ⟩ := Init0T.ofS_atoms (args := args) hpl L Y (fun x hx => h x (tn_m2 hx))
  obtain ⟨P1, L1, hP1m, hP1s⟩ := PassC.ofS_atoms (args := args) (s := s) hpl (X := tn_N) (Y := tn_R) (Bundle.fit_spec tn_fit.1).1 (Bundle.fit_spec tn_fit.2.1).2 tn_0 tn_1 tn_2 tn_5 (fun x hx => h x (tn_m3 hx))
  obtain ⟨P2, Ps, hlen, L2, hL, hP2m, hlink2, hlink⟩ := Bundle.chainS (args := args) hpl hnZ [tn_X] tn_R tn_fit.2.1 (fun n hn => by rcases List.mem_singleton.mp hn with rfl; exact tn_fit.2.2) (fun x hx => h x (tn_m4 hx))
  have hP12 : P1.sup = P2.m := Option.some.inj (hP1s.symm.trans hP2m)
  have hfound : s.vm.findClass tn_N = some P1.m.cls := findClass_of_methodNamed hP1m
  cases Option.some.inj (hfoundX.symm.trans hfound)
  obtain ⟨c1, kX', hc1, hk, hord, -, -, hn6⟩ := Cond.instantiable_spec (a' (.instantiable tn_N 6) (by simp [tn_tail]))
  cases Option.some.inj (hc1.symm.trans hfound)
  cases Option.some.inj (hkX.symm.trans hk)
  have hsel0 : selectMethod e.platform s.vm P1.m.cls T.fill0 = .method T.fill0 := by
    obtain ⟨c2, r2, m2, q1, q2, q3, q4, -⟩ := Cond.selects_spec (a' (.selects tn_N Bundle.tFill0 Bundle.tFill0) (by simp [tn_tail]))
    cases Option.some.inj (q1.symm.trans hfound)
    cases Option.some.inj (q2.symm.trans (State.methodFound?_of_named Y.fill0 (by decide)))
    cases Option.some.inj (q3.symm.trans Y.fill0)
    rw [Launch.admits_selectMethod X.admits]; exact q4
  have hselF : selectMethod e.platform s.vm P1.m.cls T.fill = .method T.fill := by
    obtain ⟨c2, r2, m2, q1, q2, q3, q4, -⟩ := Cond.selects_spec (a' (.selects tn_N Bundle.tFill Bundle.tFill) (by simp [tn_tail]))
    cases Option.some.inj (q1.symm.trans hfound)
    cases Option.some.inj (q2.symm.trans (State.methodFound?_of_named Y.fill (by decide)))
    cases Option.some.inj (q3.symm.trans Y.fill)
    rw [Launch.admits_selectMethod X.admits]; exact q4
  obtain ⟨cellS0, hcS0, hiss⟩ := Y.statics
  obtain ⟨u0, hu0⟩ := Cond.staticRefV Y.unassigned L.unassignedStatic L.statics hcS0 hiss (a' (.isRef (.static Bundle.tN "UNASSIGNED_STACK" Bundle.steD)) (by simp [tn_tail]))
  obtain ⟨sen, hsen⟩ := Cond.staticRefV Y.sentinel L.sentinelStatic L.statics hcS0 hiss (a' (.isRef (.static Bundle.tN "SUPPRESSED_SENTINEL" Bundle.listD)) (by simp [tn_tail]))
  obtain ⟨ci198, i198, fB, hk198, hg198, ha198, hsB, -, hnB, htB, hffB⟩ := Cond.ownField (t := .object "java/lang/Object") Y.found L.cls (by decide +kernel) (a' (.fieldLink Bundle.tN 198 Bundle.tN "backtrace" "Ljava/lang/Object;") (by simp [tn_tail])) (a' (.lays Bundle.tN Bundle.tN "backtrace" "Ljava/lang/Object;") (by simp [tn_tail])) e.platform hpl
  obtain ⟨cellS, hcS', heS, -, hkeep⟩ := X.same.2.2.2.2.2 T.aS cellS0 hcS0
  have hcellS : V.heap[T.aS]? = some cellS := hcS'
  have hout' : ∀ i, (⟨T.aS, i⟩ : Loc) ∉ locs := fun i hmem => by
    have := hlocs _ hmem cellS0 hcS0
    rw [hiss] at this; cases this
  have hknownS : cellS.vm ≠ .unknown := by
    rw [heS]; intro hu
    rw [show cellS0.vm = .unknown from hu] at hiss
    cases hiss
  have hneS : T.aS ≠ a := Nat.ne_of_lt (Nat.lt_of_lt_of_le (Array.getElem?_eq_some_iff.mp hcS0).1 hnew)
  obtain ⟨iM, hffM⟩ := Y.msg
  obtain ⟨tyC, dC, hdC, hdnC⟩ := Cond.laysAt hfound hk Y.cause (a' (.lays tn_N Bundle.tN "cause" "Ljava/lang/Throwable;") (by simp [tn_tail]))
  obtain ⟨tyS, dS, hdS, hdnS⟩ := Cond.laysAt hfound hk Y.stack (a' (.lays tn_N Bundle.tN "stackTrace" Bundle.steD) (by simp [tn_tail]))
  obtain ⟨tyP, dP, hdP, hdnP⟩ := Cond.laysAt hfound hk Y.supp (a' (.lays tn_N Bundle.tN "suppressedExceptions" Bundle.listD) (by simp [tn_tail]))
  obtain ⟨tyM, dM, hdM, hdnM⟩ := Cond.laysAt hfound hk hffM (a' (.lays tn_N Bundle.tN "detailMessage" "Ljava/lang/String;") (by simp [tn_tail]))
  obtain ⟨tyB, dB, hdB, hdnB⟩ := Cond.laysAt hfound hk hffB (a' (.lays tn_N Bundle.tN "backtrace" "Ljava/lang/Object;") (by simp [tn_tail]))
  have bC := Cond.laysApart hdB hdC hdnB hdnC (by rw [hnB, Y.causeName]; decide)
  have bS := Cond.laysApart hdB hdS hdnB hdnS (by rw [hnB, Y.stackName]; decide)
  have bP := Cond.laysApart hdB hdP hdnB hdnP (by rw [hnB, Y.suppName]; decide)
  have hskip : SkipFacts T e.platform s (fun u => u) u0 ((preparedCellV T.toThrowableT (freshCell P1.m.cls kX) a u0 sen).withEntry V.cur) :=
    ⟨{ ci198 := ci198, i198 := i198, fBack := fB }, ⟨hk198, hg198, ha198, hsB⟩, by
      have := fresh_default (c := P1.m.cls) tyB
      rw [htB] at this
      simpa [preparedCellV, Cell.setSlot, Cell.withEntry, Array.getElem?_setIfInBounds, bC, bS, bP, bC.symm, bS.symm, bP.symm, defaultValue] using this, fun _ _ => rfl⟩
  obtain ⟨tm, methC, cdC, kC, vm₁, hnC, -, -, -, -, -, -, -, hW₁, st1⟩ := Steps.initColdS (tb := p.tables) (e := e) (below := below) (s := s) (U := V) X.here hexec X.warmed hpl hown (t := Bundle.initS tn_N) rfl rfl (Bundle.fit_spec tn_fit.1).2
    (a' (.methodLink own ic (Bundle.initS tn_N)) (by simp [tn_tail])) (h (.instanceMethod (Bundle.initS tn_N)) (tn_m3 (by simp [Bundle.passSAtoms]))) (bytes := tn_b) (maxL := 2) (h (.code (Bundle.initS tn_N) tn_b 2 none) (tn_m3 (by simp [Bundle.passSAtoms])))
    (f := g) hg (a := a) (msg := msg) (rest := .ref a :: rest) hstack hd6
  cases Option.some.inj (hnC.symm.trans hP1m)
  have X₁ := X.noted hW₁
  obtain ⟨vm₂, X₂, st2⟩ := X₁.ctorMessageOffV hexec (g := { g with stack := .ref a :: rest }) hg hsize T L Z LZ M LM (P1 :: P2 :: Ps)
    (fun P hP => by
      rcases List.mem_cons.mp hP with rfl | hP
      · exact L1
      rcases List.mem_cons.mp hP with rfl | hP
      · exact L2
      exact hL P hP) ⟨hP12, hlink2, hlink⟩ (u0 := u0) (sen := sen) (self := a) hmsg (cell := freshCell P1.m.cls kX) (cellS := cellS)
    hcell (fun _ => by simp) (by simp) rfl rfl hsel0 hselF hcellS hneS hknownS (by rw [hkeep _ (hout' _)]; exact hu0) (by rw [hkeep _ (hout' _)]; exact hsen)
    (Takes.of_laid hk hord tyC (by rw [Y.causeType]; rfl)) (Takes.of_laid hk hord tyS (by rw [Y.stackType]; exact fits_refV_array _ u0)) (Takes.of_laid hk hord tyP (by rw [Y.suppType]; exact fits_refV_object _ sen))
    (Takes.of_laid hk hord tyM (by rw [Y.msgType]; exact fits_refV_object _ ⟨msg, hmsg⟩)) Y.objLocals hskip htr [] hd6
    (by simp only [List.length_cons, hlen, List.length_nil]; omega) (by simp only [List.length_cons, hlen, List.length_nil]; exact hRlocals)
  obtain ⟨hwalk, hrun, hended, hWU, hsame⟩ := X₂.athrowLeaves hexec (g := { g with stack := .ref a :: rest, pc := g.pc + 3 }) hg hlocked hentered hout (a := a) (rest := rest) rfl hd9
  have hlt : a < ((V.setVm vm₁).setVm vm₂).heap.size := (Array.getElem?_eq_some_iff.mp hcell).1
  have hU := heapAt_setCell_self (s := (V.setVm vm₁).setVm vm₂) (plainBareV T.toThrowableT (freshCell P1.m.cls kX) a u0 sen msg) hlt
  refine ⟨_, st1 _ (fun acts => ?_), hrun, hended, hWU, hsame.weaken (fun y hy hlt' => ?_) (Nat.le_refl _) (Nat.le_refl _), _, hU, hfound, rfl⟩
  · rw [doInvoke_state]
    exact st2 _ hwalk
  · rcases List.mem_append.mp hy with h1 | h1
    · exact h1
    · exfalso
      have hb : y.base = a := by
        simp only [List.mem_cons, List.not_mem_nil, or_false] at h1
        rcases h1 with rfl | rfl | rfl | rfl | rfl <;> rfl
      rw [hb] at hlt'
      exact Nat.not_lt.mpr hnew hlt'
end
def tn_T (w : Cond) : Prop := vx_no w = true → w ∈ th_BIG ∨ w ∈ xs_nest
theorem tn_c {w : Cond} {B : List Cond} (h : tn_T w) (t : ∀ w ∈ B, tn_T w) : ∀ w' ∈ w :: B, tn_T w' := fun w' h' => (List.mem_cons.mp h').elim (fun e => by rw [e]; exact h) (t w')
theorem tn_g {w : Cond} (h : w ∈ th_BIG) : tn_T w := fun _ => Or.inl h
theorem tn_n {w : Cond} (h : w ∈ xs_nest) : tn_T w := fun _ => Or.inr h
theorem tn_h {w : Cond} (h : vx_no w = false) : tn_T w := fun e => by rw [h] at e; cases e
theorem tn_all : ∀ w ∈ tn_ws RX11 152, tn_T w := tn_c (tn_g (th_b1 22 rfl rfl)) <| tn_c (tn_g (th_b5 76 rfl rfl)) <| tn_c (tn_g (th_b5 85 rfl rfl)) <| tn_c (tn_g (th_b5 87 rfl rfl)) <| tn_c (tn_g (th_b5 90 rfl rfl)) <| tn_c (tn_g (th_b5 92 rfl rfl)) <| tn_c (tn_g (th_b5 77 rfl rfl)) <| tn_c (tn_g (th_b5 78 rfl rfl)) <| tn_c (tn_g (th_b1 32 rfl rfl)) <| tn_c (tn_g (th_b1 33 rfl rfl)) <| tn_c (tn_g (th_b5 79 rfl rfl)) <| tn_c (tn_g (th_b5 84 rfl rfl)) <| tn_c (tn_g (th_b5 88 rfl rfl)) <| tn_c (tn_g (th_b5 108 rfl rfl)) <| tn_c (tn_g (th_b5 66 rfl rfl)) <| tn_c (tn_g (th_b5 109 rfl rfl)) <| tn_c (tn_g (th_b5 68 rfl rfl)) <| tn_c (tn_g (th_b5 110 rfl rfl)) <| tn_c (tn_g (th_b5 70 rfl rfl)) <| tn_c (tn_g (th_b5 80 rfl rfl)) <| tn_c (tn_h (by decide +kernel)) <| tn_c (tn_g (th_b5 82 rfl rfl)) <| tn_c (tn_h (by decide +kernel)) <| tn_c (tn_g (th_b5 72 rfl rfl)) <| tn_c (tn_g (th_b5 104 rfl rfl)) <| tn_c (tn_g (th_b5 105 rfl rfl)) <| tn_c (tn_g (th_b5 107 rfl rfl)) <| tn_c (tn_g (th_b5 72 rfl rfl)) <| tn_c (tn_g (th_b5 95 rfl rfl)) <| tn_c (tn_g (th_b5 96 rfl rfl)) <| tn_c (tn_g (th_b5 97 rfl rfl)) <| tn_c (tn_g (th_b5 98 rfl rfl)) <| tn_c (tn_n (xs_n5 58 rfl rfl)) <| tn_c (tn_g (th_b5 98 rfl rfl)) <| tn_c (tn_g (th_b5 99 rfl rfl)) <| tn_c (tn_g (th_b5 100 rfl rfl)) <| tn_c (tn_g (th_b5 101 rfl rfl)) <| tn_c (tn_n (xs_n5 60 rfl rfl)) <| tn_c (tn_g (th_b5 101 rfl rfl)) <| tn_c (tn_g (th_b5 102 rfl rfl)) <| tn_c (tn_g (th_b5 103 rfl rfl)) <| tn_c (tn_g (th_b5 104 rfl rfl)) <| tn_c (tn_n (xs_n5 62 rfl rfl)) <| tn_c (tn_g (th_b5 94 rfl rfl)) <| tn_c (tn_g (th_b5 55 rfl rfl)) <| tn_c (tn_n (xs_n5 56 rfl rfl)) <| tn_c (tn_g (th_b5 63 rfl rfl)) <| tn_c (tn_g (th_b5 64 rfl rfl)) <| tn_c (tn_g (th_b5 65 rfl rfl)) <| tn_c (tn_g (th_b5 67 rfl rfl)) <| tn_c (tn_g (th_b5 69 rfl rfl)) <| tn_c (tn_g (th_b5 71 rfl rfl)) <| tn_c (tn_h (by decide +kernel)) <| tn_c (tn_h (by decide +kernel)) <| tn_c (tn_g (th_b5 75 rfl rfl)) <| tn_c (tn_g (th_b5 74 rfl rfl)) <| tn_c (tn_g (th_b5 73 rfl rfl)) <| fun _ h => nomatch h
theorem tn_own {args : Array Value} {s : State} {L : List Cond} (h0 : ∀ w ∈ L, tn_T w) (h1 : ∀ w ∈ th_BIG, w.before args s = true) (h2 : ∀ w ∈ xs_nest, w.before args s = true)
    (hU : (Cond.isRef (.static Bundle.tN "UNASSIGNED_STACK" Bundle.steD)).before args s = true) (hN : (Cond.isRef (.static Bundle.tN "SUPPRESSED_SENTINEL" Bundle.listD)).before args s = true)
    (lU : (Cond.laysStatic Bundle.tN "UNASSIGNED_STACK" Bundle.steD).before args s = true) (lN : (Cond.laysStatic Bundle.tN "SUPPRESSED_SENTINEL" Bundle.listD).before args s = true) : ∀ w ∈ L, w.before args s = true :=
  vx_own (fun w hw => (h0 w (List.mem_filter.mp hw).1 (List.mem_filter.mp hw).2).elim (h1 w) (h2 w)) hU hN lU lN
section
variable {p : Program} {l : Launch} {e : Env} {R : Room} {s : State} {m : MethodId} {args : Array Value} {below : List Frame} {meth : Method} {c : Code} {H : Heap} {locs : List Loc} {cells slots : Nat} {Q : State → Prop} {cc : ByteArray} {nL pc idx : Nat} {ret : Option FieldType} {dC : Nat → ClassId} {dI : Nat → Nat → Nat} {cs : Nat → ClassId} {ad ak : Nat → Nat} {q v g : Nat → Nat} {E : th_Ex} {A : Nat → Prop} {u : xs_St} {H0 : Heap} {ls : Array Slot} {rest : List Value} {own : String}
theorem x_thr {α : Type} {w : α → va_W} {u : α} {T0 : α → Prop} {Qc : Array Value → State → Outcome → State → Prop} {mc ms ik is sa : Nat} {text : String} (C : th_Cx p s m args meth c cc RX11 nL ret (dC, dI) (th_ty cs) (xE ad ak) A) (hlt : l.stackTraces = false) (hne : ∀ x ∈ c.exceptionTable.toList, False) (hw : th_wI (dC, dI) w A s.heap u H locs) (hf : T0 u) (hk : (Cond.classLink RX11 ik "java/util/NoSuchElementException").before args s = true) (hstr : vk_R RX11 is text sa s) (hz : ls.size = nL)
    (d0 : decode cc pc = .ok (.new ik, 3)) (d3 : decode cc (pc + 3) = .ok (.dup, 1)) (d4 : decode cc (pc + 4) = .ok (.ldc is, 2)) (d6 : decode cc (pc + 6) = .ok (.invokespecial 152, 3)) (d9 : decode cc (pc + 9) = .ok (.athrow, 1))
    (hRf : 5 < R.frames) (hRl : (rest.map fun v => v.category).sum + 82 ≤ R.locals) (hRc : cells + 1 ≤ R.cells) (hRs : slots + 6 ≤ R.slots) (hc : cells + 1 ≤ mc) (hs : slots + 6 ≤ ms) :
    W p l e R s m args below meth c H locs cells slots (vx_MQ below Qc (th_XT (dC, dI) w A T0) args s mc ms A) (F0 m pc ls rest) := by
  intro T hT X
  obtain ⟨hexec, hb, hml, hown, hts, hK, -, hlk, hA0, hE0, hE⟩ := C
  obtain ⟨e1, -, -, -, hU, hN, -⟩ := hE0
  have htr : e.platform.stackTraces = false := (show e.platform.stackTraces = l.stackTraces by rw [X.admits.platform]).trans hlt
  have Y := vx_rebase X (R' := { frames := R.frames, locals := R.locals, cells := 1, slots := 6 }) (Nat.le_refl _) (Nat.le_refl _) hRc hRs
  obtain ⟨s', hA⟩ : ∃ z, z = (T.setVm s.vm).setFrames (.invoking m args :: below) := ⟨_, rfl⟩
  rw [← hA] at Y
  have hvm : s'.vm = s.vm := by rw [hA]; rfl
  have hhp : s'.heap = H := by rw [hA]; exact hT
  have hW0 : s.WarmedH s'.vm := by rw [hvm]; exact State.WarmedH.refl s
  have hts' : ∀ w ∈ th_BIG, w.before args s' = true := fun w hw => word_at hW0 (good_of_word (List.mem_filter.mp hw).2) (hts w hw)
  have hns' : ∀ w ∈ xs_nest, w.before args s' = true := fun w hw => va_tabs (xs_nest_tab hw) hvm.symm (e1 w hw)
  have hk' : (Cond.classLink RX11 ik tn_N).before args s' = true := va_tabs rfl hvm.symm hk
  have hini' : (Cond.initialized tn_N).before args s' = true := hts' _ hwI_NSE
  have hU' : vx_Zq Bundle.tN "UNASSIGNED_STACK" Bundle.steD A s' s'.heap := by rw [hhp]; exact vx_Zq.moved hW0.alike (hU.kept hw.2.2.2.1)
  have hN' : vx_Zq Bundle.tN "SUPPRESSED_SENTINEL" Bundle.listD A s' s'.heap := by rw [hhp]; exact vx_Zq.moved hW0.alike (hN.kept hw.2.2.2.1)
  have h : ∀ w ∈ tn_ws RX11 152, w.before args s' = true := tn_own tn_all hts' hns' (vx_isRefq hU'.1) (vx_isRefq hN'.1) hU'.2.word hN'.2.word
  have hown' : s'.vm.findClass RX11 = some m.cls := by rw [hvm]; exact hown
  have hins : (Cond.instantiable tn_N 6).before args s' = true := h _ (tn_m5 (by simp [tn_tail]))
  obtain ⟨vm₁, cX, kX, hfX, hkX, -, -, X₁, st1⟩ := Y.newCold hexec (own := RX11) (C := tn_N) (index := ik) (n := 6) hown' hk' hins hini'
    (g := F0 m pc ls rest) rfl (by rw [hb]; exact d0) (Nat.le_refl _) (Nat.le_refl _)
  generalize hT1 : (T.setVm vm₁).pushCell { cls := cX, slots := kX.instanceTypes.map defaultValue, vm := .none } = T1 at X₁ st1
  have hcat : (Value.ref T.heap.size).category = 1 := rfl
  have hcellA : T1.heap[T.heap.size]? = some (freshCell cX kX) := by rw [← hT1]; exact State.heap_pushCell_size _ _
  have d3' : decode c.code (pc + 3) = .ok (.dup, 1) := by rw [hb]; exact d3
  have d4' : decode c.code (pc + 4) = .ok (.ldc is, 2) := by rw [hb]; exact d4
  have hstr' : vk_R RX11 is text sa s' := vk_R.warm hW0 hstr
  obtain ⟨U, hsteps, hrun, hend, hW, hsame, ce, hce, hO, hOv⟩ := tn_made X₁ hexec htr (own := RX11) (ic := 152) hown' h (fun x hx => nomatch hx) hfX hkX hcellA (by rw [hhp, hT]; exact Nat.le_refl _) (msg := .ref sa) rfl
    (g := { method := m, pc := pc + 6, locals := ls, stack := .ref sa :: .ref T.heap.size :: .ref T.heap.size :: rest, locked := none }) rfl (hz.trans hml.symm) rfl rfl (rest := rest) rfl
    (by rw [hb]; exact d6) (by rw [hb]; exact d9) (fun x hx => (hne x hx).elim) hRf (by simp only [List.map_cons, List.sum_cons, hcat]; omega) hlk
  obtain ⟨f1, f2⟩ := vx_frame hsame
  rw [hhp] at f1 f2
  have hWs : s.WarmedH U.vm := State.WarmedH.trans hW0 hW
  have hcl : s.vm.findClass tn_N = some ce.cls := by
    have h9 := hO
    rw [hvm] at h9
    exact h9
  have hall : s.sameButNew ({ U with vm := s.vm } : State) locs mc ms := by
    subst hA
    obtain ⟨e1, e2⟩ := hsame
    rw [State.setFrames_setFrames] at e1
    have h2 : (T.setVm s.vm).sameButNew ({ U with vm := s.vm } : State) [] (0 + 1) (0 + 6) := ⟨e1, e2⟩
    have h3 := X.same.trans h2
    rw [List.append_nil] at h3
    exact h3.mono hc hs
  have hfr : ∀ q : Nat, q < H.size → U.heap[q]? = H[q]? := fun q hq => f2 q hq (fun z hz => nomatch hz)
  have hx : th_XT (dC, dI) w A T0 tn_N s U := ⟨u, hf, ⟨rfl, va_P.kept hw.1 (fun k q hk => hfr q.1 (vx_lt hw.1 hk)), hw.2.1⟩, Nat.le_trans hw.2.2.1 f1, fun q h1 h2 => (hfr q (Nat.lt_of_lt_of_le h1 hw.2.2.1)).trans (hw.2.2.2.1 q h1 h2)⟩
  refine ⟨U, ?_, .threw T.heap.size, hrun, hend, Or.inr ⟨T.heap.size, rfl, tn_N, ce, locs, hx, hce, hOv, hcl, hWs, hall, hw.2.2.2.2⟩⟩
  refine st1 _ ?_
  show Steps p.tables e below (T1.setTop { method := m, pc := pc + 3, locals := ls, stack := .ref T.heap.size :: rest, locked := none }) _
  jvm_step X₁.here [X₁.here.top, hexec, d3', Value.category]
  exact X₁.ldcString hexec (own := RX11) (text := text) (index := is) (a := sa) hown' hstr'.1 hstr'.2
    (g := { method := m, pc := pc + 4, locals := ls, stack := .ref T.heap.size :: .ref T.heap.size :: rest, locked := none }) rfl d4' _ hsteps
end

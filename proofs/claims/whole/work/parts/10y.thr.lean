def th_XT {α : Type} (D : va_G) (w : α → va_W) (A : Nat → Prop) (T : α → Prop) : String → State → State → Prop := vx_X T (fun E9 u t => E9 = "java/util/NoSuchElementException" ∧ th_Post D w A u t) A
def th_Xi {α : Type} (l : Launch) (y : MethodName) (cc : ByteArray) (n : Nat) (ret : Option FieldType) (d mc ms : Nat) (D : va_G) (tys : List (ClassId × FieldType)) (E : th_Ex) (w : α → va_W) (av : List Value) (u : α) (K : Int32 → α → Prop) (T : α → Prop) : Prop :=
  ∀ sz, vx_Met l y (Cond.code y cc n ret :: th_BIG) (th_rm d mc ms) (va_Pc av (th_Pre D tys E w u sz)) (va_Qi K (th_Post D w (va_A (w u) sz)) (va_A (w u) sz)) (th_XT D w (va_A (w u) sz) T) mc ms (va_A (w u) sz)
def th_Xl {α : Type} (l : Launch) (y : MethodName) (cc : ByteArray) (n : Nat) (ret : Option FieldType) (d mc ms : Nat) (D : va_G) (tys : List (ClassId × FieldType)) (E : th_Ex) (w : α → va_W) (av : List Value) (u : α) (K : Int64 → α → Prop) (T : α → Prop) : Prop :=
  ∀ sz, vx_Met l y (Cond.code y cc n ret :: th_BIG) (th_rm d mc ms) (va_Pc av (th_Pre D tys E w u sz)) (va_Ql K (th_Post D w (va_A (w u) sz)) (va_A (w u) sz)) (th_XT D w (va_A (w u) sz) T) mc ms (va_A (w u) sz)
theorem th_ofXi {α : Type} {l : Launch} {y : MethodName} {cc : ByteArray} {n : Nat} {ret : Option FieldType} {d mc ms : Nat} {D : va_G} {tys : List (ClassId × FieldType)} {E : th_Ex} {w : α → va_W} {av : List Value} {u : α} {K : Int32 → α → Prop} {T : α → Prop} (hy : plainName y.cls = true) (hav : (lg_sl av).length ≤ n) (hE : th_EO E)
    (body : ∀ (p : Program) (e : Env) (s : State) (m : MethodId) (below : List Frame) (meth : Method) (c : Code) (A : Nat → Prop) (ls : Array Slot), th_Cx p s m av.toArray meth c cc y.cls n ret D tys E A → (∀ x ∈ c.exceptionTable.toList, False) → th_wI D w A s.heap u s.heap [] → lv_has ls n (lv_args 0 av) →
      W p l e (th_rm d mc ms) s m av.toArray below meth c s.heap [] 0 0 (vx_MQ below (va_Qi K (th_Post D w A) A) (th_XT D w A T) av.toArray s mc ms A) (F0 m 0 ls [])) : th_Xi l y cc n ret d mc ms D tys E w av u K T := by
  intro sz
  refine vx_ofW (cc := cc) (maxL := n) (ret := ret) hy rfl ?_
  intro p e s m args below meth c s₁ B hml hne hv
  obtain ⟨rfl, hsz, hP, hK, hD0, hE0⟩ := hv
  subst hsz
  have hl := lv_entry av (n := n) hav
  rw [lg_entry_eq]
  exact body p e s m below meth c _ _ ⟨B.exec, B.bytes, hml, findClass_of_methodNamed B.named, fun w hw => atoms_spec (ws := Cond.code y cc n ret :: th_BIG) B.pre w (List.mem_cons_of_mem _ hw), hK, B.returns, B.notSynchronized, fun q h => Or.inr h, hE0, hE⟩ hne ⟨hP, hD0.self, va_S.rf⟩ hl
theorem th_ofXl {α : Type} {l : Launch} {y : MethodName} {cc : ByteArray} {n : Nat} {ret : Option FieldType} {d mc ms : Nat} {D : va_G} {tys : List (ClassId × FieldType)} {E : th_Ex} {w : α → va_W} {av : List Value} {u : α} {K : Int64 → α → Prop} {T : α → Prop} (hy : plainName y.cls = true) (hav : (lg_sl av).length ≤ n) (hE : th_EO E)
    (body : ∀ (p : Program) (e : Env) (s : State) (m : MethodId) (below : List Frame) (meth : Method) (c : Code) (A : Nat → Prop) (ls : Array Slot), th_Cx p s m av.toArray meth c cc y.cls n ret D tys E A → (∀ x ∈ c.exceptionTable.toList, False) → th_wI D w A s.heap u s.heap [] → lv_has ls n (lv_args 0 av) →
      W p l e (th_rm d mc ms) s m av.toArray below meth c s.heap [] 0 0 (vx_MQ below (va_Ql K (th_Post D w A) A) (th_XT D w A T) av.toArray s mc ms A) (F0 m 0 ls [])) : th_Xl l y cc n ret d mc ms D tys E w av u K T := by
  intro sz
  refine vx_ofW (cc := cc) (maxL := n) (ret := ret) hy rfl ?_
  intro p e s m args below meth c s₁ B hml hne hv
  obtain ⟨rfl, hsz, hP, hK, hD0, hE0⟩ := hv
  subst hsz
  have hl := lv_entry av (n := n) hav
  rw [lg_entry_eq]
  exact body p e s m below meth c _ _ ⟨B.exec, B.bytes, hml, findClass_of_methodNamed B.named, fun w hw => atoms_spec (ws := Cond.code y cc n ret :: th_BIG) B.pre w (List.mem_cons_of_mem _ hw), hK, B.returns, B.notSynchronized, fun q h => Or.inr h, hE0, hE⟩ hne ⟨hP, hD0.self, va_S.rf⟩ hl
section
variable {p : Program} {l : Launch} {e : Env} {R : Room} {s : State} {m : MethodId} {args : Array Value} {below : List Frame} {meth : Method} {c : Code} {H : Heap} {locs : List Loc} {cells slots : Nat} {Q : State → Prop} {cc : ByteArray} {nL pc idx : Nat} {ret : Option FieldType} {dC : Nat → ClassId} {dI : Nat → Nat → Nat} {cs : Nat → ClassId} {ad ak : Nat → Nat} {q v g : Nat → Nat} {E : th_Ex} {A : Nat → Prop} {u : xs_St} {H0 : Heap} {ls : Array Slot} {rest : List Value} {own : String}
theorem x_thr {α : Type} {w : α → va_W} {u : α} {T : α → Prop} {Qc : Array Value → State → Outcome → State → Prop} {mc ms ik is sa : Nat} {text : String} (C : th_Cx p s m args meth c cc RX11 nL ret (dC, dI) (th_ty cs) (xE ad ak) A) (hlt : l.stackTraces = false) (hne : ∀ x ∈ c.exceptionTable.toList, False) (hw : th_wI (dC, dI) w A s.heap u H locs) (hf : T u) (hk : (Cond.classLink RX11 ik "java/util/NoSuchElementException").before args s = true) (hstr : vk_R RX11 is text sa s) (hz : ls.size = nL)
    (d0 : decode cc pc = .ok (.new ik, 3)) (d3 : decode cc (pc + 3) = .ok (.dup, 1)) (d4 : decode cc (pc + 4) = .ok (.ldc is, 2)) (d6 : decode cc (pc + 6) = .ok (.invokespecial 152, 3)) (d9 : decode cc (pc + 9) = .ok (.athrow, 1))
    (hRf : 5 < R.frames) (hRl : (rest.map fun v => v.category).sum + 82 ≤ R.locals) (hRc : cells + 1 ≤ R.cells) (hRs : slots + 6 ≤ R.slots) (hc : cells + 1 ≤ mc) (hs : slots + 6 ≤ ms) :
    W p l e R s m args below meth c H locs cells slots (vx_MQ below Qc (th_XT (dC, dI) w A T) args s mc ms A) (F0 m pc ls rest) := by
  sorry
end

/-! the class's side: state values, the pool of rows and feels, what stands beside the world -/
/-- the pool: addresses, kinds (1 a Row, 2 a byte array, 3 a Feel, 4 an int array), references by field, ints by field, lengths, contents -/
abbrev xs_Dy : Type := List Nat × (Nat → Nat) × (Nat → Nat → Option Nat) × (Nat → Nat → Int32) × (Nat → Nat) × (Nat → Nat → Int32)
/-- ints, longs, arrays of numbers; references by place; arrays of references by place; the pool -/
abbrev xs_St : Type := th_St × (Nat → Option Nat) × (Nat → Nat → Option Nat) × xs_Dy
abbrev xi (u : xs_St) (k : Nat) : Int32 := u.1.1 k
abbrev xa (u : xs_St) (k : Nat) : Nat → Int32 := u.1.2.2.1 k
abbrev xl (u : xs_St) (k : Nat) : Nat → Int64 := u.1.2.2.2 k
abbrev xr (u : xs_St) (k : Nat) : Option Nat := u.2.1 k
abbrev xo (u : xs_St) (k : Nat) : Nat → Option Nat := u.2.2.1 k
abbrev xdL (u : xs_St) : List Nat := u.2.2.2.1
abbrev xdK (u : xs_St) (a : Nat) : Nat := u.2.2.2.2.1 a
abbrev xdR (u : xs_St) (f a : Nat) : Option Nat := u.2.2.2.2.2.1 f a
abbrev xdI (u : xs_St) (f a : Nat) : Int32 := u.2.2.2.2.2.2.1 f a
abbrev xdN (u : xs_St) (a : Nat) : Nat := u.2.2.2.2.2.2.2.1 a
abbrev xdA (u : xs_St) (a : Nat) : Nat → Int32 := u.2.2.2.2.2.2.2.2 a
def xs_si (u : xs_St) (k : Nat) (v : Int32) : xs_St := (th_si u.1 k v, u.2)
def xs_sa (u : xs_St) (k : Nat) (f : Nat → Int32) : xs_St := (th_sa u.1 k f, u.2)
def xs_sl (u : xs_St) (k : Nat) (f : Nat → Int64) : xs_St := (th_sl u.1 k f, u.2)
def xs_sr (u : xs_St) (k : Nat) (v : Option Nat) : xs_St := (u.1, va_up u.2.1 k v, u.2.2)
def xs_so (u : xs_St) (k : Nat) (f : Nat → Option Nat) : xs_St := (u.1, u.2.1, va_up u.2.2.1 k f, u.2.2.2)
def xs_dr (u : xs_St) (f a : Nat) (v : Option Nat) : xs_St := (u.1, u.2.1, u.2.2.1, (u.2.2.2.1, u.2.2.2.2.1, va_up u.2.2.2.2.2.1 f (va_up (u.2.2.2.2.2.1 f) a v), u.2.2.2.2.2.2))
def xs_di (u : xs_St) (f a : Nat) (v : Int32) : xs_St := (u.1, u.2.1, u.2.2.1, (u.2.2.2.1, u.2.2.2.2.1, u.2.2.2.2.2.1, va_up u.2.2.2.2.2.2.1 f (va_up (u.2.2.2.2.2.2.1 f) a v), u.2.2.2.2.2.2.2))
def xs_da (u : xs_St) (a : Nat) (g : Nat → Int32) : xs_St := (u.1, u.2.1, u.2.2.1, (u.2.2.2.1, u.2.2.2.2.1, u.2.2.2.2.2.1, u.2.2.2.2.2.2.1, u.2.2.2.2.2.2.2.1, va_up u.2.2.2.2.2.2.2.2 a g))
def xd_is (u : xs_St) (a k : Nat) : Prop := a ∈ xdL u ∧ xdK u a = k
def xd_E (cs : Nat → ClassId) (d : xs_Dy) (a : Nat) : va_E :=
  if d.2.1 a = 1 then .inr (5, [va_rf (d.2.2.1 0 a), .int (d.2.2.2.1 0 a), .int (d.2.2.2.1 1 a)])
  else if d.2.1 a = 2 then .inl (cs 0, (d.2.2.2.2.1 a, .inl (d.2.2.2.2.2 a)))
  else if d.2.1 a = 3 then .inr (2, [va_rf (d.2.2.1 1 a), va_rf (d.2.2.1 2 a), va_rf (d.2.2.1 3 a), .int (d.2.2.2.1 2 a), .int (d.2.2.2.1 3 a), .int (d.2.2.2.1 4 a), va_rf (d.2.2.1 4 a), va_rf (d.2.2.1 5 a)])
  else .inl (cs 1, (d.2.2.2.2.1 a, .inl (d.2.2.2.2.2 a)))
/-- private members of nest mates -/
def xs_isN : Cond → Bool
  | .fieldLinkNest .. => true
  | .methodLinkNest .. => true
  | .declares .. => true
  | .castable .. => true
  | _ => false
def xs_nest : List Cond := tables_1.filter xs_isN
theorem xs_nest_warm {w : Cond} (hw : w ∈ xs_nest) {s U : State} (hW : s.WarmedH U.vm) (h : va_Nw w s) : va_Nw w U := by
  have h1 := (List.mem_filter.mp hw).2
  cases w <;> first | exact va_Nw.warmF hW h | exact va_Nw.warmM hW h | exact va_Nw.warmD hW h | exact va_Nw.warmC hW h | simp [xs_isN] at h1
theorem xs_nest_tab {w : Cond} (hw : w ∈ xs_nest) : w.onTables = true := by
  have h1 := (List.mem_filter.mp hw).2
  cases w <;> first | rfl | simp [xs_isN] at h1
def xs_names : List String := ["AT_END", "NO_TOKEN", "NUMBER", "SEMICOLON", "OPEN", "CLOSE", "LESS", "EQUAL", "MORE", "FEET", "FIXED", "TO", "HOLDS", "FROM", "PULL", "HEAT", "NOISE", "ALARM", "FOR", "OR", "AND", "NOT", "PEAK", "SUM", "SLIPS", "HOUR", "AT"]
def xs_txt : List (List Int32) := [[], [], [], [59], [40], [41], [60], [61], [62], [102, 101, 101, 116], [102, 105, 120, 101, 100], [116, 111], [104, 111, 108, 100, 115], [102, 114, 111, 109], [112, 117, 108, 108], [104, 101, 97, 116], [110, 111, 105, 115, 101], [97, 108, 97, 114, 109], [102, 111, 114], [111, 114], [97, 110, 100], [110, 111, 116], [112, 101, 97, 107], [115, 117, 109], [115, 108, 105, 112, 115], [104, 111, 117, 114], [97, 116]]
def xs_len (k : Nat) : Nat := (xs_txt.getD k []).length
def xs_chr (k j : Nat) : Int32 := (xs_txt.getD k []).getD j 0
/-- the enum's texts and its array, as they stand at the start: ak 0 the array, ak (100 + i) the text of constant i, ak (200 + i) its bytes -/
def xE2 (ad ak : Nat → Nat) : th_Ex := fun A U H => va_Z "ThreadHouse$Reader" "TOKENS" "[LThreadHouse$Token;" (.ref (ak 0)) A U H ∧ va_T (.object "ThreadHouse$Token") (ak 0) 27 (fun j => .ref (ad j)) A U H ∧ va_Ef 27 "ThreadHouse$Token" "written" "Ljava/lang/String;" (fun i => .ref (ak (100 + i))) ad A U H ∧
  (∀ i, i < 27 → va_O "java/lang/String" (ak (100 + i)) A U H ∧ va_OF "java/lang/String" "coder" "B" (.int 0) (ak (100 + i)) A U H ∧ va_OF "java/lang/String" "value" "[B" (.ref (ak (200 + i))) (ak (100 + i)) A U H ∧ va_T .byte (ak (200 + i)) (xs_len i) (fun j => .int (xs_chr i j)) A U H) ∧
  va_Z "java/lang/String" "COMPACT_STRINGS" "Z" (.int 1) A U H ∧ va_Zq "jdk/internal/util/Preconditions" "SIOOBE_FORMATTER" "Ljava/util/function/BiFunction;" A U H
theorem va_Zq.moved9 {C n d : String} {A : Nat → Prop} {u U : State} {H : Heap} (hvm : u.vm.Alike U.vm) (h : va_Zq C n d A u H) : va_Zq C n d A U H := h.elim (fun h => Or.inl (h.moved hvm)) (fun ⟨t, h⟩ => Or.inr ⟨t, h.moved hvm⟩)
theorem va_Zq.kept9 {C n d : String} {A : Nat → Prop} {U : State} {H H1 : Heap} (h : va_Zq C n d A U H) (hq : ∀ a : Nat, a < H.size → ¬ A a → H1[a]? = H[a]?) : va_Zq C n d A U H1 := h.elim (fun h => Or.inl (h.kept hq)) (fun ⟨t, h⟩ => Or.inr ⟨t, h.kept hq⟩)
theorem va_Zq.narrow9 {C n d : String} {A B : Nat → Prop} {U : State} {H : Heap} (h : va_Zq C n d A U H) (hAB : ∀ q, B q → A q) : va_Zq C n d B U H := h.elim (fun h => Or.inl (h.narrow hAB)) (fun ⟨t, h⟩ => Or.inr ⟨t, h.narrow hAB⟩)
theorem xE2_ok (ad ak : Nat → Nat) : th_EO (xE2 ad ak) := by
  refine ⟨fun A A' s U H0 H locs h hS hW hAA => ?_, fun A U g mk a H h => ?_⟩
  · have hq : ∀ a : Nat, a < H0.size → ¬ A a → H[a]? = H0[a]? := fun a h1 h2 => hS.2.1 a h1 h2
    obtain ⟨h1, h2, h3, h4, h5, h6⟩ := h
    exact ⟨((h1.kept hq).moved hW.alike).narrow hAA, ((h2.kept hq).moved hW.alike).narrow hAA, ((h3.kept hq).moved hW.alike).narrow hAA, fun i hi => ⟨(((h4 i hi).1.kept hq).moved hW.alike).narrow hAA, (((h4 i hi).2.1.kept hq).moved hW.alike).narrow hAA, (((h4 i hi).2.2.1.kept hq).moved hW.alike).narrow hAA, (((h4 i hi).2.2.2.kept hq).moved hW.alike).narrow hAA⟩, ((h5.kept hq).moved hW.alike).narrow hAA, ((h6.kept9 hq).moved9 hW.alike).narrow9 hAA⟩
  · obtain ⟨h1, h2, h3, h4, h5, h6⟩ := h
    have hv := Vm.Alike.refl U.vm
    exact ⟨h1.moved hv, h2.moved hv, h3.moved hv, fun i hi => ⟨(h4 i hi).1.moved hv, (h4 i hi).2.1.moved hv, (h4 i hi).2.2.1.moved hv, (h4 i hi).2.2.2.moved hv⟩, h5.moved hv, h6.moved9 hv⟩
/-- what a throw needs: two statics, the texts -/
def xE3 (ak : Nat → Nat) : th_Ex := fun A U H => vx_Zq Bundle.tN "UNASSIGNED_STACK" Bundle.steD A U H ∧ vx_Zq Bundle.tN "SUPPRESSED_SENTINEL" Bundle.listD A U H ∧ vk_R RX11 150 "no such foot or HOUR" (ak 300) U ∧ vk_R RX11 164 "no such foot, HOUR or BOX" (ak 301) U ∧ vk_R RX11 197 "no such TELLINGS, foot or what" (ak 302) U ∧ vk_R RX11 246 "no such number of noises or what" (ak 303) U
theorem xE3_ok (ak : Nat → Nat) : th_EO (xE3 ak) := by
  refine ⟨fun A A' s U H0 H locs h hS hW hAA => ?_, fun A U g mk a H h => ?_⟩
  · have hq : ∀ a : Nat, a < H0.size → ¬ A a → H[a]? = H0[a]? := fun a h1 h2 => hS.2.1 a h1 h2
    obtain ⟨h1, h2, h3, h4, h5, h6⟩ := h
    exact ⟨((h1.kept hq).moved hW.alike).narrow hAA, ((h2.kept hq).moved hW.alike).narrow hAA, h3.warm hW, h4.warm hW, h5.warm hW, h6.warm hW⟩
  · obtain ⟨h1, h2, h3, h4, h5, h6⟩ := h
    have hv := Vm.Alike.refl U.vm
    exact ⟨h1.moved hv, h2.moved hv, h3.same rfl, h4.same rfl, h5.same rfl, h6.same rfl⟩
def xE (ad ak : Nat → Nat) : th_Ex := fun A U H => (∀ w ∈ xs_nest, va_Nw w U) ∧ (∀ i j, ad i = ad j → i = j) ∧ va_En "ThreadHouse$Token" "LThreadHouse$Token;" xs_names [] ad A U H ∧ xE2 ad ak A U H ∧ xE3 ak A U H
theorem xE_ok (ad ak : Nat → Nat) : th_EO (xE ad ak) := by
  refine ⟨fun A A' s U H0 H locs h hS hW hAA => ⟨fun w hw => xs_nest_warm hw hW (h.1 w hw), h.2.1, ((h.2.2.1.kept (fun a h1 h2 => hS.2.1 a h1 h2)).moved hW.alike).narrow hAA, (xE2_ok ad ak).1 A A' s U H0 H locs h.2.2.2.1 hS hW hAA, (xE3_ok ak).1 A A' s U H0 H locs h.2.2.2.2 hS hW hAA⟩, fun A U g mk a H h => ⟨fun w hw => va_Nw.same (u := U) (U := U.calling g mk a) (xs_nest_tab hw) rfl (h.1 w hw), h.2.1, h.2.2.1.moved (Vm.Alike.refl U.vm), (xE2_ok ad ak).2 A U g mk a H h.2.2.2.1, (xE3_ok ak).2 A U g mk a H h.2.2.2.2⟩⟩
section
variable {α : Type}
def th_Cq (l : Launch) (y : MethodName) (cc : ByteArray) (n : Nat) (ret : Option FieldType) (d mc ms : Nat) (D : va_G) (tys : List (ClassId × FieldType)) (E : th_Ex) (w : α → va_W) (av : List Value) (u : α) (K : Option Nat → α → Prop) : Prop :=
  ∀ sz, Met l y (Cond.code y cc n ret :: th_BIG) (th_rm d mc ms) (va_Pc av (th_Pre D tys E w u sz)) (va_Qq K (th_Post D w (va_A (w u) sz)) (va_A (w u) sz)) mc ms (va_A (w u) sz)
theorem th_ofq {l : Launch} {y : MethodName} {cc : ByteArray} {n : Nat} {ret : Option FieldType} {d mc ms : Nat} {D : va_G} {tys : List (ClassId × FieldType)} {E : th_Ex} {w : α → va_W} {av : List Value} {u : α} {K : Option Nat → α → Prop} (hy : plainName y.cls = true) (hav : (lg_sl av).length ≤ n) (hE : th_EO E)
    (body : ∀ (p : Program) (e : Env) (s : State) (m : MethodId) (below : List Frame) (meth : Method) (c : Code) (A : Nat → Prop) (ls : Array Slot), th_Cx p s m av.toArray meth c cc y.cls n ret D tys E A → th_wI D w A s.heap u s.heap [] → lv_has ls n (lv_args 0 av) →
      W p l e (th_rm d mc ms) s m av.toArray below meth c s.heap [] 0 0 (MQ below (va_Qq K (th_Post D w A) A) av.toArray s mc ms A) (F0 m 0 ls [])) : th_Cq l y cc n ret d mc ms D tys E w av u K := by
  intro sz
  refine Met.ofW (cc := cc) (maxL := n) (ret := ret) hy rfl ?_
  intro p e s m args below meth c s₁ B hml hv
  obtain ⟨rfl, hsz, hP, hK, hD0, hE0⟩ := hv
  subst hsz
  have hl := lv_entry av (n := n) hav
  rw [lg_entry_eq]
  exact body p e s m below meth c _ _ ⟨B.exec, B.bytes, hml, findClass_of_methodNamed B.named, fun w hw => atoms_spec (ws := Cond.code y cc n ret :: th_BIG) B.pre w (List.mem_cons_of_mem _ hw), hK, B.returns, B.notSynchronized, fun q h => Or.inr h, hE0, hE⟩ ⟨hP, hD0.self, va_S.rf⟩ hl
section
variable {p : Program} {l : Launch} {e : Env} {R : Room} {s : State} {m : MethodId} {args : Array Value} {below : List Frame} {meth : Method} {c : Code} {H : Heap} {locs : List Loc} {cells slots : Nat} {Q : State → Prop} {cc bytes : ByteArray} {own : String} {nL pc idx n k d mc ms : Nat} {ret ret0 : Option FieldType} {D : va_G} {tys : List (ClassId × FieldType)} {E : th_Ex} {A : Nat → Prop} {w : α → va_W} {u : α} {y : MethodName} {ls : Array Slot} {rest As : List Value} {b : Addr} {C0 : String}
theorem th_qret {K : Option Nat → α → Prop} {r : Option Nat} {rt : FieldType} (hrt : (∃ n, rt = .object n) ∨ ∃ t, rt = .array t) (C : th_Cx p s m args meth c cc own nL (some rt) D tys E A) (hw : th_wI D w A s.heap u H locs) (hf : K r u) (hd : decode cc pc = .ok (.areturn, 1)) : W p l e R s m args below meth c H locs mc ms (MQ below (va_Qq K (th_Post D w A) A) args s mc ms A) (F0 m pc ls [va_rf r]) :=
  W.aret C.1 C.2.1 C.2.2.2.2.2.2.1 hrt (by cases r <;> simp [va_rf]) (fun t ht _ => ⟨⟨r, u, rfl, hf, by rw [ht]; exact hw.1, hw.2.1⟩, hw.2.2.F ht⟩) hw.2.2.2.2 hd C.2.2.2.2.2.2.2.1
theorem th_callVq {K : Option Nat → α → Prop} {st : List Value} (C : th_Cx p s m args meth c cc own nL ret0 D tys E A) (hL : th_LV own C0 idx y bytes n k ret) (hM : th_Cq l y bytes n ret d mc ms D tys E w (.ref b :: As) u K) (hw : th_wI D w A s.heap u H locs) (hrc : th_Rc s H C0 b) (hst : st = As.reverse ++ .ref b :: rest) (hn : As.length = k) (hR : d + 1 ≤ R.frames ∧ 8 + (n + 11) + 50 * d ≤ R.locals) (hz : ls.size = nL) (hrest : (rest.map fun v => v.category).sum ≤ 8) (hcs : cells + mc ≤ R.cells ∧ slots + ms ≤ R.slots) (hd : decode cc pc = .ok (.invokevirtual idx, 3))
    (kk : ∀ (r : Option Nat) (u1 : α) (H1 : Heap) (locs1 : List Loc), K r u1 → th_wI D w A s.heap u1 H1 locs1 → W p l e R s m args below meth c H1 locs1 (cells + mc) (slots + ms) Q (F0 m (pc + 3) ls (va_rf r :: rest))) : W p l e R s m args below meth c H locs cells slots Q (F0 m pc ls st) := by
  obtain ⟨hx, hb, hml, hown, hts, hK, -, -, hA, hE0, hE⟩ := C
  subst hst
  have hF := hw.free hA
  refine va_callq (va_runV (As := As) (rest := rest) ⟨hx, hb, hml, hown, hts⟩ (hM H.size) (cwV k hts hL.1 rfl rfl rfl hL.2 hR) ⟨th_blind hE, hrc, th_start hK hA hE0 hE hw⟩ rfl hn hz rfl (lv_room hrest) hd hcs) hw.2.2 (fun q _ h => hF q h) hF (fun r u1 t H1 locs1 ht _ hp hB _ _ hS => kk r u1 H1 locs1 hp ⟨by rw [← ht]; exact hB.1, hB.2.weaken (fun _ q _ h => hF q.1 h), hS⟩)
theorem th_callSv {K : α → Prop} {st : List Value} (C : th_Cx p s m args meth c cc own nL ret0 D tys E A) (hL : GoodIn th_BIG (va_wsS own idx y (Cond.code y bytes n ret :: th_BIG)) ∧ (y.cls ≠ "java/lang/invoke/MethodHandle" ∧ y.cls ≠ "java/lang/invoke/VarHandle" ∧ (parseMethodDescriptor y.desc).map (fun d => d.parameters.length) = some k)) (hM : th_Cv l y bytes n ret d mc ms D tys E w As u K) (hw : th_wI D w A s.heap u H locs) (hst : st = As.reverse ++ rest) (hn : As.length = k) (hR : d + 1 ≤ R.frames ∧ 8 + (n + 11) + 50 * d ≤ R.locals) (hz : ls.size = nL) (hrest : (rest.map fun v => v.category).sum ≤ 8) (hcs : cells + mc ≤ R.cells ∧ slots + ms ≤ R.slots) (hd : decode cc pc = .ok (.invokestatic idx, 3))
    (kk : ∀ (u1 : α) (H1 : Heap) (locs1 : List Loc), K u1 → th_wI D w A s.heap u1 H1 locs1 → W p l e R s m args below meth c H1 locs1 (cells + mc) (slots + ms) Q (F0 m (pc + 3) ls rest)) : W p l e R s m args below meth c H locs cells slots Q (F0 m pc ls st) := by
  obtain ⟨hx, hb, hml, hown, hts, hK, -, -, hA, hE0, hE⟩ := C
  subst hst
  have hF := hw.free hA
  have ok : ∀ w ∈ va_wsS own idx y (Cond.code y bytes n ret :: th_BIG), w.before args s = true := fun w h => hts w (hL.1 w h).1
  refine va_callv (va_runS (As := As) (rest := rest) ⟨hx, hb, hml, hown, hts⟩ (hM H.size) ⟨callB_of k hts (fun w h => hL.1 w (by unfold va_wsS; exact List.mem_append_right _ h)) rfl rfl rfl (ok _ (by simp [va_wsS])) (ok _ (by simp [va_wsS])) hL.2 hR, ok _ (by simp [va_wsS])⟩ ⟨th_blind hE, th_start hK hA hE0 hE hw⟩ rfl hn hz rfl (lv_room hrest) hd hcs) hw.2.2 (fun q _ h => hF q h) hF (fun u1 t H1 locs1 ht _ hp hB _ _ hS => kk u1 H1 locs1 hp ⟨by rw [← ht]; exact hB.1, hB.2.weaken (fun _ q _ h => hF q.1 h), hS⟩)
end
end
section
variable {p : Program} {l : Launch} {e : Env} {R : Room} {s : State} {m : MethodId} {args : Array Value} {below : List Frame} {meth : Method} {c : Code} {H : Heap} {locs : List Loc} {cells slots : Nat} {Q : State → Prop} {cc : ByteArray} {pc : Nat} {ls : Array Slot} {rest : List Value}
/-- references that may be null -/
theorem th_cat (r : Option Nat) : (va_rf r).category = 1 := by cases r <;> rfl
theorem th_cate (ad : Nat → Nat) (r : Option Nat) : (va_re ad r).category = 1 := by cases r <;> rfl
theorem th_topq {r : Option Nat} {b : Nat} (h : r = some b) (k : W p l e R s m args below meth c H locs cells slots Q (F0 m pc ls (.ref b :: rest))) : W p l e R s m args below meth c H locs cells slots Q (F0 m pc ls (va_rf r :: rest)) := by subst h; exact k
theorem th_nameq {r : Option Nat} (k : ∀ y : Option Nat, y = r → W p l e R s m args below meth c H locs cells slots Q (F0 m pc ls (va_rf y :: rest))) : W p l e R s m args below meth c H locs cells slots Q (F0 m pc ls (va_rf r :: rest)) := k r rfl
theorem th_aload_n (hexec : p.tables.exec = Jvm.exec) (hb : c.code = cc) {k : Fin 4} {i : Nat} {r : Option Nat} (hdg : decode cc pc = .ok (.aload_n k, 1)) (hi : (k : Nat) = i) (hl : ls[i]? = some (.val (va_rf r))) (kk : W p l e R s m args below meth c H locs cells slots Q (F0 m (pc + 1) ls (va_rf r :: rest))) : W p l e R s m args below meth c H locs cells slots Q (F0 m pc ls rest) := by
  cases r with
  | none => exact lv_aload_nN hexec hb hdg hi hl kk
  | some a => exact lv_aload_n hexec hb hdg hi hl kk
theorem th_aload (hexec : p.tables.exec = Jvm.exec) (hb : c.code = cc) {i : Nat} {r : Option Nat} (hdg : decode cc pc = .ok (.aload i, 2)) (hl : ls[i]? = some (.val (va_rf r))) (kk : W p l e R s m args below meth c H locs cells slots Q (F0 m (pc + 2) ls (va_rf r :: rest))) : W p l e R s m args below meth c H locs cells slots Q (F0 m pc ls rest) := by
  cases r with
  | none => exact lv_aloadN hexec hb hdg hl kk
  | some a => exact lv_aload hexec hb hdg hl kk
theorem th_fcat (r : Option Nat) (i : Nat) : (fun q : Nat × Value => !(q.1 == i) && !(q.1 + 1 == i && q.2.category == 2)) = (fun q : Nat × Value => !(q.1 == i) && !(q.1 + 1 == i && q.2.category == 2)) := rfl
theorem th_astore_n (hexec : p.tables.exec = Jvm.exec) (hb : c.code = cc) {k : Fin 4} {i nL : Nat} {r : Option Nat} {lv lv' : List (Nat × Value)} (hdg : decode cc pc = .ok (.astore_n k, 1)) (hi : (k : Nat) = i) (h : lv_has ls nL lv) (hn : i < nL) (hl : (i, va_rf r) :: lv.filter (fun q => !(q.1 == i) && !(q.1 + 1 == i && q.2.category == 2)) = lv') (kk : ∀ ls' : Array Slot, lv_has ls' nL lv' → W p l e R s m args below meth c H locs cells slots Q (F0 m (pc + 1) ls' rest)) : W p l e R s m args below meth c H locs cells slots Q (F0 m pc ls (va_rf r :: rest)) := by
  cases r with
  | none => exact lv_astore_nN hexec hb hdg hi h hn hl kk
  | some a => exact lv_astore_n hexec hb hdg hi h hn hl kk
theorem th_astore (hexec : p.tables.exec = Jvm.exec) (hb : c.code = cc) {i nL : Nat} {r : Option Nat} {lv lv' : List (Nat × Value)} (hdg : decode cc pc = .ok (.astore i, 2)) (h : lv_has ls nL lv) (hn : i < nL) (hl : (i, va_rf r) :: lv.filter (fun q => !(q.1 == i) && !(q.1 + 1 == i && q.2.category == 2)) = lv') (kk : ∀ ls' : Array Slot, lv_has ls' nL lv' → W p l e R s m args below meth c H locs cells slots Q (F0 m (pc + 2) ls' rest)) : W p l e R s m args below meth c H locs cells slots Q (F0 m pc ls (va_rf r :: rest)) := by
  cases r with
  | none => exact lv_astoreN hexec hb hdg h hn hl kk
  | some a => exact lv_astore hexec hb hdg h hn hl kk
theorem th_ifnull (hexec : p.tables.exec = Jvm.exec) (hb : c.code = cc) {r : Option Nat} {off : Int} {tgt : Nat} (hdg : decode cc pc = .ok (.ifnull off, 3)) (ht : (pc : Int) + off = (tgt : Int)) (kt : r = none → W p l e R s m args below meth c H locs cells slots Q (F0 m tgt ls rest)) (kf : ¬ r = none → W p l e R s m args below meth c H locs cells slots Q (F0 m (pc + 3) ls rest)) : W p l e R s m args below meth c H locs cells slots Q (F0 m pc ls (va_rf r :: rest)) := by
  cases r with
  | none => exact lv_ifnullN hexec hb hdg ht (kt rfl)
  | some a => exact lv_ifnull hexec hb hdg (kf (fun h => by cases h))
theorem th_ifnonnull (hexec : p.tables.exec = Jvm.exec) (hb : c.code = cc) {r : Option Nat} {off : Int} {tgt : Nat} (hdg : decode cc pc = .ok (.ifnonnull off, 3)) (ht : (pc : Int) + off = (tgt : Int)) (kt : ¬ r = none → W p l e R s m args below meth c H locs cells slots Q (F0 m tgt ls rest)) (kf : r = none → W p l e R s m args below meth c H locs cells slots Q (F0 m (pc + 3) ls rest)) : W p l e R s m args below meth c H locs cells slots Q (F0 m pc ls (va_rf r :: rest)) := by
  cases r with
  | none => exact lv_ifnonnullN hexec hb hdg (kf rfl)
  | some a => exact lv_ifnonnull hexec hb hdg ht (kt (fun h => by cases h))
end

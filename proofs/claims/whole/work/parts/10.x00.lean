section
variable {p : Program} {l : Launch} {e : Env} {s : State} {m : MethodId} {args : Array Value} {below : List Frame} {meth : Method} {c : Code} {dC : Nat → ClassId} {dI : Nat → Nat → Nat} {cs : Nat → ClassId} {ad ak : Nat → Nat} {q v : Nat → Nat} {A : Nat → Prop}
/-! X_BD_addRow -/
theorem dX0_addRow_0 : decode cX0_addRow 0 = .ok (.aload_n 0, 1) := by decide +kernel
theorem dX0_addRow_1 : decode cX0_addRow 1 = .ok (.getfield 32, 3) := by decide +kernel
theorem dX0_addRow_4 : decode cX0_addRow 4 = .ok (.bipush 100, 2) := by decide +kernel
theorem dX0_addRow_6 : decode cX0_addRow 6 = .ok (.if_icmp .ge 23, 3) := by decide +kernel
theorem dX0_addRow_9 : decode cX0_addRow 9 = .ok (.aload_n 0, 1) := by decide +kernel
theorem dX0_addRow_10 : decode cX0_addRow 10 = .ok (.getfield 13, 3) := by decide +kernel
theorem dX0_addRow_13 : decode cX0_addRow 13 = .ok (.aload_n 0, 1) := by decide +kernel
theorem dX0_addRow_14 : decode cX0_addRow 14 = .ok (.getfield 32, 3) := by decide +kernel
theorem dX0_addRow_17 : decode cX0_addRow 17 = .ok (.aload_n 1, 1) := by decide +kernel
theorem dX0_addRow_18 : decode cX0_addRow 18 = .ok (.aastore, 1) := by decide +kernel
theorem dX0_addRow_19 : decode cX0_addRow 19 = .ok (.aload_n 0, 1) := by decide +kernel
theorem dX0_addRow_20 : decode cX0_addRow 20 = .ok (.dup, 1) := by decide +kernel
theorem dX0_addRow_21 : decode cX0_addRow 21 = .ok (.getfield 32, 3) := by decide +kernel
theorem dX0_addRow_24 : decode cX0_addRow 24 = .ok (.iconst 1, 1) := by decide +kernel
theorem dX0_addRow_25 : decode cX0_addRow 25 = .ok (.iadd, 1) := by decide +kernel
theorem dX0_addRow_26 : decode cX0_addRow 26 = .ok (.putfield 32, 3) := by decide +kernel
theorem dX0_addRow_29 : decode cX0_addRow 29 = .ok (.return_, 1) := by decide +kernel
def X_BD_addRow_29 (K : xs_St → Prop) (u : xs_St) : Prop :=
  K u
set_option maxHeartbeats 4000000 in
set_option maxRecDepth 100000 in
theorem X_BD_addRow_29_w {K : xs_St → Prop} (C : th_Cx p s m args meth c cX0_addRow RX0 2 (none) (dC, dI) (th_ty cs) (xE ad ak) A) (u : xs_St) (H : Heap) (locs : List Loc) (ls : Array Slot) (hf : X_BD_addRow_29 K u) (hw : th_wI (dC, dI) (wX cs ad q v v) A s.heap u H locs) (hl : lv_has ls 2 []) : W p l e (th_rm 0 0 0) s m args below meth c H locs 0 0 (MQ below (va_Qv K (th_Post (dC, dI) (wX cs ad q v v) A) A) args s 0 0 A) (F0 m 29 ls []) := by
  have hx := C.1
  have hb := C.2.1
  unfold X_BD_addRow_29 at hf
  exact th_vret C hw hf dX0_addRow_29
def X_BD_addRow (a1 : Option Nat) (u : xs_St) (K : xs_St → Prop) : Prop :=
  (((100 : Int32) ≤ (xi u 503) → X_BD_addRow_29 K u) ∧ (¬ (100 : Int32) ≤ (xi u 503) → (∃ b_2 : Nat, a1 = some b_2 ∧ xd_is u b_2 1 ∧ (vp_in (xi u 503) 100 ∧ ∀ u_1 : xs_St, u_1 = xs_so u 500 (va_up (xo u 500) ((xi u 503)).toNatClampNeg (some b_2)) → ∀ u_3 : xs_St, u_3 = xs_si u_1 503 ((xi u_1 503) + (1 : Int32)) → X_BD_addRow_29 K u_3))))
set_option maxHeartbeats 4000000 in
set_option maxRecDepth 100000 in
theorem X_BD_addRow_c {l : Launch} {dC : Nat → ClassId} {dI : Nat → Nat → Nat} {cs : Nat → ClassId} {ad ak : Nat → Nat} {q v : Nat → Nat} {a1 : Option Nat} {u : xs_St} {K : xs_St → Prop} (hf : X_BD_addRow a1 u K) : th_Cv l yX0_addRow cX0_addRow 2 (none) 0 0 0 (dC, dI) (th_ty cs) (xE ad ak) (wX cs ad q v v) [.ref (q 599), va_rf a1] u K := by
  refine th_ofv (by decide) (by cases a1 <;> exact Nat.le_of_ble_eq_true rfl) (xE_ok ad ak) ?_
  intro p e s m below meth c A ls C hw hl
  have C : th_Cx p s m _ meth c cX0_addRow RX0 2 (none) (dC, dI) (th_ty cs) (xE ad ak) A := C
  have hl : lv_has ls 2 [(0, .ref (q 599)), (1, va_rf a1)] := by cases a1 <;> exact hl
  generalize (List.toArray _ : Array Value) = args at C ⊢
  have hx := C.1
  have hb := C.2.1
  unfold X_BD_addRow at hf
  refine lv_aload_n hx hb dX0_addRow_0 rfl (lv_at hl 0 rfl) ?_
  refine xg_503 C hw (C.2.2.2.2.1 _ hwF_X0_32) dX0_addRow_1 ?_
  refine lv_bipush (v := (100 : Int32)) hx hb dX0_addRow_4 (by decide) ?_
  refine lv_icmp_ge (tgt := 29) hx hb dX0_addRow_6 (by decide) (fun hc => ?_) (fun hc => ?_)
  · replace hf := hf.1 hc
    clear hc
    exact X_BD_addRow_29_w C  u _ _ _ hf hw (lv_sub hl [] rfl)
  · replace hf := hf.2 hc
    clear hc
    refine lv_aload_n hx hb dX0_addRow_9 rfl (lv_at hl 0 rfl) ?_
    refine xg_500 C hw (C.2.2.2.2.1 _ hwF_X0_13) dX0_addRow_10 ?_
    refine lv_aload_n hx hb dX0_addRow_13 rfl (lv_at hl 0 rfl) ?_
    refine xg_503 C hw (C.2.2.2.2.1 _ hwF_X0_32) dX0_addRow_14 ?_
    refine th_aload_n hx hb dX0_addRow_17 rfl (lv_at hl 1 rfl) ?_
    obtain ⟨b_2, e9, hm, hf⟩ := hf
    refine W.eq (g2 := F0 m 18 ls [.ref b_2, .int (xi u 503), .ref (q 500)]) (congrArg (fun z9 => F0 m 18 ls [va_rf z9, .int (xi u 503), .ref (q 500)]) e9) ?_
    clear e9
    refine ys_500 C hw hm hf.1 dX0_addRow_18 (fun u_1 e9 H locs hw => ?_)
    replace hf := hf.2 u_1 e9
    clear e9
    refine lv_aload_n hx hb dX0_addRow_19 rfl (lv_at hl 0 rfl) ?_
    refine lv_dup hx hb dX0_addRow_20 rfl ?_
    refine xg_503 C hw (C.2.2.2.2.1 _ hwF_X0_32) dX0_addRow_21 ?_
    refine lv_iconst (v := (1 : Int32)) hx hb dX0_addRow_24 (by decide) ?_
    refine lv_iadd hx hb dX0_addRow_25 ?_
    refine xp_503 C hw (C.2.2.2.2.1 _ hwF_X0_32) dX0_addRow_26 (fun u_3 e9 H locs hw => ?_)
    replace hf := hf u_3 e9
    clear e9
    exact X_BD_addRow_29_w C  u_3 _ _ _ hf hw (lv_sub hl [] rfl)
/-! X_BD_lookBack -/
theorem dX0_lookBack_0 : decode cX0_lookBack 0 = .ok (.iconst 0, 1) := by decide +kernel
theorem dX0_lookBack_1 : decode cX0_lookBack 1 = .ok (.istore_n 2, 1) := by decide +kernel
theorem dX0_lookBack_2 : decode cX0_lookBack 2 = .ok (.iconst 0, 1) := by decide +kernel
theorem dX0_lookBack_3 : decode cX0_lookBack 3 = .ok (.istore_n 3, 1) := by decide +kernel
theorem dX0_lookBack_4 : decode cX0_lookBack 4 = .ok (.iload_n 3, 1) := by decide +kernel
theorem dX0_lookBack_5 : decode cX0_lookBack 5 = .ok (.aload_n 0, 1) := by decide +kernel
theorem dX0_lookBack_6 : decode cX0_lookBack 6 = .ok (.getfield 32, 3) := by decide +kernel
theorem dX0_lookBack_9 : decode cX0_lookBack 9 = .ok (.if_icmp .ge 84, 3) := by decide +kernel
theorem dX0_lookBack_12 : decode cX0_lookBack 12 = .ok (.aload_n 0, 1) := by decide +kernel
theorem dX0_lookBack_13 : decode cX0_lookBack 13 = .ok (.getfield 13, 3) := by decide +kernel
theorem dX0_lookBack_16 : decode cX0_lookBack 16 = .ok (.iload_n 3, 1) := by decide +kernel
theorem dX0_lookBack_17 : decode cX0_lookBack 17 = .ok (.aaload, 1) := by decide +kernel
theorem dX0_lookBack_18 : decode cX0_lookBack 18 = .ok (.astore 4, 2) := by decide +kernel
theorem dX0_lookBack_20 : decode cX0_lookBack 20 = .ok (.aload 4, 2) := by decide +kernel
theorem dX0_lookBack_22 : decode cX0_lookBack 22 = .ok (.ifnull 12, 3) := by decide +kernel
theorem dX0_lookBack_25 : decode cX0_lookBack 25 = .ok (.aload 4, 2) := by decide +kernel
theorem dX0_lookBack_27 : decode cX0_lookBack 27 = .ok (.getfield 59, 3) := by decide +kernel
theorem dX0_lookBack_30 : decode cX0_lookBack 30 = .ok (.iload_n 1, 1) := by decide +kernel
theorem dX0_lookBack_31 : decode cX0_lookBack 31 = .ok (.if_icmp .le 5, 3) := by decide +kernel
theorem dX0_lookBack_34 : decode cX0_lookBack 34 = .ok (.iload_n 2, 1) := by decide +kernel
theorem dX0_lookBack_35 : decode cX0_lookBack 35 = .ok (.ireturn, 1) := by decide +kernel
theorem dX0_lookBack_36 : decode cX0_lookBack 36 = .ok (.aload 4, 2) := by decide +kernel
theorem dX0_lookBack_38 : decode cX0_lookBack 38 = .ok (.getfield 62, 3) := by decide +kernel
theorem dX0_lookBack_41 : decode cX0_lookBack 41 = .ok (.ifCond .lt 46, 3) := by decide +kernel
theorem dX0_lookBack_44 : decode cX0_lookBack 44 = .ok (.aload 4, 2) := by decide +kernel
theorem dX0_lookBack_46 : decode cX0_lookBack 46 = .ok (.getfield 62, 3) := by decide +kernel
theorem dX0_lookBack_49 : decode cX0_lookBack 49 = .ok (.bipush 40, 2) := by decide +kernel
theorem dX0_lookBack_51 : decode cX0_lookBack 51 = .ok (.if_icmp .ge 36, 3) := by decide +kernel
theorem dX0_lookBack_54 : decode cX0_lookBack 54 = .ok (.aload_n 0, 1) := by decide +kernel
theorem dX0_lookBack_55 : decode cX0_lookBack 55 = .ok (.getfield 17, 3) := by decide +kernel
theorem dX0_lookBack_58 : decode cX0_lookBack 58 = .ok (.aload 4, 2) := by decide +kernel
theorem dX0_lookBack_60 : decode cX0_lookBack 60 = .ok (.getfield 62, 3) := by decide +kernel
theorem dX0_lookBack_63 : decode cX0_lookBack 63 = .ok (.aload 4, 2) := by decide +kernel
theorem dX0_lookBack_65 : decode cX0_lookBack 65 = .ok (.aastore, 1) := by decide +kernel
theorem dX0_lookBack_66 : decode cX0_lookBack 66 = .ok (.aload 4, 2) := by decide +kernel
theorem dX0_lookBack_68 : decode cX0_lookBack 68 = .ok (.getfield 62, 3) := by decide +kernel
theorem dX0_lookBack_71 : decode cX0_lookBack 71 = .ok (.iload_n 2, 1) := by decide +kernel
theorem dX0_lookBack_72 : decode cX0_lookBack 72 = .ok (.if_icmp .lt 13, 3) := by decide +kernel
theorem dX0_lookBack_75 : decode cX0_lookBack 75 = .ok (.aload 4, 2) := by decide +kernel
theorem dX0_lookBack_77 : decode cX0_lookBack 77 = .ok (.getfield 62, 3) := by decide +kernel
theorem dX0_lookBack_80 : decode cX0_lookBack 80 = .ok (.iconst 1, 1) := by decide +kernel
theorem dX0_lookBack_81 : decode cX0_lookBack 81 = .ok (.iadd, 1) := by decide +kernel
theorem dX0_lookBack_82 : decode cX0_lookBack 82 = .ok (.goto 4, 3) := by decide +kernel
theorem dX0_lookBack_85 : decode cX0_lookBack 85 = .ok (.iload_n 2, 1) := by decide +kernel
theorem dX0_lookBack_86 : decode cX0_lookBack 86 = .ok (.istore_n 2, 1) := by decide +kernel
theorem dX0_lookBack_87 : decode cX0_lookBack 87 = .ok (.iinc 3 1, 3) := by decide +kernel
theorem dX0_lookBack_90 : decode cX0_lookBack 90 = .ok (.goto (-86), 3) := by decide +kernel
theorem dX0_lookBack_93 : decode cX0_lookBack 93 = .ok (.iload_n 2, 1) := by decide +kernel
theorem dX0_lookBack_94 : decode cX0_lookBack 94 = .ok (.ireturn, 1) := by decide +kernel
def X_BD_lookBack_34 (K : Int32 → xs_St → Prop) (x2 : Int32) (u : xs_St) : Prop :=
  K x2 u
set_option maxHeartbeats 4000000 in
set_option maxRecDepth 100000 in
theorem X_BD_lookBack_34_w {K : Int32 → xs_St → Prop} (C : th_Cx p s m args meth c cX0_lookBack RX0 5 (some .int) (dC, dI) (th_ty cs) (xE ad ak) A) (x2 : Int32) (u : xs_St) (H : Heap) (locs : List Loc) (ls : Array Slot) (hf : X_BD_lookBack_34 K x2 u) (hw : th_wI (dC, dI) (wX cs ad q v v) A s.heap u H locs) (hl : lv_has ls 5 [(2, .int x2)]) : W p l e (th_rm 0 0 0) s m args below meth c H locs 0 0 (MQ below (va_Qi K (th_Post (dC, dI) (wX cs ad q v v) A) A) args s 0 0 A) (F0 m 34 ls []) := by
  have hx := C.1
  have hb := C.2.1
  unfold X_BD_lookBack_34 at hf
  refine lv_iload_n hx hb dX0_lookBack_34 rfl (lv_at hl 0 rfl) ?_
  exact th_iret C hw hf dX0_lookBack_35
def X_BD_lookBack_87 (K : Int32 → xs_St → Prop) (k4 : Int32 → Int32 → Int32 → xs_St → Prop) (x1 : Int32) (x2 : Int32) (x3 : Int32) (u : xs_St) : Prop :=
  ∀ x3_1 : Int32, x3_1 = x3 + (1 : Int32) → k4 x1 x2 x3_1 u
set_option maxHeartbeats 4000000 in
set_option maxRecDepth 100000 in
theorem X_BD_lookBack_87_w {K : Int32 → xs_St → Prop} {k4 : Int32 → Int32 → Int32 → xs_St → Prop} (C : th_Cx p s m args meth c cX0_lookBack RX0 5 (some .int) (dC, dI) (th_ty cs) (xE ad ak) A) (hk4 : ∀ (x1 : Int32) (x2 : Int32) (x3 : Int32) (u : xs_St) (H : Heap) (locs : List Loc) (ls : Array Slot), k4 x1 x2 x3 u → th_wI (dC, dI) (wX cs ad q v v) A s.heap u H locs → lv_has ls 5 [(0, .ref (q 599)), (1, .int x1), (2, .int x2), (3, .int x3)] → W p l e (th_rm 0 0 0) s m args below meth c H locs 0 0 (MQ below (va_Qi K (th_Post (dC, dI) (wX cs ad q v v) A) A) args s 0 0 A) (F0 m 4 ls [])) (x1 : Int32) (x2 : Int32) (x3 : Int32) (u : xs_St) (H : Heap) (locs : List Loc) (ls : Array Slot) (hf : X_BD_lookBack_87 K k4 x1 x2 x3 u) (hw : th_wI (dC, dI) (wX cs ad q v v) A s.heap u H locs) (hl : lv_has ls 5 [(0, .ref (q 599)), (1, .int x1), (2, .int x2), (3, .int x3)]) : W p l e (th_rm 0 0 0) s m args below meth c H locs 0 0 (MQ below (va_Qi K (th_Post (dC, dI) (wX cs ad q v v) A) A) args s 0 0 A) (F0 m 87 ls []) := by
  have hx := C.1
  have hb := C.2.1
  unfold X_BD_lookBack_87 at hf
  obtain ⟨x3_1, e9⟩ : ∃ y : Int32, y = x3 + (1 : Int32) := ⟨_, rfl⟩
  replace hf := hf x3_1 e9
  refine lv_iinc (v := x3_1) (lv' := [(3, .int x3_1), (0, .ref (q 599)), (1, .int x1), (2, .int x2)]) hx hb dX0_lookBack_87 hl (k := 3) rfl (by rw [e9]; rfl) (by decide) rfl (fun ls hl => ?_)
  clear e9
  refine lv_goto (tgt := 4) hx hb dX0_lookBack_90 (by decide) ?_
  exact hk4 x1 x2 x3_1 u _ _ _ hf hw (lv_sub hl [1, 2, 3, 0] rfl)
def X_BD_lookBack_86 (K : Int32 → xs_St → Prop) (k4 : Int32 → Int32 → Int32 → xs_St → Prop) (x1 : Int32) (x3 : Int32) (z0 : Int32) (u : xs_St) : Prop :=
  X_BD_lookBack_87 K k4 x1 z0 x3 u
set_option maxHeartbeats 4000000 in
set_option maxRecDepth 100000 in
theorem X_BD_lookBack_86_w {K : Int32 → xs_St → Prop} {k4 : Int32 → Int32 → Int32 → xs_St → Prop} (C : th_Cx p s m args meth c cX0_lookBack RX0 5 (some .int) (dC, dI) (th_ty cs) (xE ad ak) A) (hk4 : ∀ (x1 : Int32) (x2 : Int32) (x3 : Int32) (u : xs_St) (H : Heap) (locs : List Loc) (ls : Array Slot), k4 x1 x2 x3 u → th_wI (dC, dI) (wX cs ad q v v) A s.heap u H locs → lv_has ls 5 [(0, .ref (q 599)), (1, .int x1), (2, .int x2), (3, .int x3)] → W p l e (th_rm 0 0 0) s m args below meth c H locs 0 0 (MQ below (va_Qi K (th_Post (dC, dI) (wX cs ad q v v) A) A) args s 0 0 A) (F0 m 4 ls [])) (x1 : Int32) (x3 : Int32) (z0 : Int32) (u : xs_St) (H : Heap) (locs : List Loc) (ls : Array Slot) (hf : X_BD_lookBack_86 K k4 x1 x3 z0 u) (hw : th_wI (dC, dI) (wX cs ad q v v) A s.heap u H locs) (hl : lv_has ls 5 [(0, .ref (q 599)), (1, .int x1), (3, .int x3)]) : W p l e (th_rm 0 0 0) s m args below meth c H locs 0 0 (MQ below (va_Qi K (th_Post (dC, dI) (wX cs ad q v v) A) A) args s 0 0 A) (F0 m 86 ls [.int z0]) := by
  have hx := C.1
  have hb := C.2.1
  unfold X_BD_lookBack_86 at hf
  refine lv_istore_n (lv' := [(2, .int z0), (0, .ref (q 599)), (1, .int x1), (3, .int x3)]) hx hb dX0_lookBack_86 rfl hl (by decide) rfl (fun ls hl => ?_)
  exact X_BD_lookBack_87_w C hk4 x1 z0 x3 u _ _ _ hf hw (lv_sub hl [1, 2, 0, 3] rfl)
def X_BD_lookBack_4 (K : Int32 → xs_St → Prop) (k4 : Int32 → Int32 → Int32 → xs_St → Prop) (x1 : Int32) (x2 : Int32) (x3 : Int32) (u : xs_St) : Prop :=
  (((xi u 503) ≤ x3 → K x2 u) ∧ (¬ (xi u 503) ≤ x3 → (vp_in x3 100 ∧ ∀ y_1 : Option Nat, y_1 = xo u 500 (x3).toNatClampNeg → ((y_1 = none → X_BD_lookBack_34 K x2 u) ∧ (¬ y_1 = none → (∃ b_2 : Nat, y_1 = some b_2 ∧ xd_is u b_2 1 ∧ (((xdI u 1 b_2) ≤ x1 → (∃ b_3 : Nat, y_1 = some b_3 ∧ xd_is u b_3 1 ∧ (((xdI u 0 b_3) < 0 → X_BD_lookBack_87 K k4 x1 x2 x3 u) ∧ (¬ (xdI u 0 b_3) < 0 → (∃ b_4 : Nat, y_1 = some b_4 ∧ xd_is u b_4 1 ∧ (((40 : Int32) ≤ (xdI u 0 b_4) → X_BD_lookBack_87 K k4 x1 x2 x3 u) ∧ (¬ (40 : Int32) ≤ (xdI u 0 b_4) → (∃ b_5 : Nat, y_1 = some b_5 ∧ xd_is u b_5 1 ∧ (∃ b_7 : Nat, y_1 = some b_7 ∧ xd_is u b_7 1 ∧ (vp_in (xdI u 0 b_5) 40 ∧ ∀ u_6 : xs_St, u_6 = xs_so u 501 (va_up (xo u 501) ((xdI u 0 b_5)).toNatClampNeg (some b_7)) → (∃ b_8 : Nat, y_1 = some b_8 ∧ xd_is u_6 b_8 1 ∧ (((xdI u_6 0 b_8) < x2 → X_BD_lookBack_86 K k4 x1 x3 x2 u_6) ∧ (¬ (xdI u_6 0 b_8) < x2 → (∃ b_9 : Nat, y_1 = some b_9 ∧ xd_is u_6 b_9 1 ∧ X_BD_lookBack_86 K k4 x1 x3 ((xdI u_6 0 b_9) + (1 : Int32)) u_6)))))))))))))) ∧ (¬ (xdI u 1 b_2) ≤ x1 → X_BD_lookBack_34 K x2 u))))))))
set_option maxHeartbeats 4000000 in
set_option maxRecDepth 100000 in
theorem X_BD_lookBack_4_w {K : Int32 → xs_St → Prop} {k4 : Int32 → Int32 → Int32 → xs_St → Prop} (C : th_Cx p s m args meth c cX0_lookBack RX0 5 (some .int) (dC, dI) (th_ty cs) (xE ad ak) A) (hk4 : ∀ (x1 : Int32) (x2 : Int32) (x3 : Int32) (u : xs_St) (H : Heap) (locs : List Loc) (ls : Array Slot), k4 x1 x2 x3 u → th_wI (dC, dI) (wX cs ad q v v) A s.heap u H locs → lv_has ls 5 [(0, .ref (q 599)), (1, .int x1), (2, .int x2), (3, .int x3)] → W p l e (th_rm 0 0 0) s m args below meth c H locs 0 0 (MQ below (va_Qi K (th_Post (dC, dI) (wX cs ad q v v) A) A) args s 0 0 A) (F0 m 4 ls [])) (x1 : Int32) (x2 : Int32) (x3 : Int32) (u : xs_St) (H : Heap) (locs : List Loc) (ls : Array Slot) (hf : X_BD_lookBack_4 K k4 x1 x2 x3 u) (hw : th_wI (dC, dI) (wX cs ad q v v) A s.heap u H locs) (hl : lv_has ls 5 [(0, .ref (q 599)), (1, .int x1), (2, .int x2), (3, .int x3)]) : W p l e (th_rm 0 0 0) s m args below meth c H locs 0 0 (MQ below (va_Qi K (th_Post (dC, dI) (wX cs ad q v v) A) A) args s 0 0 A) (F0 m 4 ls []) := by
  have hx := C.1
  have hb := C.2.1
  unfold X_BD_lookBack_4 at hf
  refine lv_iload_n hx hb dX0_lookBack_4 rfl (lv_at hl 3 rfl) ?_
  refine lv_aload_n hx hb dX0_lookBack_5 rfl (lv_at hl 0 rfl) ?_
  refine xg_503 C hw (C.2.2.2.2.1 _ hwF_X0_32) dX0_lookBack_6 ?_
  refine lv_icmp_ge (tgt := 93) hx hb dX0_lookBack_9 (by decide) (fun hc => ?_) (fun hc => ?_)
  · replace hf := hf.1 hc
    clear hc
    refine lv_iload_n hx hb dX0_lookBack_93 rfl (lv_at hl 2 rfl) ?_
    exact th_iret C hw hf dX0_lookBack_94
  · replace hf := hf.2 hc
    clear hc
    refine lv_aload_n hx hb dX0_lookBack_12 rfl (lv_at hl 0 rfl) ?_
    refine xg_500 C hw (C.2.2.2.2.1 _ hwF_X0_13) dX0_lookBack_13 ?_
    refine lv_iload_n hx hb dX0_lookBack_16 rfl (lv_at hl 3 rfl) ?_
    refine yl_500 C hw hf.1 dX0_lookBack_17 (fun y_1 e9 => ?_)
    replace hf := hf.2 y_1 e9
    clear e9
    refine th_astore (r := y_1) (lv' := [(4, va_rf y_1), (0, .ref (q 599)), (1, .int x1), (2, .int x2), (3, .int x3)]) hx hb dX0_lookBack_18 hl (by decide) rfl (fun ls hl => ?_)
    refine th_aload hx hb dX0_lookBack_20 (lv_at hl 0 rfl) ?_
    refine th_ifnull (tgt := 34) hx hb dX0_lookBack_22 (by decide) (fun hc => ?_) (fun hc => ?_)
    · replace hf := hf.1 hc
      clear hc
      exact X_BD_lookBack_34_w C x2 u _ _ _ hf hw (lv_sub hl [3] rfl)
    · replace hf := hf.2 hc
      clear hc
      refine th_aload hx hb dX0_lookBack_25 (lv_at hl 0 rfl) ?_
      obtain ⟨b_2, e9, hm, hf⟩ := hf
      refine W.eq (g2 := F0 m 27 ls [.ref b_2]) (congrArg (fun z9 => F0 m 27 ls [va_rf z9]) e9) ?_
      clear e9
      refine xdgn_Row_day C hw hm (va_Nw.use rfl (xN C hwG_X0_59)) dX0_lookBack_27 ?_
      refine lv_iload_n hx hb dX0_lookBack_30 rfl (lv_at hl 2 rfl) ?_
      refine lv_icmp_le (tgt := 36) hx hb dX0_lookBack_31 (by decide) (fun hc => ?_) (fun hc => ?_)
      · replace hf := hf.1 hc
        clear hc
        refine th_aload hx hb dX0_lookBack_36 (lv_at hl 0 rfl) ?_
        obtain ⟨b_3, e9, hm, hf⟩ := hf
        refine W.eq (g2 := F0 m 38 ls [.ref b_3]) (congrArg (fun z9 => F0 m 38 ls [va_rf z9]) e9) ?_
        clear e9
        refine xdgn_Row_hour C hw hm (va_Nw.use rfl (xN C hwG_X0_62)) dX0_lookBack_38 ?_
        refine lv_if_lt (tgt := 87) hx hb dX0_lookBack_41 (by decide) (fun hc => ?_) (fun hc => ?_)
        · replace hf := hf.1 hc
          clear hc
          exact X_BD_lookBack_87_w C hk4 x1 x2 x3 u _ _ _ hf hw (lv_sub hl [1, 2, 3, 4] rfl)
        · replace hf := hf.2 hc
          clear hc
          refine th_aload hx hb dX0_lookBack_44 (lv_at hl 0 rfl) ?_
          obtain ⟨b_4, e9, hm, hf⟩ := hf
          refine W.eq (g2 := F0 m 46 ls [.ref b_4]) (congrArg (fun z9 => F0 m 46 ls [va_rf z9]) e9) ?_
          clear e9
          refine xdgn_Row_hour C hw hm (va_Nw.use rfl (xN C hwG_X0_62)) dX0_lookBack_46 ?_
          refine lv_bipush (v := (40 : Int32)) hx hb dX0_lookBack_49 (by decide) ?_
          refine lv_icmp_ge (tgt := 87) hx hb dX0_lookBack_51 (by decide) (fun hc => ?_) (fun hc => ?_)
          · replace hf := hf.1 hc
            clear hc
            exact X_BD_lookBack_87_w C hk4 x1 x2 x3 u _ _ _ hf hw (lv_sub hl [1, 2, 3, 4] rfl)
          · replace hf := hf.2 hc
            clear hc
            refine lv_aload_n hx hb dX0_lookBack_54 rfl (lv_at hl 1 rfl) ?_
            refine xg_501 C hw (C.2.2.2.2.1 _ hwF_X0_17) dX0_lookBack_55 ?_
            refine th_aload hx hb dX0_lookBack_58 (lv_at hl 0 rfl) ?_
            obtain ⟨b_5, e9, hm, hf⟩ := hf
            refine W.eq (g2 := F0 m 60 ls [.ref b_5, .ref (q 501)]) (congrArg (fun z9 => F0 m 60 ls [va_rf z9, .ref (q 501)]) e9) ?_
            clear e9
            refine xdgn_Row_hour C hw hm (va_Nw.use rfl (xN C hwG_X0_62)) dX0_lookBack_60 ?_
            refine th_aload hx hb dX0_lookBack_63 (lv_at hl 0 rfl) ?_
            obtain ⟨b_7, e9, hm, hf⟩ := hf
            refine W.eq (g2 := F0 m 65 ls [.ref b_7, .int (xdI u 0 b_5), .ref (q 501)]) (congrArg (fun z9 => F0 m 65 ls [va_rf z9, .int (xdI u 0 b_5), .ref (q 501)]) e9) ?_
            clear e9
            refine ys_501 C hw hm hf.1 dX0_lookBack_65 (fun u_6 e9 H locs hw => ?_)
            replace hf := hf.2 u_6 e9
            clear e9
            refine th_aload hx hb dX0_lookBack_66 (lv_at hl 0 rfl) ?_
            obtain ⟨b_8, e9, hm, hf⟩ := hf
            refine W.eq (g2 := F0 m 68 ls [.ref b_8]) (congrArg (fun z9 => F0 m 68 ls [va_rf z9]) e9) ?_
            clear e9
            refine xdgn_Row_hour C hw hm (va_Nw.use rfl (xN C hwG_X0_62)) dX0_lookBack_68 ?_
            refine lv_iload_n hx hb dX0_lookBack_71 rfl (lv_at hl 3 rfl) ?_
            refine lv_icmp_lt (tgt := 85) hx hb dX0_lookBack_72 (by decide) (fun hc => ?_) (fun hc => ?_)
            · replace hf := hf.1 hc
              clear hc
              refine lv_iload_n hx hb dX0_lookBack_85 rfl (lv_at hl 3 rfl) ?_
              exact X_BD_lookBack_86_w C hk4 x1 x3 x2 u_6 _ _ _ hf hw (lv_sub hl [1, 2, 4] rfl)
            · replace hf := hf.2 hc
              clear hc
              refine th_aload hx hb dX0_lookBack_75 (lv_at hl 0 rfl) ?_
              obtain ⟨b_9, e9, hm, hf⟩ := hf
              refine W.eq (g2 := F0 m 77 ls [.ref b_9]) (congrArg (fun z9 => F0 m 77 ls [va_rf z9]) e9) ?_
              clear e9
              refine xdgn_Row_hour C hw hm (va_Nw.use rfl (xN C hwG_X0_62)) dX0_lookBack_77 ?_
              refine lv_iconst (v := (1 : Int32)) hx hb dX0_lookBack_80 (by decide) ?_
              refine lv_iadd hx hb dX0_lookBack_81 ?_
              refine lv_goto (tgt := 86) hx hb dX0_lookBack_82 (by decide) ?_
              exact X_BD_lookBack_86_w C hk4 x1 x3 ((xdI u_6 0 b_9) + (1 : Int32)) u_6 _ _ _ hf hw (lv_sub hl [1, 2, 4] rfl)
      · replace hf := hf.2 hc
        clear hc
        exact X_BD_lookBack_34_w C x2 u _ _ _ hf hw (lv_sub hl [3] rfl)
def X_BD_lookBack_4_lp (K : Int32 → xs_St → Prop) : Nat → Int32 → Int32 → Int32 → xs_St → Prop
  | 0, _, _, _, _ => False
  | n + 1, x1, x2, x3, u => X_BD_lookBack_4 K (X_BD_lookBack_4_lp K n) x1 x2 x3 u
set_option maxHeartbeats 4000000 in
set_option maxRecDepth 100000 in
theorem X_BD_lookBack_4_lw {K : Int32 → xs_St → Prop} (C : th_Cx p s m args meth c cX0_lookBack RX0 5 (some .int) (dC, dI) (th_ty cs) (xE ad ak) A) (n : Nat) : ∀ (x1 : Int32) (x2 : Int32) (x3 : Int32) (u : xs_St) (H : Heap) (locs : List Loc) (ls : Array Slot), X_BD_lookBack_4_lp K n x1 x2 x3 u → th_wI (dC, dI) (wX cs ad q v v) A s.heap u H locs → lv_has ls 5 [(0, .ref (q 599)), (1, .int x1), (2, .int x2), (3, .int x3)] → W p l e (th_rm 0 0 0) s m args below meth c H locs 0 0 (MQ below (va_Qi K (th_Post (dC, dI) (wX cs ad q v v) A) A) args s 0 0 A) (F0 m 4 ls []) := by
  induction n with
  | zero => intro x1 x2 x3 u H locs ls hf; exact hf.elim
  | succ n ih =>
    intro x1 x2 x3 u H locs ls hf hw hl
    exact X_BD_lookBack_4_w C ih x1 x2 x3 u H locs ls hf hw hl
def X_BD_lookBack (a1 : Int32) (u : xs_St) (K : Int32 → xs_St → Prop) : Prop :=
  ∃ n, X_BD_lookBack_4_lp K n a1 (0 : Int32) (0 : Int32) u
set_option maxHeartbeats 4000000 in
set_option maxRecDepth 100000 in
theorem X_BD_lookBack_c {l : Launch} {dC : Nat → ClassId} {dI : Nat → Nat → Nat} {cs : Nat → ClassId} {ad ak : Nat → Nat} {q v : Nat → Nat} {a1 : Int32} {u : xs_St} {K : Int32 → xs_St → Prop} (hf : X_BD_lookBack a1 u K) : th_Ci l yX0_lookBack cX0_lookBack 5 (some .int) 0 0 0 (dC, dI) (th_ty cs) (xE ad ak) (wX cs ad q v v) [.ref (q 599), .int a1] u K := by
  refine th_ofi (by decide) (Nat.le_of_ble_eq_true rfl) (xE_ok ad ak) ?_
  intro p e s m below meth c A ls C hw hl
  have C : th_Cx p s m _ meth c cX0_lookBack RX0 5 (some .int) (dC, dI) (th_ty cs) (xE ad ak) A := C
  have hl : lv_has ls 5 [(0, .ref (q 599)), (1, .int a1)] := hl
  generalize (List.toArray _ : Array Value) = args at C ⊢
  have hx := C.1
  have hb := C.2.1
  unfold X_BD_lookBack at hf
  refine lv_iconst (v := (0 : Int32)) hx hb dX0_lookBack_0 (by decide) ?_
  refine lv_istore_n (lv' := [(2, .int (0 : Int32)), (0, .ref (q 599)), (1, .int a1)]) hx hb dX0_lookBack_1 rfl hl (by decide) rfl (fun ls hl => ?_)
  refine lv_iconst (v := (0 : Int32)) hx hb dX0_lookBack_2 (by decide) ?_
  refine lv_istore_n (lv' := [(3, .int (0 : Int32)), (2, .int (0 : Int32)), (0, .ref (q 599)), (1, .int a1)]) hx hb dX0_lookBack_3 rfl hl (by decide) rfl (fun ls hl => ?_)
  obtain ⟨n, hf⟩ := hf
  exact X_BD_lookBack_4_lw C n a1 (0 : Int32) (0 : Int32) u _ _ _ hf hw (lv_sub hl [2, 3, 1, 0] rfl)
/-! X_EX_isNear -/
theorem dX1_isNear_0 : decode cX1_isNear 0 = .ok (.iload_n 0, 1) := by decide +kernel
theorem dX1_isNear_1 : decode cX1_isNear 1 = .ok (.iload_n 1, 1) := by decide +kernel
theorem dX1_isNear_2 : decode cX1_isNear 2 = .ok (.isub, 1) := by decide +kernel
theorem dX1_isNear_3 : decode cX1_isNear 3 = .ok (.iload_n 2, 1) := by decide +kernel
theorem dX1_isNear_4 : decode cX1_isNear 4 = .ok (.if_icmp .gt 14, 3) := by decide +kernel
theorem dX1_isNear_7 : decode cX1_isNear 7 = .ok (.iload_n 1, 1) := by decide +kernel
theorem dX1_isNear_8 : decode cX1_isNear 8 = .ok (.iload_n 0, 1) := by decide +kernel
theorem dX1_isNear_9 : decode cX1_isNear 9 = .ok (.isub, 1) := by decide +kernel
theorem dX1_isNear_10 : decode cX1_isNear 10 = .ok (.iload_n 2, 1) := by decide +kernel
theorem dX1_isNear_11 : decode cX1_isNear 11 = .ok (.if_icmp .gt 7, 3) := by decide +kernel
theorem dX1_isNear_14 : decode cX1_isNear 14 = .ok (.iconst 1, 1) := by decide +kernel
theorem dX1_isNear_15 : decode cX1_isNear 15 = .ok (.goto 4, 3) := by decide +kernel
theorem dX1_isNear_18 : decode cX1_isNear 18 = .ok (.iconst 0, 1) := by decide +kernel
theorem dX1_isNear_19 : decode cX1_isNear 19 = .ok (.ireturn, 1) := by decide +kernel
def X_EX_isNear_19 (K : Int32 → xs_St → Prop) (z0 : Int32) (u : xs_St) : Prop :=
  ((z0 = 0 ∨ z0 = 1) ∧ K z0 u)
set_option maxHeartbeats 4000000 in
set_option maxRecDepth 100000 in
theorem X_EX_isNear_19_w {K : Int32 → xs_St → Prop} (C : th_Cx p s m args meth c cX1_isNear RX1 3 (some .boolean) (dC, dI) (th_ty cs) (xE ad ak) A) (z0 : Int32) (u : xs_St) (H : Heap) (locs : List Loc) (ls : Array Slot) (hf : X_EX_isNear_19 K z0 u) (hw : th_wI (dC, dI) (wX cs ad q v v) A s.heap u H locs) (hl : lv_has ls 3 []) : W p l e (th_rm 0 0 0) s m args below meth c H locs 0 0 (MQ below (va_Qi K (th_Post (dC, dI) (wX cs ad q v v) A) A) args s 0 0 A) (F0 m 19 ls [.int z0]) := by
  have hx := C.1
  have hb := C.2.1
  unfold X_EX_isNear_19 at hf
  exact th_zret C hw hf dX1_isNear_19
def X_EX_isNear_18 (K : Int32 → xs_St → Prop) (u : xs_St) : Prop :=
  X_EX_isNear_19 K (0 : Int32) u
set_option maxHeartbeats 4000000 in
set_option maxRecDepth 100000 in
theorem X_EX_isNear_18_w {K : Int32 → xs_St → Prop} (C : th_Cx p s m args meth c cX1_isNear RX1 3 (some .boolean) (dC, dI) (th_ty cs) (xE ad ak) A) (u : xs_St) (H : Heap) (locs : List Loc) (ls : Array Slot) (hf : X_EX_isNear_18 K u) (hw : th_wI (dC, dI) (wX cs ad q v v) A s.heap u H locs) (hl : lv_has ls 3 []) : W p l e (th_rm 0 0 0) s m args below meth c H locs 0 0 (MQ below (va_Qi K (th_Post (dC, dI) (wX cs ad q v v) A) A) args s 0 0 A) (F0 m 18 ls []) := by
  have hx := C.1
  have hb := C.2.1
  unfold X_EX_isNear_18 at hf
  refine lv_iconst (v := (0 : Int32)) hx hb dX1_isNear_18 (by decide) ?_
  exact X_EX_isNear_19_w C (0 : Int32) u _ _ _ hf hw (lv_sub hl [] rfl)
def X_EX_isNear (a1 : Int32) (a2 : Int32) (a3 : Int32) (u : xs_St) (K : Int32 → xs_St → Prop) : Prop :=
  ((a3 < (a1 - a2) → X_EX_isNear_18 K u) ∧ (¬ a3 < (a1 - a2) → ((a3 < (a2 - a1) → X_EX_isNear_18 K u) ∧ (¬ a3 < (a2 - a1) → X_EX_isNear_19 K (1 : Int32) u))))
set_option maxHeartbeats 4000000 in
set_option maxRecDepth 100000 in
theorem X_EX_isNear_c {l : Launch} {dC : Nat → ClassId} {dI : Nat → Nat → Nat} {cs : Nat → ClassId} {ad ak : Nat → Nat} {q v : Nat → Nat} {a1 : Int32} {a2 : Int32} {a3 : Int32} {u : xs_St} {K : Int32 → xs_St → Prop} (hf : X_EX_isNear a1 a2 a3 u K) : th_Ci l yX1_isNear cX1_isNear 3 (some .boolean) 0 0 0 (dC, dI) (th_ty cs) (xE ad ak) (wX cs ad q v v) [.int a1, .int a2, .int a3] u K := by
  refine th_ofi (by decide) (Nat.le_of_ble_eq_true rfl) (xE_ok ad ak) ?_
  intro p e s m below meth c A ls C hw hl
  have C : th_Cx p s m _ meth c cX1_isNear RX1 3 (some .boolean) (dC, dI) (th_ty cs) (xE ad ak) A := C
  have hl : lv_has ls 3 [(0, .int a1), (1, .int a2), (2, .int a3)] := hl
  generalize (List.toArray _ : Array Value) = args at C ⊢
  have hx := C.1
  have hb := C.2.1
  unfold X_EX_isNear at hf
  refine lv_iload_n hx hb dX1_isNear_0 rfl (lv_at hl 0 rfl) ?_
  refine lv_iload_n hx hb dX1_isNear_1 rfl (lv_at hl 1 rfl) ?_
  refine lv_isub hx hb dX1_isNear_2 ?_
  refine lv_iload_n hx hb dX1_isNear_3 rfl (lv_at hl 2 rfl) ?_
  refine lv_icmp_gt (tgt := 18) hx hb dX1_isNear_4 (by decide) (fun hc => ?_) (fun hc => ?_)
  · replace hf := hf.1 hc
    clear hc
    exact X_EX_isNear_18_w C  u _ _ _ hf hw (lv_sub hl [] rfl)
  · replace hf := hf.2 hc
    clear hc
    refine lv_iload_n hx hb dX1_isNear_7 rfl (lv_at hl 1 rfl) ?_
    refine lv_iload_n hx hb dX1_isNear_8 rfl (lv_at hl 0 rfl) ?_
    refine lv_isub hx hb dX1_isNear_9 ?_
    refine lv_iload_n hx hb dX1_isNear_10 rfl (lv_at hl 2 rfl) ?_
    refine lv_icmp_gt (tgt := 18) hx hb dX1_isNear_11 (by decide) (fun hc => ?_) (fun hc => ?_)
    · replace hf := hf.1 hc
      clear hc
      exact X_EX_isNear_18_w C  u _ _ _ hf hw (lv_sub hl [] rfl)
    · replace hf := hf.2 hc
      clear hc
      refine lv_iconst (v := (1 : Int32)) hx hb dX1_isNear_14 (by decide) ?_
      refine lv_goto (tgt := 19) hx hb dX1_isNear_15 (by decide) ?_
      exact X_EX_isNear_19_w C (1 : Int32) u _ _ _ hf hw (lv_sub hl [] rfl)
/-! X_EX_noteEvents -/
theorem dX1_noteEvents_0 : decode cX1_noteEvents 0 = .ok (.aload_n 0, 1) := by decide +kernel
theorem dX1_noteEvents_1 : decode cX1_noteEvents 1 = .ok (.iconst 0, 1) := by decide +kernel
theorem dX1_noteEvents_2 : decode cX1_noteEvents 2 = .ok (.putfield 36, 3) := by decide +kernel
theorem dX1_noteEvents_5 : decode cX1_noteEvents 5 = .ok (.iconst 0, 1) := by decide +kernel
theorem dX1_noteEvents_6 : decode cX1_noteEvents 6 = .ok (.istore_n 2, 1) := by decide +kernel
theorem dX1_noteEvents_7 : decode cX1_noteEvents 7 = .ok (.iload_n 2, 1) := by decide +kernel
theorem dX1_noteEvents_8 : decode cX1_noteEvents 8 = .ok (.iload_n 1, 1) := by decide +kernel
theorem dX1_noteEvents_9 : decode cX1_noteEvents 9 = .ok (.if_icmp .ge 94, 3) := by decide +kernel
theorem dX1_noteEvents_12 : decode cX1_noteEvents 12 = .ok (.aload_n 0, 1) := by decide +kernel
theorem dX1_noteEvents_13 : decode cX1_noteEvents 13 = .ok (.getfield 36, 3) := by decide +kernel
theorem dX1_noteEvents_16 : decode cX1_noteEvents 16 = .ok (.bipush 48, 2) := by decide +kernel
theorem dX1_noteEvents_18 : decode cX1_noteEvents 18 = .ok (.if_icmp .ge 85, 3) := by decide +kernel
theorem dX1_noteEvents_21 : decode cX1_noteEvents 21 = .ok (.aload_n 0, 1) := by decide +kernel
theorem dX1_noteEvents_22 : decode cX1_noteEvents 22 = .ok (.getfield 24, 3) := by decide +kernel
theorem dX1_noteEvents_25 : decode cX1_noteEvents 25 = .ok (.iload_n 2, 1) := by decide +kernel
theorem dX1_noteEvents_26 : decode cX1_noteEvents 26 = .ok (.iaload, 1) := by decide +kernel
theorem dX1_noteEvents_27 : decode cX1_noteEvents 27 = .ok (.ifCond .ne 9, 3) := by decide +kernel
theorem dX1_noteEvents_30 : decode cX1_noteEvents 30 = .ok (.iinc 2 1, 3) := by decide +kernel
theorem dX1_noteEvents_33 : decode cX1_noteEvents 33 = .ok (.goto (-26), 3) := by decide +kernel
theorem dX1_noteEvents_36 : decode cX1_noteEvents 36 = .ok (.aload_n 0, 1) := by decide +kernel
theorem dX1_noteEvents_37 : decode cX1_noteEvents 37 = .ok (.getfield 27, 3) := by decide +kernel
theorem dX1_noteEvents_40 : decode cX1_noteEvents 40 = .ok (.aload_n 0, 1) := by decide +kernel
theorem dX1_noteEvents_41 : decode cX1_noteEvents 41 = .ok (.getfield 36, 3) := by decide +kernel
theorem dX1_noteEvents_44 : decode cX1_noteEvents 44 = .ok (.aload_n 0, 1) := by decide +kernel
theorem dX1_noteEvents_45 : decode cX1_noteEvents 45 = .ok (.getfield 21, 3) := by decide +kernel
theorem dX1_noteEvents_48 : decode cX1_noteEvents 48 = .ok (.iload_n 2, 1) := by decide +kernel
theorem dX1_noteEvents_49 : decode cX1_noteEvents 49 = .ok (.iaload, 1) := by decide +kernel
theorem dX1_noteEvents_50 : decode cX1_noteEvents 50 = .ok (.iastore, 1) := by decide +kernel
theorem dX1_noteEvents_51 : decode cX1_noteEvents 51 = .ok (.aload_n 0, 1) := by decide +kernel
theorem dX1_noteEvents_52 : decode cX1_noteEvents 52 = .ok (.getfield 30, 3) := by decide +kernel
theorem dX1_noteEvents_55 : decode cX1_noteEvents 55 = .ok (.aload_n 0, 1) := by decide +kernel
theorem dX1_noteEvents_56 : decode cX1_noteEvents 56 = .ok (.getfield 36, 3) := by decide +kernel
theorem dX1_noteEvents_59 : decode cX1_noteEvents 59 = .ok (.iload_n 2, 1) := by decide +kernel
theorem dX1_noteEvents_60 : decode cX1_noteEvents 60 = .ok (.iastore, 1) := by decide +kernel
theorem dX1_noteEvents_61 : decode cX1_noteEvents 61 = .ok (.aload_n 0, 1) := by decide +kernel
theorem dX1_noteEvents_62 : decode cX1_noteEvents 62 = .ok (.getfield 33, 3) := by decide +kernel
theorem dX1_noteEvents_65 : decode cX1_noteEvents 65 = .ok (.aload_n 0, 1) := by decide +kernel
theorem dX1_noteEvents_66 : decode cX1_noteEvents 66 = .ok (.getfield 36, 3) := by decide +kernel
theorem dX1_noteEvents_69 : decode cX1_noteEvents 69 = .ok (.aload_n 0, 1) := by decide +kernel
theorem dX1_noteEvents_70 : decode cX1_noteEvents 70 = .ok (.getfield 24, 3) := by decide +kernel
theorem dX1_noteEvents_73 : decode cX1_noteEvents 73 = .ok (.iload_n 2, 1) := by decide +kernel
theorem dX1_noteEvents_74 : decode cX1_noteEvents 74 = .ok (.iaload, 1) := by decide +kernel
theorem dX1_noteEvents_75 : decode cX1_noteEvents 75 = .ok (.iastore, 1) := by decide +kernel
theorem dX1_noteEvents_76 : decode cX1_noteEvents 76 = .ok (.aload_n 0, 1) := by decide +kernel
theorem dX1_noteEvents_77 : decode cX1_noteEvents 77 = .ok (.dup, 1) := by decide +kernel
theorem dX1_noteEvents_78 : decode cX1_noteEvents 78 = .ok (.getfield 36, 3) := by decide +kernel
theorem dX1_noteEvents_81 : decode cX1_noteEvents 81 = .ok (.iconst 1, 1) := by decide +kernel
theorem dX1_noteEvents_82 : decode cX1_noteEvents 82 = .ok (.iadd, 1) := by decide +kernel
theorem dX1_noteEvents_83 : decode cX1_noteEvents 83 = .ok (.putfield 36, 3) := by decide +kernel
theorem dX1_noteEvents_86 : decode cX1_noteEvents 86 = .ok (.iload_n 2, 1) := by decide +kernel
theorem dX1_noteEvents_87 : decode cX1_noteEvents 87 = .ok (.aload_n 0, 1) := by decide +kernel
theorem dX1_noteEvents_88 : decode cX1_noteEvents 88 = .ok (.getfield 11, 3) := by decide +kernel
theorem dX1_noteEvents_91 : decode cX1_noteEvents 91 = .ok (.aload_n 0, 1) := by decide +kernel
theorem dX1_noteEvents_92 : decode cX1_noteEvents 92 = .ok (.getfield 21, 3) := by decide +kernel
theorem dX1_noteEvents_95 : decode cX1_noteEvents 95 = .ok (.iload_n 2, 1) := by decide +kernel
theorem dX1_noteEvents_96 : decode cX1_noteEvents 96 = .ok (.iaload, 1) := by decide +kernel
theorem dX1_noteEvents_97 : decode cX1_noteEvents 97 = .ok (.iaload, 1) := by decide +kernel
theorem dX1_noteEvents_98 : decode cX1_noteEvents 98 = .ok (.iadd, 1) := by decide +kernel
theorem dX1_noteEvents_99 : decode cX1_noteEvents 99 = .ok (.istore_n 2, 1) := by decide +kernel
theorem dX1_noteEvents_100 : decode cX1_noteEvents 100 = .ok (.goto (-93), 3) := by decide +kernel
theorem dX1_noteEvents_103 : decode cX1_noteEvents 103 = .ok (.return_, 1) := by decide +kernel
def X_EX_noteEvents_103 (K : xs_St → Prop) (u : xs_St) : Prop :=
  K u
set_option maxHeartbeats 4000000 in
set_option maxRecDepth 100000 in
theorem X_EX_noteEvents_103_w {K : xs_St → Prop} (C : th_Cx p s m args meth c cX1_noteEvents RX1 3 (none) (dC, dI) (th_ty cs) (xE ad ak) A) (u : xs_St) (H : Heap) (locs : List Loc) (ls : Array Slot) (hf : X_EX_noteEvents_103 K u) (hw : th_wI (dC, dI) (wX cs ad q v v) A s.heap u H locs) (hl : lv_has ls 3 []) : W p l e (th_rm 0 0 0) s m args below meth c H locs 0 0 (MQ below (va_Qv K (th_Post (dC, dI) (wX cs ad q v v) A) A) args s 0 0 A) (F0 m 103 ls []) := by
  have hx := C.1
  have hb := C.2.1
  unfold X_EX_noteEvents_103 at hf
  exact th_vret C hw hf dX1_noteEvents_103
def X_EX_noteEvents_7 (K : xs_St → Prop) (k7 : Int32 → Int32 → xs_St → Prop) (x1 : Int32) (x2 : Int32) (u : xs_St) : Prop :=
  ((x1 ≤ x2 → X_EX_noteEvents_103 K u) ∧ (¬ x1 ≤ x2 → (((48 : Int32) ≤ (xi u 708) → X_EX_noteEvents_103 K u) ∧ (¬ (48 : Int32) ≤ (xi u 708) → (vp_in x2 48 ∧ ∀ y_1 : Int32, y_1 = xa u 704 (x2).toNatClampNeg → ((¬ y_1 = 0 → (vp_in x2 48 ∧ ∀ y_2 : Int32, y_2 = xa u 703 (x2).toNatClampNeg → (vp_in (xi u 708) 48 ∧ ∀ u_3 : xs_St, u_3 = xs_sa u 705 (upd (xa u 705) ((xi u 708)).toNatClampNeg y_2) → (vp_in (xi u_3 708) 48 ∧ ∀ u_4 : xs_St, u_4 = xs_sa u_3 706 (upd (xa u_3 706) ((xi u_3 708)).toNatClampNeg x2) → (vp_in x2 48 ∧ ∀ y_5 : Int32, y_5 = xa u_4 704 (x2).toNatClampNeg → (vp_in (xi u_4 708) 48 ∧ ∀ u_6 : xs_St, u_6 = xs_sa u_4 707 (upd (xa u_4 707) ((xi u_4 708)).toNatClampNeg y_5) → ∀ u_7 : xs_St, u_7 = xs_si u_6 708 ((xi u_6 708) + (1 : Int32)) → (vp_in x2 48 ∧ ∀ y_8 : Int32, y_8 = xa u_7 703 (x2).toNatClampNeg → (vp_in y_8 6 ∧ ∀ y_9 : Int32, y_9 = xa u_7 700 (y_8).toNatClampNeg → ∀ y_10 : Int32, y_10 = (x2 + y_9) → k7 x1 y_10 u_7)))))))) ∧ (y_1 = 0 → ∀ x2_11 : Int32, x2_11 = x2 + (1 : Int32) → k7 x1 x2_11 u)))))))
set_option maxHeartbeats 4000000 in
set_option maxRecDepth 100000 in
theorem X_EX_noteEvents_7_w {K : xs_St → Prop} {k7 : Int32 → Int32 → xs_St → Prop} (C : th_Cx p s m args meth c cX1_noteEvents RX1 3 (none) (dC, dI) (th_ty cs) (xE ad ak) A) (hk7 : ∀ (x1 : Int32) (x2 : Int32) (u : xs_St) (H : Heap) (locs : List Loc) (ls : Array Slot), k7 x1 x2 u → th_wI (dC, dI) (wX cs ad q v v) A s.heap u H locs → lv_has ls 3 [(0, .ref (q 799)), (1, .int x1), (2, .int x2)] → W p l e (th_rm 0 0 0) s m args below meth c H locs 0 0 (MQ below (va_Qv K (th_Post (dC, dI) (wX cs ad q v v) A) A) args s 0 0 A) (F0 m 7 ls [])) (x1 : Int32) (x2 : Int32) (u : xs_St) (H : Heap) (locs : List Loc) (ls : Array Slot) (hf : X_EX_noteEvents_7 K k7 x1 x2 u) (hw : th_wI (dC, dI) (wX cs ad q v v) A s.heap u H locs) (hl : lv_has ls 3 [(0, .ref (q 799)), (1, .int x1), (2, .int x2)]) : W p l e (th_rm 0 0 0) s m args below meth c H locs 0 0 (MQ below (va_Qv K (th_Post (dC, dI) (wX cs ad q v v) A) A) args s 0 0 A) (F0 m 7 ls []) := by
  have hx := C.1
  have hb := C.2.1
  unfold X_EX_noteEvents_7 at hf
  refine lv_iload_n hx hb dX1_noteEvents_7 rfl (lv_at hl 2 rfl) ?_
  refine lv_iload_n hx hb dX1_noteEvents_8 rfl (lv_at hl 1 rfl) ?_
  refine lv_icmp_ge (tgt := 103) hx hb dX1_noteEvents_9 (by decide) (fun hc => ?_) (fun hc => ?_)
  · replace hf := hf.1 hc
    clear hc
    exact X_EX_noteEvents_103_w C  u _ _ _ hf hw (lv_sub hl [] rfl)
  · replace hf := hf.2 hc
    clear hc
    refine lv_aload_n hx hb dX1_noteEvents_12 rfl (lv_at hl 0 rfl) ?_
    refine xg_708 C hw (C.2.2.2.2.1 _ hwF_X1_36) dX1_noteEvents_13 ?_
    refine lv_bipush (v := (48 : Int32)) hx hb dX1_noteEvents_16 (by decide) ?_
    refine lv_icmp_ge (tgt := 103) hx hb dX1_noteEvents_18 (by decide) (fun hc => ?_) (fun hc => ?_)
    · replace hf := hf.1 hc
      clear hc
      exact X_EX_noteEvents_103_w C  u _ _ _ hf hw (lv_sub hl [] rfl)
    · replace hf := hf.2 hc
      clear hc
      refine lv_aload_n hx hb dX1_noteEvents_21 rfl (lv_at hl 0 rfl) ?_
      refine xg_704 C hw (C.2.2.2.2.1 _ hwF_X1_24) dX1_noteEvents_22 ?_
      refine lv_iload_n hx hb dX1_noteEvents_25 rfl (lv_at hl 2 rfl) ?_
      refine yl_704 C hw hf.1 dX1_noteEvents_26 (fun y_1 e9 => ?_)
      replace hf := hf.2 y_1 e9
      clear e9
      refine lv_if_ne (tgt := 36) hx hb dX1_noteEvents_27 (by decide) (fun hc => ?_) (fun hc => ?_)
      · replace hf := hf.1 hc
        clear hc
        refine lv_aload_n hx hb dX1_noteEvents_36 rfl (lv_at hl 0 rfl) ?_
        refine xg_705 C hw (C.2.2.2.2.1 _ hwF_X1_27) dX1_noteEvents_37 ?_
        refine lv_aload_n hx hb dX1_noteEvents_40 rfl (lv_at hl 0 rfl) ?_
        refine xg_708 C hw (C.2.2.2.2.1 _ hwF_X1_36) dX1_noteEvents_41 ?_
        refine lv_aload_n hx hb dX1_noteEvents_44 rfl (lv_at hl 0 rfl) ?_
        refine xg_703 C hw (C.2.2.2.2.1 _ hwF_X1_21) dX1_noteEvents_45 ?_
        refine lv_iload_n hx hb dX1_noteEvents_48 rfl (lv_at hl 2 rfl) ?_
        refine yl_703 C hw hf.1 dX1_noteEvents_49 (fun y_2 e9 => ?_)
        replace hf := hf.2 y_2 e9
        clear e9
        refine ys_705 C hw hf.1 dX1_noteEvents_50 (fun u_3 e9 H locs hw => ?_)
        replace hf := hf.2 u_3 e9
        clear e9
        refine lv_aload_n hx hb dX1_noteEvents_51 rfl (lv_at hl 0 rfl) ?_
        refine xg_706 C hw (C.2.2.2.2.1 _ hwF_X1_30) dX1_noteEvents_52 ?_
        refine lv_aload_n hx hb dX1_noteEvents_55 rfl (lv_at hl 0 rfl) ?_
        refine xg_708 C hw (C.2.2.2.2.1 _ hwF_X1_36) dX1_noteEvents_56 ?_
        refine lv_iload_n hx hb dX1_noteEvents_59 rfl (lv_at hl 2 rfl) ?_
        refine ys_706 C hw hf.1 dX1_noteEvents_60 (fun u_4 e9 H locs hw => ?_)
        replace hf := hf.2 u_4 e9
        clear e9
        refine lv_aload_n hx hb dX1_noteEvents_61 rfl (lv_at hl 0 rfl) ?_
        refine xg_707 C hw (C.2.2.2.2.1 _ hwF_X1_33) dX1_noteEvents_62 ?_
        refine lv_aload_n hx hb dX1_noteEvents_65 rfl (lv_at hl 0 rfl) ?_
        refine xg_708 C hw (C.2.2.2.2.1 _ hwF_X1_36) dX1_noteEvents_66 ?_
        refine lv_aload_n hx hb dX1_noteEvents_69 rfl (lv_at hl 0 rfl) ?_
        refine xg_704 C hw (C.2.2.2.2.1 _ hwF_X1_24) dX1_noteEvents_70 ?_
        refine lv_iload_n hx hb dX1_noteEvents_73 rfl (lv_at hl 2 rfl) ?_
        refine yl_704 C hw hf.1 dX1_noteEvents_74 (fun y_5 e9 => ?_)
        replace hf := hf.2 y_5 e9
        clear e9
        refine ys_707 C hw hf.1 dX1_noteEvents_75 (fun u_6 e9 H locs hw => ?_)
        replace hf := hf.2 u_6 e9
        clear e9
        refine lv_aload_n hx hb dX1_noteEvents_76 rfl (lv_at hl 0 rfl) ?_
        refine lv_dup hx hb dX1_noteEvents_77 rfl ?_
        refine xg_708 C hw (C.2.2.2.2.1 _ hwF_X1_36) dX1_noteEvents_78 ?_
        refine lv_iconst (v := (1 : Int32)) hx hb dX1_noteEvents_81 (by decide) ?_
        refine lv_iadd hx hb dX1_noteEvents_82 ?_
        refine xp_708 C hw (C.2.2.2.2.1 _ hwF_X1_36) dX1_noteEvents_83 (fun u_7 e9 H locs hw => ?_)
        replace hf := hf u_7 e9
        clear e9
        refine lv_iload_n hx hb dX1_noteEvents_86 rfl (lv_at hl 2 rfl) ?_
        refine lv_aload_n hx hb dX1_noteEvents_87 rfl (lv_at hl 0 rfl) ?_
        refine xg_700 C hw (C.2.2.2.2.1 _ hwF_X1_11) dX1_noteEvents_88 ?_
        refine lv_aload_n hx hb dX1_noteEvents_91 rfl (lv_at hl 0 rfl) ?_
        refine xg_703 C hw (C.2.2.2.2.1 _ hwF_X1_21) dX1_noteEvents_92 ?_
        refine lv_iload_n hx hb dX1_noteEvents_95 rfl (lv_at hl 2 rfl) ?_
        refine yl_703 C hw hf.1 dX1_noteEvents_96 (fun y_8 e9 => ?_)
        replace hf := hf.2 y_8 e9
        clear e9
        refine yl_700 C hw hf.1 dX1_noteEvents_97 (fun y_9 e9 => ?_)
        replace hf := hf.2 y_9 e9
        clear e9
        refine lv_iadd hx hb dX1_noteEvents_98 ?_
        refine lv_topi (fun y_10 e9 => ?_)
        replace hf := hf y_10 e9
        clear e9
        refine lv_istore_n (lv' := [(2, .int y_10), (0, .ref (q 799)), (1, .int x1)]) hx hb dX1_noteEvents_99 rfl hl (by decide) rfl (fun ls hl => ?_)
        refine lv_goto (tgt := 7) hx hb dX1_noteEvents_100 (by decide) ?_
        exact hk7 x1 y_10 u_7 _ _ _ hf hw (lv_sub hl [1, 2, 0] rfl)
      · replace hf := hf.2 hc
        clear hc
        obtain ⟨x2_11, e9⟩ : ∃ y : Int32, y = x2 + (1 : Int32) := ⟨_, rfl⟩
        replace hf := hf x2_11 e9
        refine lv_iinc (v := x2_11) (lv' := [(2, .int x2_11), (0, .ref (q 799)), (1, .int x1)]) hx hb dX1_noteEvents_30 hl (k := 2) rfl (by rw [e9]; rfl) (by decide) rfl (fun ls hl => ?_)
        clear e9
        refine lv_goto (tgt := 7) hx hb dX1_noteEvents_33 (by decide) ?_
        exact hk7 x1 x2_11 u _ _ _ hf hw (lv_sub hl [1, 2, 0] rfl)
def X_EX_noteEvents_7_lp (K : xs_St → Prop) : Nat → Int32 → Int32 → xs_St → Prop
  | 0, _, _, _ => False
  | n + 1, x1, x2, u => X_EX_noteEvents_7 K (X_EX_noteEvents_7_lp K n) x1 x2 u
set_option maxHeartbeats 4000000 in
set_option maxRecDepth 100000 in
theorem X_EX_noteEvents_7_lw {K : xs_St → Prop} (C : th_Cx p s m args meth c cX1_noteEvents RX1 3 (none) (dC, dI) (th_ty cs) (xE ad ak) A) (n : Nat) : ∀ (x1 : Int32) (x2 : Int32) (u : xs_St) (H : Heap) (locs : List Loc) (ls : Array Slot), X_EX_noteEvents_7_lp K n x1 x2 u → th_wI (dC, dI) (wX cs ad q v v) A s.heap u H locs → lv_has ls 3 [(0, .ref (q 799)), (1, .int x1), (2, .int x2)] → W p l e (th_rm 0 0 0) s m args below meth c H locs 0 0 (MQ below (va_Qv K (th_Post (dC, dI) (wX cs ad q v v) A) A) args s 0 0 A) (F0 m 7 ls []) := by
  induction n with
  | zero => intro x1 x2 u H locs ls hf; exact hf.elim
  | succ n ih =>
    intro x1 x2 u H locs ls hf hw hl
    exact X_EX_noteEvents_7_w C ih x1 x2 u H locs ls hf hw hl
def X_EX_noteEvents (a1 : Int32) (u : xs_St) (K : xs_St → Prop) : Prop :=
  ∀ u_1 : xs_St, u_1 = xs_si u 708 (0 : Int32) → ∃ n, X_EX_noteEvents_7_lp K n a1 (0 : Int32) u_1
set_option maxHeartbeats 4000000 in
set_option maxRecDepth 100000 in
theorem X_EX_noteEvents_c {l : Launch} {dC : Nat → ClassId} {dI : Nat → Nat → Nat} {cs : Nat → ClassId} {ad ak : Nat → Nat} {q v : Nat → Nat} {a1 : Int32} {u : xs_St} {K : xs_St → Prop} (hf : X_EX_noteEvents a1 u K) : th_Cv l yX1_noteEvents cX1_noteEvents 3 (none) 0 0 0 (dC, dI) (th_ty cs) (xE ad ak) (wX cs ad q v v) [.ref (q 799), .int a1] u K := by
  refine th_ofv (by decide) (Nat.le_of_ble_eq_true rfl) (xE_ok ad ak) ?_
  intro p e s m below meth c A ls C hw hl
  have C : th_Cx p s m _ meth c cX1_noteEvents RX1 3 (none) (dC, dI) (th_ty cs) (xE ad ak) A := C
  have hl : lv_has ls 3 [(0, .ref (q 799)), (1, .int a1)] := hl
  generalize (List.toArray _ : Array Value) = args at C ⊢
  have hx := C.1
  have hb := C.2.1
  unfold X_EX_noteEvents at hf
  refine lv_aload_n hx hb dX1_noteEvents_0 rfl (lv_at hl 0 rfl) ?_
  refine lv_iconst (v := (0 : Int32)) hx hb dX1_noteEvents_1 (by decide) ?_
  refine xp_708 C hw (C.2.2.2.2.1 _ hwF_X1_36) dX1_noteEvents_2 (fun u_1 e9 H locs hw => ?_)
  replace hf := hf u_1 e9
  clear e9
  refine lv_iconst (v := (0 : Int32)) hx hb dX1_noteEvents_5 (by decide) ?_
  refine lv_istore_n (lv' := [(2, .int (0 : Int32)), (0, .ref (q 799)), (1, .int a1)]) hx hb dX1_noteEvents_6 rfl hl (by decide) rfl (fun ls hl => ?_)
  obtain ⟨n, hf⟩ := hf
  exact X_EX_noteEvents_7_lw C n a1 (0 : Int32) u_1 _ _ _ hf hw (lv_sub hl [1, 2, 0] rfl)
/-! X_Feel_behindBy_d -/
theorem dX2_behindBy_0 : decode cX2_behindBy 0 = .ok (.aload_n 0, 1) := by decide +kernel
theorem dX2_behindBy_1 : decode cX2_behindBy 1 = .ok (.getfield 21, 3) := by decide +kernel
theorem dX2_behindBy_4 : decode cX2_behindBy 4 = .ok (.astore_n 2, 1) := by decide +kernel
theorem dX2_behindBy_5 : decode cX2_behindBy 5 = .ok (.aload_n 2, 1) := by decide +kernel
theorem dX2_behindBy_6 : decode cX2_behindBy 6 = .ok (.ifnull 19, 3) := by decide +kernel
theorem dX2_behindBy_9 : decode cX2_behindBy 9 = .ok (.aload_n 2, 1) := by decide +kernel
theorem dX2_behindBy_10 : decode cX2_behindBy 10 = .ok (.getfield 28, 3) := by decide +kernel
theorem dX2_behindBy_13 : decode cX2_behindBy 13 = .ok (.aload_n 1, 1) := by decide +kernel
theorem dX2_behindBy_14 : decode cX2_behindBy 14 = .ok (.if_acmp .eq 11, 3) := by decide +kernel
theorem dX2_behindBy_17 : decode cX2_behindBy 17 = .ok (.aload_n 2, 1) := by decide +kernel
theorem dX2_behindBy_18 : decode cX2_behindBy 18 = .ok (.getfield 25, 3) := by decide +kernel
theorem dX2_behindBy_21 : decode cX2_behindBy 21 = .ok (.astore_n 2, 1) := by decide +kernel
theorem dX2_behindBy_22 : decode cX2_behindBy 22 = .ok (.goto (-17), 3) := by decide +kernel
theorem dX2_behindBy_25 : decode cX2_behindBy 25 = .ok (.aload_n 2, 1) := by decide +kernel
theorem dX2_behindBy_26 : decode cX2_behindBy 26 = .ok (.areturn, 1) := by decide +kernel
def X_Feel_behindBy_d_25 (K : Option Nat → xs_St → Prop) (x2 : Option Nat) (u : xs_St) : Prop :=
  K x2 u
set_option maxHeartbeats 4000000 in
set_option maxRecDepth 100000 in
theorem X_Feel_behindBy_d_25_w {K : Option Nat → xs_St → Prop} (C : th_Cx p s m args meth c cX2_behindBy RX2 3 (some (.object "ThreadHouse$Feel")) (dC, dI) (th_ty cs) (xE ad ak) A) (x2 : Option Nat) (u : xs_St) (H : Heap) (locs : List Loc) (ls : Array Slot) (hf : X_Feel_behindBy_d_25 K x2 u) (hw : th_wI (dC, dI) (wX cs ad q v v) A s.heap u H locs) (hl : lv_has ls 3 [(2, va_rf x2)]) : W p l e (th_rm 0 0 0) s m args below meth c H locs 0 0 (MQ below (va_Qq K (th_Post (dC, dI) (wX cs ad q v v) A) A) args s 0 0 A) (F0 m 25 ls []) := by
  have hx := C.1
  have hb := C.2.1
  unfold X_Feel_behindBy_d_25 at hf
  refine th_aload_n hx hb dX2_behindBy_25 rfl (lv_at hl 0 rfl) ?_
  exact th_qret (r := x2) (Or.inl ⟨_, rfl⟩) C hw hf dX2_behindBy_26
def X_Feel_behindBy_d_5 (K : Option Nat → xs_St → Prop) (k5 : Option Nat → Option Nat → xs_St → Prop) (x1 : Option Nat) (x2 : Option Nat) (u : xs_St) : Prop :=
  ((x2 = none → X_Feel_behindBy_d_25 K x2 u) ∧ (¬ x2 = none → (∃ b_1 : Nat, x2 = some b_1 ∧ xd_is u b_1 3 ∧ (((xdR u 1 b_1) = x1 → X_Feel_behindBy_d_25 K x2 u) ∧ (¬ (xdR u 1 b_1) = x1 → (∃ b_2 : Nat, x2 = some b_2 ∧ xd_is u b_2 3 ∧ k5 x1 (xdR u 5 b_2) u))))))
set_option maxHeartbeats 4000000 in
set_option maxRecDepth 100000 in
theorem X_Feel_behindBy_d_5_w {K : Option Nat → xs_St → Prop} {k5 : Option Nat → Option Nat → xs_St → Prop} (C : th_Cx p s m args meth c cX2_behindBy RX2 3 (some (.object "ThreadHouse$Feel")) (dC, dI) (th_ty cs) (xE ad ak) A) (hk5 : ∀ (x1 : Option Nat) (x2 : Option Nat) (u : xs_St) (H : Heap) (locs : List Loc) (ls : Array Slot), k5 x1 x2 u → th_wI (dC, dI) (wX cs ad q v v) A s.heap u H locs → lv_has ls 3 [(1, va_rf x1), (2, va_rf x2)] → W p l e (th_rm 0 0 0) s m args below meth c H locs 0 0 (MQ below (va_Qq K (th_Post (dC, dI) (wX cs ad q v v) A) A) args s 0 0 A) (F0 m 5 ls [])) (x1 : Option Nat) (x2 : Option Nat) (u : xs_St) (H : Heap) (locs : List Loc) (ls : Array Slot) (hf : X_Feel_behindBy_d_5 K k5 x1 x2 u) (hw : th_wI (dC, dI) (wX cs ad q v v) A s.heap u H locs) (hl : lv_has ls 3 [(1, va_rf x1), (2, va_rf x2)]) : W p l e (th_rm 0 0 0) s m args below meth c H locs 0 0 (MQ below (va_Qq K (th_Post (dC, dI) (wX cs ad q v v) A) A) args s 0 0 A) (F0 m 5 ls []) := by
  have hx := C.1
  have hb := C.2.1
  unfold X_Feel_behindBy_d_5 at hf
  refine th_aload_n hx hb dX2_behindBy_5 rfl (lv_at hl 1 rfl) ?_
  refine th_ifnull (tgt := 25) hx hb dX2_behindBy_6 (by decide) (fun hc => ?_) (fun hc => ?_)
  · replace hf := hf.1 hc
    clear hc
    exact X_Feel_behindBy_d_25_w C x2 u _ _ _ hf hw (lv_sub hl [1] rfl)
  · replace hf := hf.2 hc
    clear hc
    refine th_aload_n hx hb dX2_behindBy_9 rfl (lv_at hl 1 rfl) ?_
    obtain ⟨b_1, e9, hm, hf⟩ := hf
    refine W.eq (g2 := F0 m 10 ls [.ref b_1]) (congrArg (fun z9 => F0 m 10 ls [va_rf z9]) e9) ?_
    clear e9
    refine xdg_Feel_row C hw hm (C.2.2.2.2.1 _ hwF_X2_28) dX2_behindBy_10 ?_
    refine th_aload_n hx hb dX2_behindBy_13 rfl (lv_at hl 0 rfl) ?_
    refine lv_acmp_eq (tgt := 25) hx hb dX2_behindBy_14 (by decide) (fun hc => ?_) (fun hc => ?_)
    · replace hf := hf.1 hc
      clear hc
      exact X_Feel_behindBy_d_25_w C x2 u _ _ _ hf hw (lv_sub hl [1] rfl)
    · replace hf := hf.2 hc
      clear hc
      refine th_aload_n hx hb dX2_behindBy_17 rfl (lv_at hl 1 rfl) ?_
      obtain ⟨b_2, e9, hm, hf⟩ := hf
      refine W.eq (g2 := F0 m 18 ls [.ref b_2]) (congrArg (fun z9 => F0 m 18 ls [va_rf z9]) e9) ?_
      clear e9
      refine xdg_Feel_likewiseBehind C hw hm (C.2.2.2.2.1 _ hwF_X2_25) dX2_behindBy_18 ?_
      refine th_astore_n (r := (xdR u 5 b_2)) (i := 2) (lv' := [(2, va_rf (xdR u 5 b_2)), (1, va_rf x1)]) hx hb dX2_behindBy_21 rfl hl (by decide) (by simp [List.filter, th_cat, th_cate]) (fun ls hl => ?_)
      refine lv_goto (tgt := 5) hx hb dX2_behindBy_22 (by decide) ?_
      exact hk5 x1 (xdR u 5 b_2) u _ _ _ hf hw (lv_sub hl [1, 0] rfl)
def X_Feel_behindBy_d_5_lp (K : Option Nat → xs_St → Prop) : Nat → Option Nat → Option Nat → xs_St → Prop
  | 0, _, _, _ => False
  | n + 1, x1, x2, u => X_Feel_behindBy_d_5 K (X_Feel_behindBy_d_5_lp K n) x1 x2 u
set_option maxHeartbeats 4000000 in
set_option maxRecDepth 100000 in
theorem X_Feel_behindBy_d_5_lw {K : Option Nat → xs_St → Prop} (C : th_Cx p s m args meth c cX2_behindBy RX2 3 (some (.object "ThreadHouse$Feel")) (dC, dI) (th_ty cs) (xE ad ak) A) (n : Nat) : ∀ (x1 : Option Nat) (x2 : Option Nat) (u : xs_St) (H : Heap) (locs : List Loc) (ls : Array Slot), X_Feel_behindBy_d_5_lp K n x1 x2 u → th_wI (dC, dI) (wX cs ad q v v) A s.heap u H locs → lv_has ls 3 [(1, va_rf x1), (2, va_rf x2)] → W p l e (th_rm 0 0 0) s m args below meth c H locs 0 0 (MQ below (va_Qq K (th_Post (dC, dI) (wX cs ad q v v) A) A) args s 0 0 A) (F0 m 5 ls []) := by
  induction n with
  | zero => intro x1 x2 u H locs ls hf; exact hf.elim
  | succ n ih =>
    intro x1 x2 u H locs ls hf hw hl
    exact X_Feel_behindBy_d_5_w C ih x1 x2 u H locs ls hf hw hl
def X_Feel_behindBy_d (a0 : Nat) (a1 : Option Nat) (u : xs_St) (K : Option Nat → xs_St → Prop) : Prop :=
  (xd_is u a0 3 ∧ ∃ n, X_Feel_behindBy_d_5_lp K n a1 (xdR u 4 a0) u)
set_option maxHeartbeats 4000000 in
set_option maxRecDepth 100000 in
theorem X_Feel_behindBy_d_c {l : Launch} {dC : Nat → ClassId} {dI : Nat → Nat → Nat} {cs : Nat → ClassId} {ad ak : Nat → Nat} {q v : Nat → Nat} {a0 : Nat} {a1 : Option Nat} {u : xs_St} {K : Option Nat → xs_St → Prop} (hf : X_Feel_behindBy_d a0 a1 u K) : th_Cq l yX2_behindBy cX2_behindBy 3 (some (.object "ThreadHouse$Feel")) 0 0 0 (dC, dI) (th_ty cs) (xE ad ak) (wX cs ad q v v) [.ref a0, va_rf a1] u K := by
  refine th_ofq (by decide) (by cases a1 <;> exact Nat.le_of_ble_eq_true rfl) (xE_ok ad ak) ?_
  intro p e s m below meth c A ls C hw hl
  have C : th_Cx p s m _ meth c cX2_behindBy RX2 3 (some (.object "ThreadHouse$Feel")) (dC, dI) (th_ty cs) (xE ad ak) A := C
  have hl : lv_has ls 3 [(0, .ref a0), (1, va_rf a1)] := by cases a1 <;> exact hl
  generalize (List.toArray _ : Array Value) = args at C ⊢
  have hx := C.1
  have hb := C.2.1
  unfold X_Feel_behindBy_d at hf
  refine lv_aload_n hx hb dX2_behindBy_0 rfl (lv_at hl 0 rfl) ?_
  obtain ⟨hm, hf⟩ := hf
  refine xdg_Feel_latestBehind C hw hm (C.2.2.2.2.1 _ hwF_X2_21) dX2_behindBy_1 ?_
  refine th_astore_n (r := (xdR u 4 a0)) (i := 2) (lv' := [(2, va_rf (xdR u 4 a0)), (0, .ref a0), (1, va_rf a1)]) hx hb dX2_behindBy_4 rfl hl (by decide) (by simp [List.filter, th_cat, th_cate]) (fun ls hl => ?_)
  obtain ⟨n, hf⟩ := hf
  exact X_Feel_behindBy_d_5_lw C n a1 (xdR u 4 a0) u _ _ _ hf hw (lv_sub hl [2, 0] rfl)
/-! X_Feel_keepBehind_d -/
theorem dX2_keepBehind_0 : decode cX2_keepBehind 0 = .ok (.aload_n 1, 1) := by decide +kernel
theorem dX2_keepBehind_1 : decode cX2_keepBehind 1 = .ok (.aload_n 0, 1) := by decide +kernel
theorem dX2_keepBehind_2 : decode cX2_keepBehind 2 = .ok (.getfield 21, 3) := by decide +kernel
theorem dX2_keepBehind_5 : decode cX2_keepBehind 5 = .ok (.putfield 25, 3) := by decide +kernel
theorem dX2_keepBehind_8 : decode cX2_keepBehind 8 = .ok (.aload_n 0, 1) := by decide +kernel
theorem dX2_keepBehind_9 : decode cX2_keepBehind 9 = .ok (.aload_n 1, 1) := by decide +kernel
theorem dX2_keepBehind_10 : decode cX2_keepBehind 10 = .ok (.putfield 21, 3) := by decide +kernel
theorem dX2_keepBehind_13 : decode cX2_keepBehind 13 = .ok (.return_, 1) := by decide +kernel
def X_Feel_keepBehind_d (a0 : Nat) (a1 : Option Nat) (u : xs_St) (K : xs_St → Prop) : Prop :=
  (xd_is u a0 3 ∧ (∃ b_1 : Nat, a1 = some b_1 ∧ xd_is u b_1 3 ∧ ∀ u_2 : xs_St, u_2 = xs_dr u 5 b_1 (xdR u 4 a0) → (xd_is u_2 a0 3 ∧ ∀ u_3 : xs_St, u_3 = xs_dr u_2 4 a0 a1 → K u_3)))
set_option maxHeartbeats 4000000 in
set_option maxRecDepth 100000 in
theorem X_Feel_keepBehind_d_c {l : Launch} {dC : Nat → ClassId} {dI : Nat → Nat → Nat} {cs : Nat → ClassId} {ad ak : Nat → Nat} {q v : Nat → Nat} {a0 : Nat} {a1 : Option Nat} {u : xs_St} {K : xs_St → Prop} (hf : X_Feel_keepBehind_d a0 a1 u K) : th_Cv l yX2_keepBehind cX2_keepBehind 2 (none) 0 0 0 (dC, dI) (th_ty cs) (xE ad ak) (wX cs ad q v v) [.ref a0, va_rf a1] u K := by
  refine th_ofv (by decide) (by cases a1 <;> exact Nat.le_of_ble_eq_true rfl) (xE_ok ad ak) ?_
  intro p e s m below meth c A ls C hw hl
  have C : th_Cx p s m _ meth c cX2_keepBehind RX2 2 (none) (dC, dI) (th_ty cs) (xE ad ak) A := C
  have hl : lv_has ls 2 [(0, .ref a0), (1, va_rf a1)] := by cases a1 <;> exact hl
  generalize (List.toArray _ : Array Value) = args at C ⊢
  have hx := C.1
  have hb := C.2.1
  unfold X_Feel_keepBehind_d at hf
  refine th_aload_n hx hb dX2_keepBehind_0 rfl (lv_at hl 1 rfl) ?_
  refine lv_aload_n hx hb dX2_keepBehind_1 rfl (lv_at hl 0 rfl) ?_
  obtain ⟨hm, hf⟩ := hf
  refine xdg_Feel_latestBehind C hw hm (C.2.2.2.2.1 _ hwF_X2_21) dX2_keepBehind_2 ?_
  obtain ⟨b_1, e9, hm, hf⟩ := hf
  refine W.eq (g2 := F0 m 5 ls [va_rf (xdR u 4 a0), .ref b_1]) (congrArg (fun z9 => F0 m 5 ls [va_rf (xdR u 4 a0), va_rf z9]) e9) ?_
  clear e9
  refine xdp_Feel_likewiseBehind (x := (xdR u 4 a0)) C hw hm (C.2.2.2.2.1 _ hwF_X2_25) dX2_keepBehind_5 (fun u_2 e9 H locs hw => ?_)
  replace hf := hf u_2 e9
  clear e9
  refine lv_aload_n hx hb dX2_keepBehind_8 rfl (lv_at hl 0 rfl) ?_
  refine th_aload_n hx hb dX2_keepBehind_9 rfl (lv_at hl 1 rfl) ?_
  obtain ⟨hm, hf⟩ := hf
  refine xdp_Feel_latestBehind (x := a1) C hw hm (C.2.2.2.2.1 _ hwF_X2_21) dX2_keepBehind_10 (fun u_3 e9 H locs hw => ?_)
  replace hf := hf u_3 e9
  clear e9
  exact th_vret C hw hf dX2_keepBehind_13
/-! X_Feel_of_d -/
theorem dX2_of_0 : decode cX2_of 0 = .ok (.iload_n 1, 1) := by decide +kernel
theorem dX2_of_1 : decode cX2_of 1 = .ok (.ifCond .lt 21, 3) := by decide +kernel
theorem dX2_of_4 : decode cX2_of 4 = .ok (.iload_n 1, 1) := by decide +kernel
theorem dX2_of_5 : decode cX2_of 5 = .ok (.aload_n 0, 1) := by decide +kernel
theorem dX2_of_6 : decode cX2_of 6 = .ok (.getfield 35, 3) := by decide +kernel
theorem dX2_of_9 : decode cX2_of 9 = .ok (.arraylength, 1) := by decide +kernel
theorem dX2_of_10 : decode cX2_of 10 = .ok (.if_icmp .ge 12, 3) := by decide +kernel
theorem dX2_of_13 : decode cX2_of 13 = .ok (.aload_n 0, 1) := by decide +kernel
theorem dX2_of_14 : decode cX2_of 14 = .ok (.getfield 35, 3) := by decide +kernel
theorem dX2_of_17 : decode cX2_of 17 = .ok (.iload_n 1, 1) := by decide +kernel
theorem dX2_of_18 : decode cX2_of 18 = .ok (.iaload, 1) := by decide +kernel
theorem dX2_of_19 : decode cX2_of 19 = .ok (.goto 4, 3) := by decide +kernel
theorem dX2_of_22 : decode cX2_of 22 = .ok (.iconst 0, 1) := by decide +kernel
theorem dX2_of_23 : decode cX2_of 23 = .ok (.ireturn, 1) := by decide +kernel
def X_Feel_of_d_23 (K : Int32 → xs_St → Prop) (z0 : Int32) (u : xs_St) : Prop :=
  K z0 u
set_option maxHeartbeats 4000000 in
set_option maxRecDepth 100000 in
theorem X_Feel_of_d_23_w {K : Int32 → xs_St → Prop} (C : th_Cx p s m args meth c cX2_of RX2 2 (some .int) (dC, dI) (th_ty cs) (xE ad ak) A) (z0 : Int32) (u : xs_St) (H : Heap) (locs : List Loc) (ls : Array Slot) (hf : X_Feel_of_d_23 K z0 u) (hw : th_wI (dC, dI) (wX cs ad q v v) A s.heap u H locs) (hl : lv_has ls 2 []) : W p l e (th_rm 0 0 0) s m args below meth c H locs 0 0 (MQ below (va_Qi K (th_Post (dC, dI) (wX cs ad q v v) A) A) args s 0 0 A) (F0 m 23 ls [.int z0]) := by
  have hx := C.1
  have hb := C.2.1
  unfold X_Feel_of_d_23 at hf
  exact th_iret C hw hf dX2_of_23
def X_Feel_of_d_22 (K : Int32 → xs_St → Prop) (u : xs_St) : Prop :=
  X_Feel_of_d_23 K (0 : Int32) u
set_option maxHeartbeats 4000000 in
set_option maxRecDepth 100000 in
theorem X_Feel_of_d_22_w {K : Int32 → xs_St → Prop} (C : th_Cx p s m args meth c cX2_of RX2 2 (some .int) (dC, dI) (th_ty cs) (xE ad ak) A) (u : xs_St) (H : Heap) (locs : List Loc) (ls : Array Slot) (hf : X_Feel_of_d_22 K u) (hw : th_wI (dC, dI) (wX cs ad q v v) A s.heap u H locs) (hl : lv_has ls 2 []) : W p l e (th_rm 0 0 0) s m args below meth c H locs 0 0 (MQ below (va_Qi K (th_Post (dC, dI) (wX cs ad q v v) A) A) args s 0 0 A) (F0 m 22 ls []) := by
  have hx := C.1
  have hb := C.2.1
  unfold X_Feel_of_d_22 at hf
  refine lv_iconst (v := (0 : Int32)) hx hb dX2_of_22 (by decide) ?_
  exact X_Feel_of_d_23_w C (0 : Int32) u _ _ _ hf hw (lv_sub hl [] rfl)
def X_Feel_of_d (a0 : Nat) (a1 : Int32) (u : xs_St) (K : Int32 → xs_St → Prop) : Prop :=
  ((a1 < 0 → X_Feel_of_d_22 K u) ∧ (¬ a1 < 0 → (xd_is u a0 3 ∧ (∃ b_1 : Nat, (xdR u 3 a0) = some b_1 ∧ xd_is u b_1 4 ∧ (((nI (xdN u b_1)) ≤ a1 → X_Feel_of_d_22 K u) ∧ (¬ (nI (xdN u b_1)) ≤ a1 → (xd_is u a0 3 ∧ (∃ b_3 : Nat, (xdR u 3 a0) = some b_3 ∧ xd_is u b_3 4 ∧ (vp_in a1 (xdN u b_3) ∧ ∀ y_2 : Int32, y_2 = xdA u b_3 (a1).toNatClampNeg → X_Feel_of_d_23 K y_2 u)))))))))
set_option maxHeartbeats 4000000 in
set_option maxRecDepth 100000 in
theorem X_Feel_of_d_c {l : Launch} {dC : Nat → ClassId} {dI : Nat → Nat → Nat} {cs : Nat → ClassId} {ad ak : Nat → Nat} {q v : Nat → Nat} {a0 : Nat} {a1 : Int32} {u : xs_St} {K : Int32 → xs_St → Prop} (hf : X_Feel_of_d a0 a1 u K) : th_Ci l yX2_of cX2_of 2 (some .int) 0 0 0 (dC, dI) (th_ty cs) (xE ad ak) (wX cs ad q v v) [.ref a0, .int a1] u K := by
  refine th_ofi (by decide) (Nat.le_of_ble_eq_true rfl) (xE_ok ad ak) ?_
  intro p e s m below meth c A ls C hw hl
  have C : th_Cx p s m _ meth c cX2_of RX2 2 (some .int) (dC, dI) (th_ty cs) (xE ad ak) A := C
  have hl : lv_has ls 2 [(0, .ref a0), (1, .int a1)] := hl
  generalize (List.toArray _ : Array Value) = args at C ⊢
  have hx := C.1
  have hb := C.2.1
  unfold X_Feel_of_d at hf
  refine lv_iload_n hx hb dX2_of_0 rfl (lv_at hl 1 rfl) ?_
  refine lv_if_lt (tgt := 22) hx hb dX2_of_1 (by decide) (fun hc => ?_) (fun hc => ?_)
  · replace hf := hf.1 hc
    clear hc
    exact X_Feel_of_d_22_w C  u _ _ _ hf hw (lv_sub hl [] rfl)
  · replace hf := hf.2 hc
    clear hc
    refine lv_iload_n hx hb dX2_of_4 rfl (lv_at hl 1 rfl) ?_
    refine lv_aload_n hx hb dX2_of_5 rfl (lv_at hl 0 rfl) ?_
    obtain ⟨hm, hf⟩ := hf
    refine xdg_Feel_feels C hw hm (C.2.2.2.2.1 _ hwF_X2_35) dX2_of_6 ?_
    obtain ⟨b_1, e9, hm, hf⟩ := hf
    refine W.eq (g2 := F0 m 9 ls [.ref b_1, .int a1]) (congrArg (fun z9 => F0 m 9 ls [va_rf z9, .int a1]) e9) ?_
    clear e9
    refine xdn_4 C hw hm dX2_of_9 ?_
    refine lv_icmp_ge (tgt := 22) hx hb dX2_of_10 (by decide) (fun hc => ?_) (fun hc => ?_)
    · replace hf := hf.1 hc
      clear hc
      exact X_Feel_of_d_22_w C  u _ _ _ hf hw (lv_sub hl [] rfl)
    · replace hf := hf.2 hc
      clear hc
      refine lv_aload_n hx hb dX2_of_13 rfl (lv_at hl 0 rfl) ?_
      obtain ⟨hm, hf⟩ := hf
      refine xdg_Feel_feels C hw hm (C.2.2.2.2.1 _ hwF_X2_35) dX2_of_14 ?_
      refine lv_iload_n hx hb dX2_of_17 rfl (lv_at hl 1 rfl) ?_
      obtain ⟨b_3, e9, hm, hf⟩ := hf
      refine W.eq (g2 := F0 m 18 ls [.int a1, .ref b_3]) (congrArg (fun z9 => F0 m 18 ls [.int a1, va_rf z9]) e9) ?_
      clear e9
      refine xdl_4 C hw hm hf.1 dX2_of_18 (fun y_2 e9 => ?_)
      replace hf := hf.2 y_2 e9
      clear e9
      refine lv_goto (tgt := 23) hx hb dX2_of_19 (by decide) ?_
      exact X_Feel_of_d_23_w C y_2 u _ _ _ hf hw (lv_sub hl [] rfl)
/-! X_Feel_slipOne_d -/
theorem dX2_slipOne_0 : decode cX2_slipOne 0 = .ok (.aload_n 0, 1) := by decide +kernel
theorem dX2_slipOne_1 : decode cX2_slipOne 1 = .ok (.getfield 35, 3) := by decide +kernel
theorem dX2_slipOne_4 : decode cX2_slipOne 4 = .ok (.iload_n 1, 1) := by decide +kernel
theorem dX2_slipOne_5 : decode cX2_slipOne 5 = .ok (.iaload, 1) := by decide +kernel
theorem dX2_slipOne_6 : decode cX2_slipOne 6 = .ok (.aload_n 0, 1) := by decide +kernel
theorem dX2_slipOne_7 : decode cX2_slipOne 7 = .ok (.getfield 35, 3) := by decide +kernel
theorem dX2_slipOne_10 : decode cX2_slipOne 10 = .ok (.iload_n 1, 1) := by decide +kernel
theorem dX2_slipOne_11 : decode cX2_slipOne 11 = .ok (.iconst 1, 1) := by decide +kernel
theorem dX2_slipOne_12 : decode cX2_slipOne 12 = .ok (.iadd, 1) := by decide +kernel
theorem dX2_slipOne_13 : decode cX2_slipOne 13 = .ok (.iaload, 1) := by decide +kernel
theorem dX2_slipOne_14 : decode cX2_slipOne 14 = .ok (.if_icmp .le 7, 3) := by decide +kernel
theorem dX2_slipOne_17 : decode cX2_slipOne 17 = .ok (.iconst 1, 1) := by decide +kernel
theorem dX2_slipOne_18 : decode cX2_slipOne 18 = .ok (.goto 4, 3) := by decide +kernel
theorem dX2_slipOne_21 : decode cX2_slipOne 21 = .ok (.iconst (-1), 1) := by decide +kernel
theorem dX2_slipOne_22 : decode cX2_slipOne 22 = .ok (.istore_n 2, 1) := by decide +kernel
theorem dX2_slipOne_23 : decode cX2_slipOne 23 = .ok (.aload_n 0, 1) := by decide +kernel
theorem dX2_slipOne_24 : decode cX2_slipOne 24 = .ok (.getfield 35, 3) := by decide +kernel
theorem dX2_slipOne_27 : decode cX2_slipOne 27 = .ok (.iload_n 1, 1) := by decide +kernel
theorem dX2_slipOne_28 : decode cX2_slipOne 28 = .ok (.dup2, 1) := by decide +kernel
theorem dX2_slipOne_29 : decode cX2_slipOne 29 = .ok (.iaload, 1) := by decide +kernel
theorem dX2_slipOne_30 : decode cX2_slipOne 30 = .ok (.iload_n 2, 1) := by decide +kernel
theorem dX2_slipOne_31 : decode cX2_slipOne 31 = .ok (.isub, 1) := by decide +kernel
theorem dX2_slipOne_32 : decode cX2_slipOne 32 = .ok (.iastore, 1) := by decide +kernel
theorem dX2_slipOne_33 : decode cX2_slipOne 33 = .ok (.aload_n 0, 1) := by decide +kernel
theorem dX2_slipOne_34 : decode cX2_slipOne 34 = .ok (.getfield 35, 3) := by decide +kernel
theorem dX2_slipOne_37 : decode cX2_slipOne 37 = .ok (.iload_n 1, 1) := by decide +kernel
theorem dX2_slipOne_38 : decode cX2_slipOne 38 = .ok (.iconst 1, 1) := by decide +kernel
theorem dX2_slipOne_39 : decode cX2_slipOne 39 = .ok (.iadd, 1) := by decide +kernel
theorem dX2_slipOne_40 : decode cX2_slipOne 40 = .ok (.dup2, 1) := by decide +kernel
theorem dX2_slipOne_41 : decode cX2_slipOne 41 = .ok (.iaload, 1) := by decide +kernel
theorem dX2_slipOne_42 : decode cX2_slipOne 42 = .ok (.iload_n 2, 1) := by decide +kernel
theorem dX2_slipOne_43 : decode cX2_slipOne 43 = .ok (.iadd, 1) := by decide +kernel
theorem dX2_slipOne_44 : decode cX2_slipOne 44 = .ok (.iastore, 1) := by decide +kernel
theorem dX2_slipOne_45 : decode cX2_slipOne 45 = .ok (.aload_n 0, 1) := by decide +kernel
theorem dX2_slipOne_46 : decode cX2_slipOne 46 = .ok (.dup, 1) := by decide +kernel
theorem dX2_slipOne_47 : decode cX2_slipOne 47 = .ok (.getfield 11, 3) := by decide +kernel
theorem dX2_slipOne_50 : decode cX2_slipOne 50 = .ok (.iconst 1, 1) := by decide +kernel
theorem dX2_slipOne_51 : decode cX2_slipOne 51 = .ok (.iadd, 1) := by decide +kernel
theorem dX2_slipOne_52 : decode cX2_slipOne 52 = .ok (.putfield 11, 3) := by decide +kernel
theorem dX2_slipOne_55 : decode cX2_slipOne 55 = .ok (.return_, 1) := by decide +kernel
def X_Feel_slipOne_d_22 (K : xs_St → Prop) (x0 : Nat) (x1 : Int32) (z0 : Int32) (u : xs_St) : Prop :=
  (xd_is u x0 3 ∧ (∃ b_2 : Nat, (xdR u 3 x0) = some b_2 ∧ xd_is u b_2 4 ∧ (vp_in x1 (xdN u b_2) ∧ ∀ y_1 : Int32, y_1 = xdA u b_2 (x1).toNatClampNeg → (∃ b_4 : Nat, (xdR u 3 x0) = some b_4 ∧ xd_is u b_4 4 ∧ (vp_in x1 (xdN u b_4) ∧ ∀ u_3 : xs_St, u_3 = xs_da u b_4 (upd (xdA u b_4) (x1).toNatClampNeg (y_1 - z0)) → (xd_is u_3 x0 3 ∧ ∀ y_5 : Int32, y_5 = (x1 + (1 : Int32)) → (∃ b_7 : Nat, (xdR u_3 3 x0) = some b_7 ∧ xd_is u_3 b_7 4 ∧ (vp_in y_5 (xdN u_3 b_7) ∧ ∀ y_6 : Int32, y_6 = xdA u_3 b_7 (y_5).toNatClampNeg → (∃ b_9 : Nat, (xdR u_3 3 x0) = some b_9 ∧ xd_is u_3 b_9 4 ∧ (vp_in y_5 (xdN u_3 b_9) ∧ ∀ u_8 : xs_St, u_8 = xs_da u_3 b_9 (upd (xdA u_3 b_9) (y_5).toNatClampNeg (y_6 + z0)) → (xd_is u_8 x0 3 ∧ (xd_is u_8 x0 3 ∧ ∀ u_10 : xs_St, u_10 = xs_di u_8 2 x0 ((xdI u_8 2 x0) + (1 : Int32)) → K u_10))))))))))))
set_option maxHeartbeats 4000000 in
set_option maxRecDepth 100000 in
theorem X_Feel_slipOne_d_22_w {K : xs_St → Prop} (C : th_Cx p s m args meth c cX2_slipOne RX2 3 (none) (dC, dI) (th_ty cs) (xE ad ak) A) (x0 : Nat) (x1 : Int32) (z0 : Int32) (u : xs_St) (H : Heap) (locs : List Loc) (ls : Array Slot) (hf : X_Feel_slipOne_d_22 K x0 x1 z0 u) (hw : th_wI (dC, dI) (wX cs ad q v v) A s.heap u H locs) (hl : lv_has ls 3 [(0, .ref x0), (1, .int x1)]) : W p l e (th_rm 0 0 0) s m args below meth c H locs 0 0 (MQ below (va_Qv K (th_Post (dC, dI) (wX cs ad q v v) A) A) args s 0 0 A) (F0 m 22 ls [.int z0]) := by
  have hx := C.1
  have hb := C.2.1
  unfold X_Feel_slipOne_d_22 at hf
  refine lv_istore_n (lv' := [(2, .int z0), (0, .ref x0), (1, .int x1)]) hx hb dX2_slipOne_22 rfl hl (by decide) rfl (fun ls hl => ?_)
  refine lv_aload_n hx hb dX2_slipOne_23 rfl (lv_at hl 1 rfl) ?_
  obtain ⟨hm, hf⟩ := hf
  refine xdg_Feel_feels C hw hm (C.2.2.2.2.1 _ hwF_X2_35) dX2_slipOne_24 ?_
  refine lv_iload_n hx hb dX2_slipOne_27 rfl (lv_at hl 2 rfl) ?_
  refine lv_dup2_11 hx hb dX2_slipOne_28 rfl (th_cat _) ?_
  obtain ⟨b_2, e9, hm, hf⟩ := hf
  refine W.eq (g2 := F0 m 29 ls [.int x1, .ref b_2, .int x1, va_rf (xdR u 3 x0)]) (congrArg (fun z9 => F0 m 29 ls [.int x1, va_rf z9, .int x1, va_rf (xdR u 3 x0)]) e9) ?_
  clear e9
  refine xdl_4 C hw hm hf.1 dX2_slipOne_29 (fun y_1 e9 => ?_)
  replace hf := hf.2 y_1 e9
  clear e9
  refine lv_iload_n hx hb dX2_slipOne_30 rfl (lv_at hl 0 rfl) ?_
  refine lv_isub hx hb dX2_slipOne_31 ?_
  obtain ⟨b_4, e9, hm, hf⟩ := hf
  refine W.eq (g2 := F0 m 32 ls [.int (y_1 - z0), .int x1, .ref b_4]) (congrArg (fun z9 => F0 m 32 ls [.int (y_1 - z0), .int x1, va_rf z9]) e9) ?_
  clear e9
  refine xds_4 C hw hm hf.1 dX2_slipOne_32 (fun u_3 e9 H locs hw => ?_)
  replace hf := hf.2 u_3 e9
  clear e9
  refine lv_aload_n hx hb dX2_slipOne_33 rfl (lv_at hl 1 rfl) ?_
  obtain ⟨hm, hf⟩ := hf
  refine xdg_Feel_feels C hw hm (C.2.2.2.2.1 _ hwF_X2_35) dX2_slipOne_34 ?_
  refine lv_iload_n hx hb dX2_slipOne_37 rfl (lv_at hl 2 rfl) ?_
  refine lv_iconst (v := (1 : Int32)) hx hb dX2_slipOne_38 (by decide) ?_
  refine lv_iadd hx hb dX2_slipOne_39 ?_
  refine lv_topi (fun y_5 e9 => ?_)
  replace hf := hf y_5 e9
  clear e9
  refine lv_dup2_11 hx hb dX2_slipOne_40 rfl (th_cat _) ?_
  obtain ⟨b_7, e9, hm, hf⟩ := hf
  refine W.eq (g2 := F0 m 41 ls [.int y_5, .ref b_7, .int y_5, va_rf (xdR u_3 3 x0)]) (congrArg (fun z9 => F0 m 41 ls [.int y_5, va_rf z9, .int y_5, va_rf (xdR u_3 3 x0)]) e9) ?_
  clear e9
  refine xdl_4 C hw hm hf.1 dX2_slipOne_41 (fun y_6 e9 => ?_)
  replace hf := hf.2 y_6 e9
  clear e9
  refine lv_iload_n hx hb dX2_slipOne_42 rfl (lv_at hl 0 rfl) ?_
  refine lv_iadd hx hb dX2_slipOne_43 ?_
  obtain ⟨b_9, e9, hm, hf⟩ := hf
  refine W.eq (g2 := F0 m 44 ls [.int (y_6 + z0), .int y_5, .ref b_9]) (congrArg (fun z9 => F0 m 44 ls [.int (y_6 + z0), .int y_5, va_rf z9]) e9) ?_
  clear e9
  refine xds_4 C hw hm hf.1 dX2_slipOne_44 (fun u_8 e9 H locs hw => ?_)
  replace hf := hf.2 u_8 e9
  clear e9
  refine lv_aload_n hx hb dX2_slipOne_45 rfl (lv_at hl 1 rfl) ?_
  refine lv_dup hx hb dX2_slipOne_46 rfl ?_
  obtain ⟨hm, hf⟩ := hf
  refine xdg_Feel_slips C hw hm (C.2.2.2.2.1 _ hwF_X2_11) dX2_slipOne_47 ?_
  refine lv_iconst (v := (1 : Int32)) hx hb dX2_slipOne_50 (by decide) ?_
  refine lv_iadd hx hb dX2_slipOne_51 ?_
  obtain ⟨hm, hf⟩ := hf
  refine xdp_Feel_slips (x := ((xdI u_8 2 x0) + (1 : Int32))) C hw hm (C.2.2.2.2.1 _ hwF_X2_11) dX2_slipOne_52 (fun u_10 e9 H locs hw => ?_)
  replace hf := hf u_10 e9
  clear e9
  exact th_vret C hw hf dX2_slipOne_55
def X_Feel_slipOne_d (a0 : Nat) (a1 : Int32) (u : xs_St) (K : xs_St → Prop) : Prop :=
  (xd_is u a0 3 ∧ (∃ b_2 : Nat, (xdR u 3 a0) = some b_2 ∧ xd_is u b_2 4 ∧ (vp_in a1 (xdN u b_2) ∧ ∀ y_1 : Int32, y_1 = xdA u b_2 (a1).toNatClampNeg → (xd_is u a0 3 ∧ (∃ b_4 : Nat, (xdR u 3 a0) = some b_4 ∧ xd_is u b_4 4 ∧ (vp_in (a1 + (1 : Int32)) (xdN u b_4) ∧ ∀ y_3 : Int32, y_3 = xdA u b_4 ((a1 + (1 : Int32))).toNatClampNeg → ((y_1 ≤ y_3 → X_Feel_slipOne_d_22 K a0 a1 (-1 : Int32) u) ∧ (¬ y_1 ≤ y_3 → X_Feel_slipOne_d_22 K a0 a1 (1 : Int32) u))))))))
set_option maxHeartbeats 4000000 in
set_option maxRecDepth 100000 in
theorem X_Feel_slipOne_d_c {l : Launch} {dC : Nat → ClassId} {dI : Nat → Nat → Nat} {cs : Nat → ClassId} {ad ak : Nat → Nat} {q v : Nat → Nat} {a0 : Nat} {a1 : Int32} {u : xs_St} {K : xs_St → Prop} (hf : X_Feel_slipOne_d a0 a1 u K) : th_Cv l yX2_slipOne cX2_slipOne 3 (none) 0 0 0 (dC, dI) (th_ty cs) (xE ad ak) (wX cs ad q v v) [.ref a0, .int a1] u K := by
  refine th_ofv (by decide) (Nat.le_of_ble_eq_true rfl) (xE_ok ad ak) ?_
  intro p e s m below meth c A ls C hw hl
  have C : th_Cx p s m _ meth c cX2_slipOne RX2 3 (none) (dC, dI) (th_ty cs) (xE ad ak) A := C
  have hl : lv_has ls 3 [(0, .ref a0), (1, .int a1)] := hl
  generalize (List.toArray _ : Array Value) = args at C ⊢
  have hx := C.1
  have hb := C.2.1
  unfold X_Feel_slipOne_d at hf
  refine lv_aload_n hx hb dX2_slipOne_0 rfl (lv_at hl 0 rfl) ?_
  obtain ⟨hm, hf⟩ := hf
  refine xdg_Feel_feels C hw hm (C.2.2.2.2.1 _ hwF_X2_35) dX2_slipOne_1 ?_
  refine lv_iload_n hx hb dX2_slipOne_4 rfl (lv_at hl 1 rfl) ?_
  obtain ⟨b_2, e9, hm, hf⟩ := hf
  refine W.eq (g2 := F0 m 5 ls [.int a1, .ref b_2]) (congrArg (fun z9 => F0 m 5 ls [.int a1, va_rf z9]) e9) ?_
  clear e9
  refine xdl_4 C hw hm hf.1 dX2_slipOne_5 (fun y_1 e9 => ?_)
  replace hf := hf.2 y_1 e9
  clear e9
  refine lv_aload_n hx hb dX2_slipOne_6 rfl (lv_at hl 0 rfl) ?_
  obtain ⟨hm, hf⟩ := hf
  refine xdg_Feel_feels C hw hm (C.2.2.2.2.1 _ hwF_X2_35) dX2_slipOne_7 ?_
  refine lv_iload_n hx hb dX2_slipOne_10 rfl (lv_at hl 1 rfl) ?_
  refine lv_iconst (v := (1 : Int32)) hx hb dX2_slipOne_11 (by decide) ?_
  refine lv_iadd hx hb dX2_slipOne_12 ?_
  obtain ⟨b_4, e9, hm, hf⟩ := hf
  refine W.eq (g2 := F0 m 13 ls [.int (a1 + (1 : Int32)), .ref b_4, .int y_1]) (congrArg (fun z9 => F0 m 13 ls [.int (a1 + (1 : Int32)), va_rf z9, .int y_1]) e9) ?_
  clear e9
  refine xdl_4 C hw hm hf.1 dX2_slipOne_13 (fun y_3 e9 => ?_)
  replace hf := hf.2 y_3 e9
  clear e9
  refine lv_icmp_le (tgt := 21) hx hb dX2_slipOne_14 (by decide) (fun hc => ?_) (fun hc => ?_)
  · replace hf := hf.1 hc
    clear hc
    refine lv_iconst (v := (-1 : Int32)) hx hb dX2_slipOne_21 (by decide) ?_
    exact X_Feel_slipOne_d_22_w C a0 a1 (-1 : Int32) u _ _ _ hf hw (lv_sub hl [0, 1] rfl)
  · replace hf := hf.2 hc
    clear hc
    refine lv_iconst (v := (1 : Int32)) hx hb dX2_slipOne_17 (by decide) ?_
    refine lv_goto (tgt := 22) hx hb dX2_slipOne_18 (by decide) ?_
    exact X_Feel_slipOne_d_22_w C a0 a1 (1 : Int32) u _ _ _ hf hw (lv_sub hl [0, 1] rfl)
/-! X_J_fill_53178_408 -/
theorem dJ7_fill_53178_0 : decode cJ7_fill_53178 0 = .ok (.iconst 0, 1) := by decide +kernel
theorem dJ7_fill_53178_1 : decode cJ7_fill_53178 1 = .ok (.istore_n 2, 1) := by decide +kernel
theorem dJ7_fill_53178_2 : decode cJ7_fill_53178 2 = .ok (.aload_n 0, 1) := by decide +kernel
theorem dJ7_fill_53178_3 : decode cJ7_fill_53178 3 = .ok (.arraylength, 1) := by decide +kernel
theorem dJ7_fill_53178_4 : decode cJ7_fill_53178 4 = .ok (.istore_n 3, 1) := by decide +kernel
theorem dJ7_fill_53178_5 : decode cJ7_fill_53178 5 = .ok (.iload_n 2, 1) := by decide +kernel
theorem dJ7_fill_53178_6 : decode cJ7_fill_53178 6 = .ok (.iload_n 3, 1) := by decide +kernel
theorem dJ7_fill_53178_7 : decode cJ7_fill_53178 7 = .ok (.if_icmp .ge 13, 3) := by decide +kernel
theorem dJ7_fill_53178_10 : decode cJ7_fill_53178 10 = .ok (.aload_n 0, 1) := by decide +kernel
theorem dJ7_fill_53178_11 : decode cJ7_fill_53178 11 = .ok (.iload_n 2, 1) := by decide +kernel
theorem dJ7_fill_53178_12 : decode cJ7_fill_53178 12 = .ok (.iload_n 1, 1) := by decide +kernel
theorem dJ7_fill_53178_13 : decode cJ7_fill_53178 13 = .ok (.iastore, 1) := by decide +kernel
theorem dJ7_fill_53178_14 : decode cJ7_fill_53178 14 = .ok (.iinc 2 1, 3) := by decide +kernel
theorem dJ7_fill_53178_17 : decode cJ7_fill_53178 17 = .ok (.goto (-12), 3) := by decide +kernel
theorem dJ7_fill_53178_20 : decode cJ7_fill_53178 20 = .ok (.return_, 1) := by decide +kernel
def X_J_fill_53178_408_5 (K : xs_St → Prop) (k5 : Int32 → Int32 → Int32 → xs_St → Prop) (x1 : Int32) (x2 : Int32) (x3 : Int32) (u : xs_St) : Prop :=
  ((x3 ≤ x2 → K u) ∧ (¬ x3 ≤ x2 → (vp_in x2 48 ∧ ∀ u_1 : xs_St, u_1 = xs_sa u 408 (upd (xa u 408) (x2).toNatClampNeg x1) → ∀ x2_2 : Int32, x2_2 = x2 + (1 : Int32) → k5 x1 x2_2 x3 u_1)))
set_option maxHeartbeats 4000000 in
set_option maxRecDepth 100000 in
theorem X_J_fill_53178_408_5_w {K : xs_St → Prop} {k5 : Int32 → Int32 → Int32 → xs_St → Prop} (C : th_Cx p s m args meth c cJ7_fill_53178 RJ7 4 (none) (dC, dI) (th_ty cs) (xE ad ak) A) (hk5 : ∀ (x1 : Int32) (x2 : Int32) (x3 : Int32) (u : xs_St) (H : Heap) (locs : List Loc) (ls : Array Slot), k5 x1 x2 x3 u → th_wI (dC, dI) (wX cs ad q v v) A s.heap u H locs → lv_has ls 4 [(0, .ref (v 408)), (1, .int x1), (2, .int x2), (3, .int x3)] → W p l e (th_rm 0 0 0) s m args below meth c H locs 0 0 (MQ below (va_Qv K (th_Post (dC, dI) (wX cs ad q v v) A) A) args s 0 0 A) (F0 m 5 ls [])) (x1 : Int32) (x2 : Int32) (x3 : Int32) (u : xs_St) (H : Heap) (locs : List Loc) (ls : Array Slot) (hf : X_J_fill_53178_408_5 K k5 x1 x2 x3 u) (hw : th_wI (dC, dI) (wX cs ad q v v) A s.heap u H locs) (hl : lv_has ls 4 [(0, .ref (v 408)), (1, .int x1), (2, .int x2), (3, .int x3)]) : W p l e (th_rm 0 0 0) s m args below meth c H locs 0 0 (MQ below (va_Qv K (th_Post (dC, dI) (wX cs ad q v v) A) A) args s 0 0 A) (F0 m 5 ls []) := by
  have hx := C.1
  have hb := C.2.1
  unfold X_J_fill_53178_408_5 at hf
  refine lv_iload_n hx hb dJ7_fill_53178_5 rfl (lv_at hl 2 rfl) ?_
  refine lv_iload_n hx hb dJ7_fill_53178_6 rfl (lv_at hl 3 rfl) ?_
  refine lv_icmp_ge (tgt := 20) hx hb dJ7_fill_53178_7 (by decide) (fun hc => ?_) (fun hc => ?_)
  · replace hf := hf.1 hc
    clear hc
    exact th_vret C hw hf dJ7_fill_53178_20
  · replace hf := hf.2 hc
    clear hc
    refine lv_aload_n hx hb dJ7_fill_53178_10 rfl (lv_at hl 0 rfl) ?_
    refine lv_iload_n hx hb dJ7_fill_53178_11 rfl (lv_at hl 2 rfl) ?_
    refine lv_iload_n hx hb dJ7_fill_53178_12 rfl (lv_at hl 1 rfl) ?_
    refine ys_408 C hw hf.1 dJ7_fill_53178_13 (fun u_1 e9 H locs hw => ?_)
    replace hf := hf.2 u_1 e9
    clear e9
    obtain ⟨x2_2, e9⟩ : ∃ y : Int32, y = x2 + (1 : Int32) := ⟨_, rfl⟩
    replace hf := hf x2_2 e9
    refine lv_iinc (v := x2_2) (lv' := [(2, .int x2_2), (0, .ref (v 408)), (1, .int x1), (3, .int x3)]) hx hb dJ7_fill_53178_14 hl (k := 2) rfl (by rw [e9]; rfl) (by decide) rfl (fun ls hl => ?_)
    clear e9
    refine lv_goto (tgt := 5) hx hb dJ7_fill_53178_17 (by decide) ?_
    exact hk5 x1 x2_2 x3 u_1 _ _ _ hf hw (lv_sub hl [1, 2, 0, 3] rfl)
def X_J_fill_53178_408_5_lp (K : xs_St → Prop) : Nat → Int32 → Int32 → Int32 → xs_St → Prop
  | 0, _, _, _, _ => False
  | n + 1, x1, x2, x3, u => X_J_fill_53178_408_5 K (X_J_fill_53178_408_5_lp K n) x1 x2 x3 u
set_option maxHeartbeats 4000000 in
set_option maxRecDepth 100000 in
theorem X_J_fill_53178_408_5_lw {K : xs_St → Prop} (C : th_Cx p s m args meth c cJ7_fill_53178 RJ7 4 (none) (dC, dI) (th_ty cs) (xE ad ak) A) (n : Nat) : ∀ (x1 : Int32) (x2 : Int32) (x3 : Int32) (u : xs_St) (H : Heap) (locs : List Loc) (ls : Array Slot), X_J_fill_53178_408_5_lp K n x1 x2 x3 u → th_wI (dC, dI) (wX cs ad q v v) A s.heap u H locs → lv_has ls 4 [(0, .ref (v 408)), (1, .int x1), (2, .int x2), (3, .int x3)] → W p l e (th_rm 0 0 0) s m args below meth c H locs 0 0 (MQ below (va_Qv K (th_Post (dC, dI) (wX cs ad q v v) A) A) args s 0 0 A) (F0 m 5 ls []) := by
  induction n with
  | zero => intro x1 x2 x3 u H locs ls hf; exact hf.elim
  | succ n ih =>
    intro x1 x2 x3 u H locs ls hf hw hl
    exact X_J_fill_53178_408_5_w C ih x1 x2 x3 u H locs ls hf hw hl
def X_J_fill_53178_408 (a2 : Int32) (u : xs_St) (K : xs_St → Prop) : Prop :=
  ∃ n, X_J_fill_53178_408_5_lp K n a2 (0 : Int32) (48 : Int32) u
set_option maxHeartbeats 4000000 in
set_option maxRecDepth 100000 in
theorem X_J_fill_53178_408_c {l : Launch} {dC : Nat → ClassId} {dI : Nat → Nat → Nat} {cs : Nat → ClassId} {ad ak : Nat → Nat} {q v : Nat → Nat} {a2 : Int32} {u : xs_St} {K : xs_St → Prop} (hf : X_J_fill_53178_408 a2 u K) : th_Cv l yJ7_fill_53178 cJ7_fill_53178 4 (none) 0 0 0 (dC, dI) (th_ty cs) (xE ad ak) (wX cs ad q v v) [.ref (v 408), .int a2] u K := by
  refine th_ofv (by decide) (Nat.le_of_ble_eq_true rfl) (xE_ok ad ak) ?_
  intro p e s m below meth c A ls C hw hl
  have C : th_Cx p s m _ meth c cJ7_fill_53178 RJ7 4 (none) (dC, dI) (th_ty cs) (xE ad ak) A := C
  have hl : lv_has ls 4 [(0, .ref (v 408)), (1, .int a2)] := hl
  generalize (List.toArray _ : Array Value) = args at C ⊢
  have hx := C.1
  have hb := C.2.1
  unfold X_J_fill_53178_408 at hf
  refine lv_iconst (v := (0 : Int32)) hx hb dJ7_fill_53178_0 (by decide) ?_
  refine lv_istore_n (lv' := [(2, .int (0 : Int32)), (0, .ref (v 408)), (1, .int a2)]) hx hb dJ7_fill_53178_1 rfl hl (by decide) rfl (fun ls hl => ?_)
  refine lv_aload_n hx hb dJ7_fill_53178_2 rfl (lv_at hl 1 rfl) ?_
  refine yn_408 C hw dJ7_fill_53178_3 ?_
  refine lv_istore_n (lv' := [(3, .int (48 : Int32)), (2, .int (0 : Int32)), (0, .ref (v 408)), (1, .int a2)]) hx hb dJ7_fill_53178_4 rfl hl (by decide) rfl (fun ls hl => ?_)
  obtain ⟨n, hf⟩ := hf
  exact X_J_fill_53178_408_5_lw C n a2 (0 : Int32) (48 : Int32) u _ _ _ hf hw (lv_sub hl [2, 3, 1, 0] rfl)
/-! X_J_fill_53178_607 -/
def X_J_fill_53178_607_5 (K : xs_St → Prop) (k5 : Int32 → Int32 → Int32 → xs_St → Prop) (x1 : Int32) (x2 : Int32) (x3 : Int32) (u : xs_St) : Prop :=
  ((x3 ≤ x2 → K u) ∧ (¬ x3 ≤ x2 → (vp_in x2 31 ∧ ∀ u_1 : xs_St, u_1 = xs_sa u 607 (upd (xa u 607) (x2).toNatClampNeg x1) → ∀ x2_2 : Int32, x2_2 = x2 + (1 : Int32) → k5 x1 x2_2 x3 u_1)))
set_option maxHeartbeats 4000000 in
set_option maxRecDepth 100000 in
theorem X_J_fill_53178_607_5_w {K : xs_St → Prop} {k5 : Int32 → Int32 → Int32 → xs_St → Prop} (C : th_Cx p s m args meth c cJ7_fill_53178 RJ7 4 (none) (dC, dI) (th_ty cs) (xE ad ak) A) (hk5 : ∀ (x1 : Int32) (x2 : Int32) (x3 : Int32) (u : xs_St) (H : Heap) (locs : List Loc) (ls : Array Slot), k5 x1 x2 x3 u → th_wI (dC, dI) (wX cs ad q v v) A s.heap u H locs → lv_has ls 4 [(0, .ref (v 607)), (1, .int x1), (2, .int x2), (3, .int x3)] → W p l e (th_rm 0 0 0) s m args below meth c H locs 0 0 (MQ below (va_Qv K (th_Post (dC, dI) (wX cs ad q v v) A) A) args s 0 0 A) (F0 m 5 ls [])) (x1 : Int32) (x2 : Int32) (x3 : Int32) (u : xs_St) (H : Heap) (locs : List Loc) (ls : Array Slot) (hf : X_J_fill_53178_607_5 K k5 x1 x2 x3 u) (hw : th_wI (dC, dI) (wX cs ad q v v) A s.heap u H locs) (hl : lv_has ls 4 [(0, .ref (v 607)), (1, .int x1), (2, .int x2), (3, .int x3)]) : W p l e (th_rm 0 0 0) s m args below meth c H locs 0 0 (MQ below (va_Qv K (th_Post (dC, dI) (wX cs ad q v v) A) A) args s 0 0 A) (F0 m 5 ls []) := by
  have hx := C.1
  have hb := C.2.1
  unfold X_J_fill_53178_607_5 at hf
  refine lv_iload_n hx hb dJ7_fill_53178_5 rfl (lv_at hl 2 rfl) ?_
  refine lv_iload_n hx hb dJ7_fill_53178_6 rfl (lv_at hl 3 rfl) ?_
  refine lv_icmp_ge (tgt := 20) hx hb dJ7_fill_53178_7 (by decide) (fun hc => ?_) (fun hc => ?_)
  · replace hf := hf.1 hc
    clear hc
    exact th_vret C hw hf dJ7_fill_53178_20
  · replace hf := hf.2 hc
    clear hc
    refine lv_aload_n hx hb dJ7_fill_53178_10 rfl (lv_at hl 0 rfl) ?_
    refine lv_iload_n hx hb dJ7_fill_53178_11 rfl (lv_at hl 2 rfl) ?_
    refine lv_iload_n hx hb dJ7_fill_53178_12 rfl (lv_at hl 1 rfl) ?_
    refine ys_607 C hw hf.1 dJ7_fill_53178_13 (fun u_1 e9 H locs hw => ?_)
    replace hf := hf.2 u_1 e9
    clear e9
    obtain ⟨x2_2, e9⟩ : ∃ y : Int32, y = x2 + (1 : Int32) := ⟨_, rfl⟩
    replace hf := hf x2_2 e9
    refine lv_iinc (v := x2_2) (lv' := [(2, .int x2_2), (0, .ref (v 607)), (1, .int x1), (3, .int x3)]) hx hb dJ7_fill_53178_14 hl (k := 2) rfl (by rw [e9]; rfl) (by decide) rfl (fun ls hl => ?_)
    clear e9
    refine lv_goto (tgt := 5) hx hb dJ7_fill_53178_17 (by decide) ?_
    exact hk5 x1 x2_2 x3 u_1 _ _ _ hf hw (lv_sub hl [1, 2, 0, 3] rfl)
def X_J_fill_53178_607_5_lp (K : xs_St → Prop) : Nat → Int32 → Int32 → Int32 → xs_St → Prop
  | 0, _, _, _, _ => False
  | n + 1, x1, x2, x3, u => X_J_fill_53178_607_5 K (X_J_fill_53178_607_5_lp K n) x1 x2 x3 u
set_option maxHeartbeats 4000000 in
set_option maxRecDepth 100000 in
theorem X_J_fill_53178_607_5_lw {K : xs_St → Prop} (C : th_Cx p s m args meth c cJ7_fill_53178 RJ7 4 (none) (dC, dI) (th_ty cs) (xE ad ak) A) (n : Nat) : ∀ (x1 : Int32) (x2 : Int32) (x3 : Int32) (u : xs_St) (H : Heap) (locs : List Loc) (ls : Array Slot), X_J_fill_53178_607_5_lp K n x1 x2 x3 u → th_wI (dC, dI) (wX cs ad q v v) A s.heap u H locs → lv_has ls 4 [(0, .ref (v 607)), (1, .int x1), (2, .int x2), (3, .int x3)] → W p l e (th_rm 0 0 0) s m args below meth c H locs 0 0 (MQ below (va_Qv K (th_Post (dC, dI) (wX cs ad q v v) A) A) args s 0 0 A) (F0 m 5 ls []) := by
  induction n with
  | zero => intro x1 x2 x3 u H locs ls hf; exact hf.elim
  | succ n ih =>
    intro x1 x2 x3 u H locs ls hf hw hl
    exact X_J_fill_53178_607_5_w C ih x1 x2 x3 u H locs ls hf hw hl
def X_J_fill_53178_607 (a2 : Int32) (u : xs_St) (K : xs_St → Prop) : Prop :=
  ∃ n, X_J_fill_53178_607_5_lp K n a2 (0 : Int32) (31 : Int32) u
set_option maxHeartbeats 4000000 in
set_option maxRecDepth 100000 in
theorem X_J_fill_53178_607_c {l : Launch} {dC : Nat → ClassId} {dI : Nat → Nat → Nat} {cs : Nat → ClassId} {ad ak : Nat → Nat} {q v : Nat → Nat} {a2 : Int32} {u : xs_St} {K : xs_St → Prop} (hf : X_J_fill_53178_607 a2 u K) : th_Cv l yJ7_fill_53178 cJ7_fill_53178 4 (none) 0 0 0 (dC, dI) (th_ty cs) (xE ad ak) (wX cs ad q v v) [.ref (v 607), .int a2] u K := by
  refine th_ofv (by decide) (Nat.le_of_ble_eq_true rfl) (xE_ok ad ak) ?_
  intro p e s m below meth c A ls C hw hl
  have C : th_Cx p s m _ meth c cJ7_fill_53178 RJ7 4 (none) (dC, dI) (th_ty cs) (xE ad ak) A := C
  have hl : lv_has ls 4 [(0, .ref (v 607)), (1, .int a2)] := hl
  generalize (List.toArray _ : Array Value) = args at C ⊢
  have hx := C.1
  have hb := C.2.1
  unfold X_J_fill_53178_607 at hf
  refine lv_iconst (v := (0 : Int32)) hx hb dJ7_fill_53178_0 (by decide) ?_
  refine lv_istore_n (lv' := [(2, .int (0 : Int32)), (0, .ref (v 607)), (1, .int a2)]) hx hb dJ7_fill_53178_1 rfl hl (by decide) rfl (fun ls hl => ?_)
  refine lv_aload_n hx hb dJ7_fill_53178_2 rfl (lv_at hl 1 rfl) ?_
  refine yn_607 C hw dJ7_fill_53178_3 ?_
  refine lv_istore_n (lv' := [(3, .int (31 : Int32)), (2, .int (0 : Int32)), (0, .ref (v 607)), (1, .int a2)]) hx hb dJ7_fill_53178_4 rfl hl (by decide) rfl (fun ls hl => ?_)
  obtain ⟨n, hf⟩ := hf
  exact X_J_fill_53178_607_5_lw C n a2 (0 : Int32) (31 : Int32) u _ _ _ hf hw (lv_sub hl [2, 3, 1, 0] rfl)
/-! X_J_fill_53178_608 -/
def X_J_fill_53178_608_5 (K : xs_St → Prop) (k5 : Int32 → Int32 → Int32 → xs_St → Prop) (x1 : Int32) (x2 : Int32) (x3 : Int32) (u : xs_St) : Prop :=
  ((x3 ≤ x2 → K u) ∧ (¬ x3 ≤ x2 → (vp_in x2 31 ∧ ∀ u_1 : xs_St, u_1 = xs_sa u 608 (upd (xa u 608) (x2).toNatClampNeg x1) → ∀ x2_2 : Int32, x2_2 = x2 + (1 : Int32) → k5 x1 x2_2 x3 u_1)))
set_option maxHeartbeats 4000000 in
set_option maxRecDepth 100000 in
theorem X_J_fill_53178_608_5_w {K : xs_St → Prop} {k5 : Int32 → Int32 → Int32 → xs_St → Prop} (C : th_Cx p s m args meth c cJ7_fill_53178 RJ7 4 (none) (dC, dI) (th_ty cs) (xE ad ak) A) (hk5 : ∀ (x1 : Int32) (x2 : Int32) (x3 : Int32) (u : xs_St) (H : Heap) (locs : List Loc) (ls : Array Slot), k5 x1 x2 x3 u → th_wI (dC, dI) (wX cs ad q v v) A s.heap u H locs → lv_has ls 4 [(0, .ref (v 608)), (1, .int x1), (2, .int x2), (3, .int x3)] → W p l e (th_rm 0 0 0) s m args below meth c H locs 0 0 (MQ below (va_Qv K (th_Post (dC, dI) (wX cs ad q v v) A) A) args s 0 0 A) (F0 m 5 ls [])) (x1 : Int32) (x2 : Int32) (x3 : Int32) (u : xs_St) (H : Heap) (locs : List Loc) (ls : Array Slot) (hf : X_J_fill_53178_608_5 K k5 x1 x2 x3 u) (hw : th_wI (dC, dI) (wX cs ad q v v) A s.heap u H locs) (hl : lv_has ls 4 [(0, .ref (v 608)), (1, .int x1), (2, .int x2), (3, .int x3)]) : W p l e (th_rm 0 0 0) s m args below meth c H locs 0 0 (MQ below (va_Qv K (th_Post (dC, dI) (wX cs ad q v v) A) A) args s 0 0 A) (F0 m 5 ls []) := by
  have hx := C.1
  have hb := C.2.1
  unfold X_J_fill_53178_608_5 at hf
  refine lv_iload_n hx hb dJ7_fill_53178_5 rfl (lv_at hl 2 rfl) ?_
  refine lv_iload_n hx hb dJ7_fill_53178_6 rfl (lv_at hl 3 rfl) ?_
  refine lv_icmp_ge (tgt := 20) hx hb dJ7_fill_53178_7 (by decide) (fun hc => ?_) (fun hc => ?_)
  · replace hf := hf.1 hc
    clear hc
    exact th_vret C hw hf dJ7_fill_53178_20
  · replace hf := hf.2 hc
    clear hc
    refine lv_aload_n hx hb dJ7_fill_53178_10 rfl (lv_at hl 0 rfl) ?_
    refine lv_iload_n hx hb dJ7_fill_53178_11 rfl (lv_at hl 2 rfl) ?_
    refine lv_iload_n hx hb dJ7_fill_53178_12 rfl (lv_at hl 1 rfl) ?_
    refine ys_608 C hw hf.1 dJ7_fill_53178_13 (fun u_1 e9 H locs hw => ?_)
    replace hf := hf.2 u_1 e9
    clear e9
    obtain ⟨x2_2, e9⟩ : ∃ y : Int32, y = x2 + (1 : Int32) := ⟨_, rfl⟩
    replace hf := hf x2_2 e9
    refine lv_iinc (v := x2_2) (lv' := [(2, .int x2_2), (0, .ref (v 608)), (1, .int x1), (3, .int x3)]) hx hb dJ7_fill_53178_14 hl (k := 2) rfl (by rw [e9]; rfl) (by decide) rfl (fun ls hl => ?_)
    clear e9
    refine lv_goto (tgt := 5) hx hb dJ7_fill_53178_17 (by decide) ?_
    exact hk5 x1 x2_2 x3 u_1 _ _ _ hf hw (lv_sub hl [1, 2, 0, 3] rfl)
def X_J_fill_53178_608_5_lp (K : xs_St → Prop) : Nat → Int32 → Int32 → Int32 → xs_St → Prop
  | 0, _, _, _, _ => False
  | n + 1, x1, x2, x3, u => X_J_fill_53178_608_5 K (X_J_fill_53178_608_5_lp K n) x1 x2 x3 u
set_option maxHeartbeats 4000000 in
set_option maxRecDepth 100000 in
theorem X_J_fill_53178_608_5_lw {K : xs_St → Prop} (C : th_Cx p s m args meth c cJ7_fill_53178 RJ7 4 (none) (dC, dI) (th_ty cs) (xE ad ak) A) (n : Nat) : ∀ (x1 : Int32) (x2 : Int32) (x3 : Int32) (u : xs_St) (H : Heap) (locs : List Loc) (ls : Array Slot), X_J_fill_53178_608_5_lp K n x1 x2 x3 u → th_wI (dC, dI) (wX cs ad q v v) A s.heap u H locs → lv_has ls 4 [(0, .ref (v 608)), (1, .int x1), (2, .int x2), (3, .int x3)] → W p l e (th_rm 0 0 0) s m args below meth c H locs 0 0 (MQ below (va_Qv K (th_Post (dC, dI) (wX cs ad q v v) A) A) args s 0 0 A) (F0 m 5 ls []) := by
  induction n with
  | zero => intro x1 x2 x3 u H locs ls hf; exact hf.elim
  | succ n ih =>
    intro x1 x2 x3 u H locs ls hf hw hl
    exact X_J_fill_53178_608_5_w C ih x1 x2 x3 u H locs ls hf hw hl
def X_J_fill_53178_608 (a2 : Int32) (u : xs_St) (K : xs_St → Prop) : Prop :=
  ∃ n, X_J_fill_53178_608_5_lp K n a2 (0 : Int32) (31 : Int32) u
set_option maxHeartbeats 4000000 in
set_option maxRecDepth 100000 in
theorem X_J_fill_53178_608_c {l : Launch} {dC : Nat → ClassId} {dI : Nat → Nat → Nat} {cs : Nat → ClassId} {ad ak : Nat → Nat} {q v : Nat → Nat} {a2 : Int32} {u : xs_St} {K : xs_St → Prop} (hf : X_J_fill_53178_608 a2 u K) : th_Cv l yJ7_fill_53178 cJ7_fill_53178 4 (none) 0 0 0 (dC, dI) (th_ty cs) (xE ad ak) (wX cs ad q v v) [.ref (v 608), .int a2] u K := by
  refine th_ofv (by decide) (Nat.le_of_ble_eq_true rfl) (xE_ok ad ak) ?_
  intro p e s m below meth c A ls C hw hl
  have C : th_Cx p s m _ meth c cJ7_fill_53178 RJ7 4 (none) (dC, dI) (th_ty cs) (xE ad ak) A := C
  have hl : lv_has ls 4 [(0, .ref (v 608)), (1, .int a2)] := hl
  generalize (List.toArray _ : Array Value) = args at C ⊢
  have hx := C.1
  have hb := C.2.1
  unfold X_J_fill_53178_608 at hf
  refine lv_iconst (v := (0 : Int32)) hx hb dJ7_fill_53178_0 (by decide) ?_
  refine lv_istore_n (lv' := [(2, .int (0 : Int32)), (0, .ref (v 608)), (1, .int a2)]) hx hb dJ7_fill_53178_1 rfl hl (by decide) rfl (fun ls hl => ?_)
  refine lv_aload_n hx hb dJ7_fill_53178_2 rfl (lv_at hl 1 rfl) ?_
  refine yn_608 C hw dJ7_fill_53178_3 ?_
  refine lv_istore_n (lv' := [(3, .int (31 : Int32)), (2, .int (0 : Int32)), (0, .ref (v 608)), (1, .int a2)]) hx hb dJ7_fill_53178_4 rfl hl (by decide) rfl (fun ls hl => ?_)
  obtain ⟨n, hf⟩ := hf
  exact X_J_fill_53178_608_5_lw C n a2 (0 : Int32) (31 : Int32) u _ _ _ hf hw (lv_sub hl [2, 3, 1, 0] rfl)
/-! X_J_fill_53178_804 -/
def X_J_fill_53178_804_5 (K : xs_St → Prop) (k5 : Int32 → Int32 → Int32 → xs_St → Prop) (x1 : Int32) (x2 : Int32) (x3 : Int32) (u : xs_St) : Prop :=
  ((x3 ≤ x2 → K u) ∧ (¬ x3 ≤ x2 → (vp_in x2 48 ∧ ∀ u_1 : xs_St, u_1 = xs_sa u 804 (upd (xa u 804) (x2).toNatClampNeg x1) → ∀ x2_2 : Int32, x2_2 = x2 + (1 : Int32) → k5 x1 x2_2 x3 u_1)))
set_option maxHeartbeats 4000000 in
set_option maxRecDepth 100000 in
theorem X_J_fill_53178_804_5_w {K : xs_St → Prop} {k5 : Int32 → Int32 → Int32 → xs_St → Prop} (C : th_Cx p s m args meth c cJ7_fill_53178 RJ7 4 (none) (dC, dI) (th_ty cs) (xE ad ak) A) (hk5 : ∀ (x1 : Int32) (x2 : Int32) (x3 : Int32) (u : xs_St) (H : Heap) (locs : List Loc) (ls : Array Slot), k5 x1 x2 x3 u → th_wI (dC, dI) (wX cs ad q v v) A s.heap u H locs → lv_has ls 4 [(0, .ref (v 804)), (1, .int x1), (2, .int x2), (3, .int x3)] → W p l e (th_rm 0 0 0) s m args below meth c H locs 0 0 (MQ below (va_Qv K (th_Post (dC, dI) (wX cs ad q v v) A) A) args s 0 0 A) (F0 m 5 ls [])) (x1 : Int32) (x2 : Int32) (x3 : Int32) (u : xs_St) (H : Heap) (locs : List Loc) (ls : Array Slot) (hf : X_J_fill_53178_804_5 K k5 x1 x2 x3 u) (hw : th_wI (dC, dI) (wX cs ad q v v) A s.heap u H locs) (hl : lv_has ls 4 [(0, .ref (v 804)), (1, .int x1), (2, .int x2), (3, .int x3)]) : W p l e (th_rm 0 0 0) s m args below meth c H locs 0 0 (MQ below (va_Qv K (th_Post (dC, dI) (wX cs ad q v v) A) A) args s 0 0 A) (F0 m 5 ls []) := by
  have hx := C.1
  have hb := C.2.1
  unfold X_J_fill_53178_804_5 at hf
  refine lv_iload_n hx hb dJ7_fill_53178_5 rfl (lv_at hl 2 rfl) ?_
  refine lv_iload_n hx hb dJ7_fill_53178_6 rfl (lv_at hl 3 rfl) ?_
  refine lv_icmp_ge (tgt := 20) hx hb dJ7_fill_53178_7 (by decide) (fun hc => ?_) (fun hc => ?_)
  · replace hf := hf.1 hc
    clear hc
    exact th_vret C hw hf dJ7_fill_53178_20
  · replace hf := hf.2 hc
    clear hc
    refine lv_aload_n hx hb dJ7_fill_53178_10 rfl (lv_at hl 0 rfl) ?_
    refine lv_iload_n hx hb dJ7_fill_53178_11 rfl (lv_at hl 2 rfl) ?_
    refine lv_iload_n hx hb dJ7_fill_53178_12 rfl (lv_at hl 1 rfl) ?_
    refine ys_804 C hw hf.1 dJ7_fill_53178_13 (fun u_1 e9 H locs hw => ?_)
    replace hf := hf.2 u_1 e9
    clear e9
    obtain ⟨x2_2, e9⟩ : ∃ y : Int32, y = x2 + (1 : Int32) := ⟨_, rfl⟩
    replace hf := hf x2_2 e9
    refine lv_iinc (v := x2_2) (lv' := [(2, .int x2_2), (0, .ref (v 804)), (1, .int x1), (3, .int x3)]) hx hb dJ7_fill_53178_14 hl (k := 2) rfl (by rw [e9]; rfl) (by decide) rfl (fun ls hl => ?_)
    clear e9
    refine lv_goto (tgt := 5) hx hb dJ7_fill_53178_17 (by decide) ?_
    exact hk5 x1 x2_2 x3 u_1 _ _ _ hf hw (lv_sub hl [1, 2, 0, 3] rfl)
def X_J_fill_53178_804_5_lp (K : xs_St → Prop) : Nat → Int32 → Int32 → Int32 → xs_St → Prop
  | 0, _, _, _, _ => False
  | n + 1, x1, x2, x3, u => X_J_fill_53178_804_5 K (X_J_fill_53178_804_5_lp K n) x1 x2 x3 u
set_option maxHeartbeats 4000000 in
set_option maxRecDepth 100000 in
theorem X_J_fill_53178_804_5_lw {K : xs_St → Prop} (C : th_Cx p s m args meth c cJ7_fill_53178 RJ7 4 (none) (dC, dI) (th_ty cs) (xE ad ak) A) (n : Nat) : ∀ (x1 : Int32) (x2 : Int32) (x3 : Int32) (u : xs_St) (H : Heap) (locs : List Loc) (ls : Array Slot), X_J_fill_53178_804_5_lp K n x1 x2 x3 u → th_wI (dC, dI) (wX cs ad q v v) A s.heap u H locs → lv_has ls 4 [(0, .ref (v 804)), (1, .int x1), (2, .int x2), (3, .int x3)] → W p l e (th_rm 0 0 0) s m args below meth c H locs 0 0 (MQ below (va_Qv K (th_Post (dC, dI) (wX cs ad q v v) A) A) args s 0 0 A) (F0 m 5 ls []) := by
  induction n with
  | zero => intro x1 x2 x3 u H locs ls hf; exact hf.elim
  | succ n ih =>
    intro x1 x2 x3 u H locs ls hf hw hl
    exact X_J_fill_53178_804_5_w C ih x1 x2 x3 u H locs ls hf hw hl
def X_J_fill_53178_804 (a2 : Int32) (u : xs_St) (K : xs_St → Prop) : Prop :=
  ∃ n, X_J_fill_53178_804_5_lp K n a2 (0 : Int32) (48 : Int32) u
set_option maxHeartbeats 4000000 in
set_option maxRecDepth 100000 in
theorem X_J_fill_53178_804_c {l : Launch} {dC : Nat → ClassId} {dI : Nat → Nat → Nat} {cs : Nat → ClassId} {ad ak : Nat → Nat} {q v : Nat → Nat} {a2 : Int32} {u : xs_St} {K : xs_St → Prop} (hf : X_J_fill_53178_804 a2 u K) : th_Cv l yJ7_fill_53178 cJ7_fill_53178 4 (none) 0 0 0 (dC, dI) (th_ty cs) (xE ad ak) (wX cs ad q v v) [.ref (v 804), .int a2] u K := by
  refine th_ofv (by decide) (Nat.le_of_ble_eq_true rfl) (xE_ok ad ak) ?_
  intro p e s m below meth c A ls C hw hl
  have C : th_Cx p s m _ meth c cJ7_fill_53178 RJ7 4 (none) (dC, dI) (th_ty cs) (xE ad ak) A := C
  have hl : lv_has ls 4 [(0, .ref (v 804)), (1, .int a2)] := hl
  generalize (List.toArray _ : Array Value) = args at C ⊢
  have hx := C.1
  have hb := C.2.1
  unfold X_J_fill_53178_804 at hf
  refine lv_iconst (v := (0 : Int32)) hx hb dJ7_fill_53178_0 (by decide) ?_
  refine lv_istore_n (lv' := [(2, .int (0 : Int32)), (0, .ref (v 804)), (1, .int a2)]) hx hb dJ7_fill_53178_1 rfl hl (by decide) rfl (fun ls hl => ?_)
  refine lv_aload_n hx hb dJ7_fill_53178_2 rfl (lv_at hl 1 rfl) ?_
  refine yn_804 C hw dJ7_fill_53178_3 ?_
  refine lv_istore_n (lv' := [(3, .int (48 : Int32)), (2, .int (0 : Int32)), (0, .ref (v 804)), (1, .int a2)]) hx hb dJ7_fill_53178_4 rfl hl (by decide) rfl (fun ls hl => ?_)
  obtain ⟨n, hf⟩ := hf
  exact X_J_fill_53178_804_5_lw C n a2 (0 : Int32) (48 : Int32) u _ _ _ hf hw (lv_sub hl [2, 3, 1, 0] rfl)
/-! X_J_fill_53178_900 -/
def X_J_fill_53178_900_5 (K : xs_St → Prop) (k5 : Int32 → Int32 → Int32 → xs_St → Prop) (x1 : Int32) (x2 : Int32) (x3 : Int32) (u : xs_St) : Prop :=
  ((x3 ≤ x2 → K u) ∧ (¬ x3 ≤ x2 → (vp_in x2 48 ∧ ∀ u_1 : xs_St, u_1 = xs_sa u 900 (upd (xa u 900) (x2).toNatClampNeg x1) → ∀ x2_2 : Int32, x2_2 = x2 + (1 : Int32) → k5 x1 x2_2 x3 u_1)))
set_option maxHeartbeats 4000000 in
set_option maxRecDepth 100000 in
theorem X_J_fill_53178_900_5_w {K : xs_St → Prop} {k5 : Int32 → Int32 → Int32 → xs_St → Prop} (C : th_Cx p s m args meth c cJ7_fill_53178 RJ7 4 (none) (dC, dI) (th_ty cs) (xE ad ak) A) (hk5 : ∀ (x1 : Int32) (x2 : Int32) (x3 : Int32) (u : xs_St) (H : Heap) (locs : List Loc) (ls : Array Slot), k5 x1 x2 x3 u → th_wI (dC, dI) (wX cs ad q v v) A s.heap u H locs → lv_has ls 4 [(0, .ref (q 900)), (1, .int x1), (2, .int x2), (3, .int x3)] → W p l e (th_rm 0 0 0) s m args below meth c H locs 0 0 (MQ below (va_Qv K (th_Post (dC, dI) (wX cs ad q v v) A) A) args s 0 0 A) (F0 m 5 ls [])) (x1 : Int32) (x2 : Int32) (x3 : Int32) (u : xs_St) (H : Heap) (locs : List Loc) (ls : Array Slot) (hf : X_J_fill_53178_900_5 K k5 x1 x2 x3 u) (hw : th_wI (dC, dI) (wX cs ad q v v) A s.heap u H locs) (hl : lv_has ls 4 [(0, .ref (q 900)), (1, .int x1), (2, .int x2), (3, .int x3)]) : W p l e (th_rm 0 0 0) s m args below meth c H locs 0 0 (MQ below (va_Qv K (th_Post (dC, dI) (wX cs ad q v v) A) A) args s 0 0 A) (F0 m 5 ls []) := by
  have hx := C.1
  have hb := C.2.1
  unfold X_J_fill_53178_900_5 at hf
  refine lv_iload_n hx hb dJ7_fill_53178_5 rfl (lv_at hl 2 rfl) ?_
  refine lv_iload_n hx hb dJ7_fill_53178_6 rfl (lv_at hl 3 rfl) ?_
  refine lv_icmp_ge (tgt := 20) hx hb dJ7_fill_53178_7 (by decide) (fun hc => ?_) (fun hc => ?_)
  · replace hf := hf.1 hc
    clear hc
    exact th_vret C hw hf dJ7_fill_53178_20
  · replace hf := hf.2 hc
    clear hc
    refine lv_aload_n hx hb dJ7_fill_53178_10 rfl (lv_at hl 0 rfl) ?_
    refine lv_iload_n hx hb dJ7_fill_53178_11 rfl (lv_at hl 2 rfl) ?_
    refine lv_iload_n hx hb dJ7_fill_53178_12 rfl (lv_at hl 1 rfl) ?_
    refine ys_900 C hw hf.1 dJ7_fill_53178_13 (fun u_1 e9 H locs hw => ?_)
    replace hf := hf.2 u_1 e9
    clear e9
    obtain ⟨x2_2, e9⟩ : ∃ y : Int32, y = x2 + (1 : Int32) := ⟨_, rfl⟩
    replace hf := hf x2_2 e9
    refine lv_iinc (v := x2_2) (lv' := [(2, .int x2_2), (0, .ref (q 900)), (1, .int x1), (3, .int x3)]) hx hb dJ7_fill_53178_14 hl (k := 2) rfl (by rw [e9]; rfl) (by decide) rfl (fun ls hl => ?_)
    clear e9
    refine lv_goto (tgt := 5) hx hb dJ7_fill_53178_17 (by decide) ?_
    exact hk5 x1 x2_2 x3 u_1 _ _ _ hf hw (lv_sub hl [1, 2, 0, 3] rfl)
def X_J_fill_53178_900_5_lp (K : xs_St → Prop) : Nat → Int32 → Int32 → Int32 → xs_St → Prop
  | 0, _, _, _, _ => False
  | n + 1, x1, x2, x3, u => X_J_fill_53178_900_5 K (X_J_fill_53178_900_5_lp K n) x1 x2 x3 u
set_option maxHeartbeats 4000000 in
set_option maxRecDepth 100000 in
theorem X_J_fill_53178_900_5_lw {K : xs_St → Prop} (C : th_Cx p s m args meth c cJ7_fill_53178 RJ7 4 (none) (dC, dI) (th_ty cs) (xE ad ak) A) (n : Nat) : ∀ (x1 : Int32) (x2 : Int32) (x3 : Int32) (u : xs_St) (H : Heap) (locs : List Loc) (ls : Array Slot), X_J_fill_53178_900_5_lp K n x1 x2 x3 u → th_wI (dC, dI) (wX cs ad q v v) A s.heap u H locs → lv_has ls 4 [(0, .ref (q 900)), (1, .int x1), (2, .int x2), (3, .int x3)] → W p l e (th_rm 0 0 0) s m args below meth c H locs 0 0 (MQ below (va_Qv K (th_Post (dC, dI) (wX cs ad q v v) A) A) args s 0 0 A) (F0 m 5 ls []) := by
  induction n with
  | zero => intro x1 x2 x3 u H locs ls hf; exact hf.elim
  | succ n ih =>
    intro x1 x2 x3 u H locs ls hf hw hl
    exact X_J_fill_53178_900_5_w C ih x1 x2 x3 u H locs ls hf hw hl
def X_J_fill_53178_900 (a2 : Int32) (u : xs_St) (K : xs_St → Prop) : Prop :=
  ∃ n, X_J_fill_53178_900_5_lp K n a2 (0 : Int32) (48 : Int32) u
set_option maxHeartbeats 4000000 in
set_option maxRecDepth 100000 in
theorem X_J_fill_53178_900_c {l : Launch} {dC : Nat → ClassId} {dI : Nat → Nat → Nat} {cs : Nat → ClassId} {ad ak : Nat → Nat} {q v : Nat → Nat} {a2 : Int32} {u : xs_St} {K : xs_St → Prop} (hf : X_J_fill_53178_900 a2 u K) : th_Cv l yJ7_fill_53178 cJ7_fill_53178 4 (none) 0 0 0 (dC, dI) (th_ty cs) (xE ad ak) (wX cs ad q v v) [.ref (q 900), .int a2] u K := by
  refine th_ofv (by decide) (Nat.le_of_ble_eq_true rfl) (xE_ok ad ak) ?_
  intro p e s m below meth c A ls C hw hl
  have C : th_Cx p s m _ meth c cJ7_fill_53178 RJ7 4 (none) (dC, dI) (th_ty cs) (xE ad ak) A := C
  have hl : lv_has ls 4 [(0, .ref (q 900)), (1, .int a2)] := hl
  generalize (List.toArray _ : Array Value) = args at C ⊢
  have hx := C.1
  have hb := C.2.1
  unfold X_J_fill_53178_900 at hf
  refine lv_iconst (v := (0 : Int32)) hx hb dJ7_fill_53178_0 (by decide) ?_
  refine lv_istore_n (lv' := [(2, .int (0 : Int32)), (0, .ref (q 900)), (1, .int a2)]) hx hb dJ7_fill_53178_1 rfl hl (by decide) rfl (fun ls hl => ?_)
  refine lv_aload_n hx hb dJ7_fill_53178_2 rfl (lv_at hl 1 rfl) ?_
  refine yn_900 C hw dJ7_fill_53178_3 ?_
  refine lv_istore_n (lv' := [(3, .int (48 : Int32)), (2, .int (0 : Int32)), (0, .ref (q 900)), (1, .int a2)]) hx hb dJ7_fill_53178_4 rfl hl (by decide) rfl (fun ls hl => ?_)
  obtain ⟨n, hf⟩ := hf
  exact X_J_fill_53178_900_5_lw C n a2 (0 : Int32) (48 : Int32) u _ _ _ hf hw (lv_sub hl [2, 3, 1, 0] rfl)
/-! X_J_fill_d0a16_10 -/
theorem dJ7_fill_d0a16_0 : decode cJ7_fill_d0a16 0 = .ok (.iconst 0, 1) := by decide +kernel
theorem dJ7_fill_d0a16_1 : decode cJ7_fill_d0a16 1 = .ok (.istore_n 3, 1) := by decide +kernel
theorem dJ7_fill_d0a16_2 : decode cJ7_fill_d0a16 2 = .ok (.aload_n 0, 1) := by decide +kernel
theorem dJ7_fill_d0a16_3 : decode cJ7_fill_d0a16 3 = .ok (.arraylength, 1) := by decide +kernel
theorem dJ7_fill_d0a16_4 : decode cJ7_fill_d0a16 4 = .ok (.istore 4, 2) := by decide +kernel
theorem dJ7_fill_d0a16_6 : decode cJ7_fill_d0a16 6 = .ok (.iload_n 3, 1) := by decide +kernel
theorem dJ7_fill_d0a16_7 : decode cJ7_fill_d0a16 7 = .ok (.iload 4, 2) := by decide +kernel
theorem dJ7_fill_d0a16_9 : decode cJ7_fill_d0a16 9 = .ok (.if_icmp .ge 13, 3) := by decide +kernel
theorem dJ7_fill_d0a16_12 : decode cJ7_fill_d0a16 12 = .ok (.aload_n 0, 1) := by decide +kernel
theorem dJ7_fill_d0a16_13 : decode cJ7_fill_d0a16 13 = .ok (.iload_n 3, 1) := by decide +kernel
theorem dJ7_fill_d0a16_14 : decode cJ7_fill_d0a16 14 = .ok (.lload_n 1, 1) := by decide +kernel
theorem dJ7_fill_d0a16_15 : decode cJ7_fill_d0a16 15 = .ok (.lastore, 1) := by decide +kernel
theorem dJ7_fill_d0a16_16 : decode cJ7_fill_d0a16 16 = .ok (.iinc 3 1, 3) := by decide +kernel
theorem dJ7_fill_d0a16_19 : decode cJ7_fill_d0a16 19 = .ok (.goto (-13), 3) := by decide +kernel
theorem dJ7_fill_d0a16_22 : decode cJ7_fill_d0a16 22 = .ok (.return_, 1) := by decide +kernel
def X_J_fill_d0a16_10_6 (K : xs_St → Prop) (k6 : Int64 → Int32 → Int32 → xs_St → Prop) (x1 : Int64) (x3 : Int32) (x4 : Int32) (u : xs_St) : Prop :=
  ((x4 ≤ x3 → K u) ∧ (¬ x4 ≤ x3 → (vp_in x3 217 ∧ ∀ u_1 : xs_St, u_1 = xs_sl u 10 (vp_updL (xl u 10) (x3).toNatClampNeg x1) → ∀ x3_2 : Int32, x3_2 = x3 + (1 : Int32) → k6 x1 x3_2 x4 u_1)))
set_option maxHeartbeats 4000000 in
set_option maxRecDepth 100000 in
theorem X_J_fill_d0a16_10_6_w {K : xs_St → Prop} {k6 : Int64 → Int32 → Int32 → xs_St → Prop} (C : th_Cx p s m args meth c cJ7_fill_d0a16 RJ7 5 (none) (dC, dI) (th_ty cs) (xE ad ak) A) (hk6 : ∀ (x1 : Int64) (x3 : Int32) (x4 : Int32) (u : xs_St) (H : Heap) (locs : List Loc) (ls : Array Slot), k6 x1 x3 x4 u → th_wI (dC, dI) (wX cs ad q v v) A s.heap u H locs → lv_has ls 5 [(0, .ref (v 10)), (1, .long x1), (3, .int x3), (4, .int x4)] → W p l e (th_rm 0 0 0) s m args below meth c H locs 0 0 (MQ below (va_Qv K (th_Post (dC, dI) (wX cs ad q v v) A) A) args s 0 0 A) (F0 m 6 ls [])) (x1 : Int64) (x3 : Int32) (x4 : Int32) (u : xs_St) (H : Heap) (locs : List Loc) (ls : Array Slot) (hf : X_J_fill_d0a16_10_6 K k6 x1 x3 x4 u) (hw : th_wI (dC, dI) (wX cs ad q v v) A s.heap u H locs) (hl : lv_has ls 5 [(0, .ref (v 10)), (1, .long x1), (3, .int x3), (4, .int x4)]) : W p l e (th_rm 0 0 0) s m args below meth c H locs 0 0 (MQ below (va_Qv K (th_Post (dC, dI) (wX cs ad q v v) A) A) args s 0 0 A) (F0 m 6 ls []) := by
  have hx := C.1
  have hb := C.2.1
  unfold X_J_fill_d0a16_10_6 at hf
  refine lv_iload_n hx hb dJ7_fill_d0a16_6 rfl (lv_at hl 2 rfl) ?_
  refine lv_iload hx hb dJ7_fill_d0a16_7 (lv_at hl 3 rfl) ?_
  refine lv_icmp_ge (tgt := 22) hx hb dJ7_fill_d0a16_9 (by decide) (fun hc => ?_) (fun hc => ?_)
  · replace hf := hf.1 hc
    clear hc
    exact th_vret C hw hf dJ7_fill_d0a16_22
  · replace hf := hf.2 hc
    clear hc
    refine lv_aload_n hx hb dJ7_fill_d0a16_12 rfl (lv_at hl 0 rfl) ?_
    refine lv_iload_n hx hb dJ7_fill_d0a16_13 rfl (lv_at hl 2 rfl) ?_
    refine lv_lload_n hx hb dJ7_fill_d0a16_14 rfl (lv_at hl 1 rfl) ?_
    refine ys_10 C hw hf.1 dJ7_fill_d0a16_15 (fun u_1 e9 H locs hw => ?_)
    replace hf := hf.2 u_1 e9
    clear e9
    obtain ⟨x3_2, e9⟩ : ∃ y : Int32, y = x3 + (1 : Int32) := ⟨_, rfl⟩
    replace hf := hf x3_2 e9
    refine lv_iinc (v := x3_2) (lv' := [(3, .int x3_2), (0, .ref (v 10)), (1, .long x1), (4, .int x4)]) hx hb dJ7_fill_d0a16_16 hl (k := 2) rfl (by rw [e9]; rfl) (by decide) rfl (fun ls hl => ?_)
    clear e9
    refine lv_goto (tgt := 6) hx hb dJ7_fill_d0a16_19 (by decide) ?_
    exact hk6 x1 x3_2 x4 u_1 _ _ _ hf hw (lv_sub hl [1, 2, 0, 3] rfl)
def X_J_fill_d0a16_10_6_lp (K : xs_St → Prop) : Nat → Int64 → Int32 → Int32 → xs_St → Prop
  | 0, _, _, _, _ => False
  | n + 1, x1, x3, x4, u => X_J_fill_d0a16_10_6 K (X_J_fill_d0a16_10_6_lp K n) x1 x3 x4 u
set_option maxHeartbeats 4000000 in
set_option maxRecDepth 100000 in
theorem X_J_fill_d0a16_10_6_lw {K : xs_St → Prop} (C : th_Cx p s m args meth c cJ7_fill_d0a16 RJ7 5 (none) (dC, dI) (th_ty cs) (xE ad ak) A) (n : Nat) : ∀ (x1 : Int64) (x3 : Int32) (x4 : Int32) (u : xs_St) (H : Heap) (locs : List Loc) (ls : Array Slot), X_J_fill_d0a16_10_6_lp K n x1 x3 x4 u → th_wI (dC, dI) (wX cs ad q v v) A s.heap u H locs → lv_has ls 5 [(0, .ref (v 10)), (1, .long x1), (3, .int x3), (4, .int x4)] → W p l e (th_rm 0 0 0) s m args below meth c H locs 0 0 (MQ below (va_Qv K (th_Post (dC, dI) (wX cs ad q v v) A) A) args s 0 0 A) (F0 m 6 ls []) := by
  induction n with
  | zero => intro x1 x3 x4 u H locs ls hf; exact hf.elim
  | succ n ih =>
    intro x1 x3 x4 u H locs ls hf hw hl
    exact X_J_fill_d0a16_10_6_w C ih x1 x3 x4 u H locs ls hf hw hl
def X_J_fill_d0a16_10 (a2 : Int64) (u : xs_St) (K : xs_St → Prop) : Prop :=
  ∃ n, X_J_fill_d0a16_10_6_lp K n a2 (0 : Int32) (217 : Int32) u
set_option maxHeartbeats 4000000 in
set_option maxRecDepth 100000 in
theorem X_J_fill_d0a16_10_c {l : Launch} {dC : Nat → ClassId} {dI : Nat → Nat → Nat} {cs : Nat → ClassId} {ad ak : Nat → Nat} {q v : Nat → Nat} {a2 : Int64} {u : xs_St} {K : xs_St → Prop} (hf : X_J_fill_d0a16_10 a2 u K) : th_Cv l yJ7_fill_d0a16 cJ7_fill_d0a16 5 (none) 0 0 0 (dC, dI) (th_ty cs) (xE ad ak) (wX cs ad q v v) [.ref (v 10), .long a2] u K := by
  refine th_ofv (by decide) (Nat.le_of_ble_eq_true rfl) (xE_ok ad ak) ?_
  intro p e s m below meth c A ls C hw hl
  have C : th_Cx p s m _ meth c cJ7_fill_d0a16 RJ7 5 (none) (dC, dI) (th_ty cs) (xE ad ak) A := C
  have hl : lv_has ls 5 [(0, .ref (v 10)), (1, .long a2)] := hl
  generalize (List.toArray _ : Array Value) = args at C ⊢
  have hx := C.1
  have hb := C.2.1
  unfold X_J_fill_d0a16_10 at hf
  refine lv_iconst (v := (0 : Int32)) hx hb dJ7_fill_d0a16_0 (by decide) ?_
  refine lv_istore_n (lv' := [(3, .int (0 : Int32)), (0, .ref (v 10)), (1, .long a2)]) hx hb dJ7_fill_d0a16_1 rfl hl (by decide) rfl (fun ls hl => ?_)
  refine lv_aload_n hx hb dJ7_fill_d0a16_2 rfl (lv_at hl 1 rfl) ?_
  refine yn_10 C hw dJ7_fill_d0a16_3 ?_
  refine lv_istore (lv' := [(4, .int (217 : Int32)), (3, .int (0 : Int32)), (0, .ref (v 10)), (1, .long a2)]) hx hb dJ7_fill_d0a16_4 hl (by decide) rfl (fun ls hl => ?_)
  obtain ⟨n, hf⟩ := hf
  exact X_J_fill_d0a16_10_6_lw C n a2 (0 : Int32) (217 : Int32) u _ _ _ hf hw (lv_sub hl [2, 3, 1, 0] rfl)
/-! X_J_fill_d0a16_603 -/
def X_J_fill_d0a16_603_6 (K : xs_St → Prop) (k6 : Int64 → Int32 → Int32 → xs_St → Prop) (x1 : Int64) (x3 : Int32) (x4 : Int32) (u : xs_St) : Prop :=
  ((x4 ≤ x3 → K u) ∧ (¬ x4 ≤ x3 → (vp_in x3 961 ∧ ∀ u_1 : xs_St, u_1 = xs_sl u 603 (vp_updL (xl u 603) (x3).toNatClampNeg x1) → ∀ x3_2 : Int32, x3_2 = x3 + (1 : Int32) → k6 x1 x3_2 x4 u_1)))
set_option maxHeartbeats 4000000 in
set_option maxRecDepth 100000 in
theorem X_J_fill_d0a16_603_6_w {K : xs_St → Prop} {k6 : Int64 → Int32 → Int32 → xs_St → Prop} (C : th_Cx p s m args meth c cJ7_fill_d0a16 RJ7 5 (none) (dC, dI) (th_ty cs) (xE ad ak) A) (hk6 : ∀ (x1 : Int64) (x3 : Int32) (x4 : Int32) (u : xs_St) (H : Heap) (locs : List Loc) (ls : Array Slot), k6 x1 x3 x4 u → th_wI (dC, dI) (wX cs ad q v v) A s.heap u H locs → lv_has ls 5 [(0, .ref (v 603)), (1, .long x1), (3, .int x3), (4, .int x4)] → W p l e (th_rm 0 0 0) s m args below meth c H locs 0 0 (MQ below (va_Qv K (th_Post (dC, dI) (wX cs ad q v v) A) A) args s 0 0 A) (F0 m 6 ls [])) (x1 : Int64) (x3 : Int32) (x4 : Int32) (u : xs_St) (H : Heap) (locs : List Loc) (ls : Array Slot) (hf : X_J_fill_d0a16_603_6 K k6 x1 x3 x4 u) (hw : th_wI (dC, dI) (wX cs ad q v v) A s.heap u H locs) (hl : lv_has ls 5 [(0, .ref (v 603)), (1, .long x1), (3, .int x3), (4, .int x4)]) : W p l e (th_rm 0 0 0) s m args below meth c H locs 0 0 (MQ below (va_Qv K (th_Post (dC, dI) (wX cs ad q v v) A) A) args s 0 0 A) (F0 m 6 ls []) := by
  have hx := C.1
  have hb := C.2.1
  unfold X_J_fill_d0a16_603_6 at hf
  refine lv_iload_n hx hb dJ7_fill_d0a16_6 rfl (lv_at hl 2 rfl) ?_
  refine lv_iload hx hb dJ7_fill_d0a16_7 (lv_at hl 3 rfl) ?_
  refine lv_icmp_ge (tgt := 22) hx hb dJ7_fill_d0a16_9 (by decide) (fun hc => ?_) (fun hc => ?_)
  · replace hf := hf.1 hc
    clear hc
    exact th_vret C hw hf dJ7_fill_d0a16_22
  · replace hf := hf.2 hc
    clear hc
    refine lv_aload_n hx hb dJ7_fill_d0a16_12 rfl (lv_at hl 0 rfl) ?_
    refine lv_iload_n hx hb dJ7_fill_d0a16_13 rfl (lv_at hl 2 rfl) ?_
    refine lv_lload_n hx hb dJ7_fill_d0a16_14 rfl (lv_at hl 1 rfl) ?_
    refine ys_603 C hw hf.1 dJ7_fill_d0a16_15 (fun u_1 e9 H locs hw => ?_)
    replace hf := hf.2 u_1 e9
    clear e9
    obtain ⟨x3_2, e9⟩ : ∃ y : Int32, y = x3 + (1 : Int32) := ⟨_, rfl⟩
    replace hf := hf x3_2 e9
    refine lv_iinc (v := x3_2) (lv' := [(3, .int x3_2), (0, .ref (v 603)), (1, .long x1), (4, .int x4)]) hx hb dJ7_fill_d0a16_16 hl (k := 2) rfl (by rw [e9]; rfl) (by decide) rfl (fun ls hl => ?_)
    clear e9
    refine lv_goto (tgt := 6) hx hb dJ7_fill_d0a16_19 (by decide) ?_
    exact hk6 x1 x3_2 x4 u_1 _ _ _ hf hw (lv_sub hl [1, 2, 0, 3] rfl)
def X_J_fill_d0a16_603_6_lp (K : xs_St → Prop) : Nat → Int64 → Int32 → Int32 → xs_St → Prop
  | 0, _, _, _, _ => False
  | n + 1, x1, x3, x4, u => X_J_fill_d0a16_603_6 K (X_J_fill_d0a16_603_6_lp K n) x1 x3 x4 u
set_option maxHeartbeats 4000000 in
set_option maxRecDepth 100000 in
theorem X_J_fill_d0a16_603_6_lw {K : xs_St → Prop} (C : th_Cx p s m args meth c cJ7_fill_d0a16 RJ7 5 (none) (dC, dI) (th_ty cs) (xE ad ak) A) (n : Nat) : ∀ (x1 : Int64) (x3 : Int32) (x4 : Int32) (u : xs_St) (H : Heap) (locs : List Loc) (ls : Array Slot), X_J_fill_d0a16_603_6_lp K n x1 x3 x4 u → th_wI (dC, dI) (wX cs ad q v v) A s.heap u H locs → lv_has ls 5 [(0, .ref (v 603)), (1, .long x1), (3, .int x3), (4, .int x4)] → W p l e (th_rm 0 0 0) s m args below meth c H locs 0 0 (MQ below (va_Qv K (th_Post (dC, dI) (wX cs ad q v v) A) A) args s 0 0 A) (F0 m 6 ls []) := by
  induction n with
  | zero => intro x1 x3 x4 u H locs ls hf; exact hf.elim
  | succ n ih =>
    intro x1 x3 x4 u H locs ls hf hw hl
    exact X_J_fill_d0a16_603_6_w C ih x1 x3 x4 u H locs ls hf hw hl
def X_J_fill_d0a16_603 (a2 : Int64) (u : xs_St) (K : xs_St → Prop) : Prop :=
  ∃ n, X_J_fill_d0a16_603_6_lp K n a2 (0 : Int32) (961 : Int32) u
set_option maxHeartbeats 4000000 in
set_option maxRecDepth 100000 in
theorem X_J_fill_d0a16_603_c {l : Launch} {dC : Nat → ClassId} {dI : Nat → Nat → Nat} {cs : Nat → ClassId} {ad ak : Nat → Nat} {q v : Nat → Nat} {a2 : Int64} {u : xs_St} {K : xs_St → Prop} (hf : X_J_fill_d0a16_603 a2 u K) : th_Cv l yJ7_fill_d0a16 cJ7_fill_d0a16 5 (none) 0 0 0 (dC, dI) (th_ty cs) (xE ad ak) (wX cs ad q v v) [.ref (v 603), .long a2] u K := by
  refine th_ofv (by decide) (Nat.le_of_ble_eq_true rfl) (xE_ok ad ak) ?_
  intro p e s m below meth c A ls C hw hl
  have C : th_Cx p s m _ meth c cJ7_fill_d0a16 RJ7 5 (none) (dC, dI) (th_ty cs) (xE ad ak) A := C
  have hl : lv_has ls 5 [(0, .ref (v 603)), (1, .long a2)] := hl
  generalize (List.toArray _ : Array Value) = args at C ⊢
  have hx := C.1
  have hb := C.2.1
  unfold X_J_fill_d0a16_603 at hf
  refine lv_iconst (v := (0 : Int32)) hx hb dJ7_fill_d0a16_0 (by decide) ?_
  refine lv_istore_n (lv' := [(3, .int (0 : Int32)), (0, .ref (v 603)), (1, .long a2)]) hx hb dJ7_fill_d0a16_1 rfl hl (by decide) rfl (fun ls hl => ?_)
  refine lv_aload_n hx hb dJ7_fill_d0a16_2 rfl (lv_at hl 1 rfl) ?_
  refine yn_603 C hw dJ7_fill_d0a16_3 ?_
  refine lv_istore (lv' := [(4, .int (961 : Int32)), (3, .int (0 : Int32)), (0, .ref (v 603)), (1, .long a2)]) hx hb dJ7_fill_d0a16_4 hl (by decide) rfl (fun ls hl => ?_)
  obtain ⟨n, hf⟩ := hf
  exact X_J_fill_d0a16_603_6_lw C n a2 (0 : Int32) (961 : Int32) u _ _ _ hf hw (lv_sub hl [2, 3, 1, 0] rfl)
/-! X_LN_areRows -/
theorem dX3_areRows_0 : decode cX3_areRows 0 = .ok (.iload_n 2, 1) := by decide +kernel
theorem dX3_areRows_1 : decode cX3_areRows 1 = .ok (.ifCond .lt 26, 3) := by decide +kernel
theorem dX3_areRows_4 : decode cX3_areRows 4 = .ok (.iload_n 2, 1) := by decide +kernel
theorem dX3_areRows_5 : decode cX3_areRows 5 = .ok (.bipush 48, 2) := by decide +kernel
theorem dX3_areRows_7 : decode cX3_areRows 7 = .ok (.if_icmp .gt 20, 3) := by decide +kernel
theorem dX3_areRows_10 : decode cX3_areRows 10 = .ok (.iload_n 2, 1) := by decide +kernel
theorem dX3_areRows_11 : decode cX3_areRows 11 = .ok (.iload_n 1, 1) := by decide +kernel
theorem dX3_areRows_12 : decode cX3_areRows 12 = .ok (.if_icmp .gt 15, 3) := by decide +kernel
theorem dX3_areRows_15 : decode cX3_areRows 15 = .ok (.iload_n 1, 1) := by decide +kernel
theorem dX3_areRows_16 : decode cX3_areRows 16 = .ok (.iload_n 2, 1) := by decide +kernel
theorem dX3_areRows_17 : decode cX3_areRows 17 = .ok (.isub, 1) := by decide +kernel
theorem dX3_areRows_18 : decode cX3_areRows 18 = .ok (.bipush 48, 2) := by decide +kernel
theorem dX3_areRows_20 : decode cX3_areRows 20 = .ok (.if_icmp .gt 7, 3) := by decide +kernel
theorem dX3_areRows_23 : decode cX3_areRows 23 = .ok (.iconst 1, 1) := by decide +kernel
theorem dX3_areRows_24 : decode cX3_areRows 24 = .ok (.goto 4, 3) := by decide +kernel
theorem dX3_areRows_27 : decode cX3_areRows 27 = .ok (.iconst 0, 1) := by decide +kernel
theorem dX3_areRows_28 : decode cX3_areRows 28 = .ok (.ireturn, 1) := by decide +kernel
def X_LN_areRows_28 (K : Int32 → xs_St → Prop) (z0 : Int32) (u : xs_St) : Prop :=
  ((z0 = 0 ∨ z0 = 1) ∧ K z0 u)
set_option maxHeartbeats 4000000 in
set_option maxRecDepth 100000 in
theorem X_LN_areRows_28_w {K : Int32 → xs_St → Prop} (C : th_Cx p s m args meth c cX3_areRows RX3 3 (some .boolean) (dC, dI) (th_ty cs) (xE ad ak) A) (z0 : Int32) (u : xs_St) (H : Heap) (locs : List Loc) (ls : Array Slot) (hf : X_LN_areRows_28 K z0 u) (hw : th_wI (dC, dI) (wX cs ad q v v) A s.heap u H locs) (hl : lv_has ls 3 []) : W p l e (th_rm 0 0 0) s m args below meth c H locs 0 0 (MQ below (va_Qi K (th_Post (dC, dI) (wX cs ad q v v) A) A) args s 0 0 A) (F0 m 28 ls [.int z0]) := by
  have hx := C.1
  have hb := C.2.1
  unfold X_LN_areRows_28 at hf
  exact th_zret C hw hf dX3_areRows_28
def X_LN_areRows_27 (K : Int32 → xs_St → Prop) (u : xs_St) : Prop :=
  X_LN_areRows_28 K (0 : Int32) u
set_option maxHeartbeats 4000000 in
set_option maxRecDepth 100000 in
theorem X_LN_areRows_27_w {K : Int32 → xs_St → Prop} (C : th_Cx p s m args meth c cX3_areRows RX3 3 (some .boolean) (dC, dI) (th_ty cs) (xE ad ak) A) (u : xs_St) (H : Heap) (locs : List Loc) (ls : Array Slot) (hf : X_LN_areRows_27 K u) (hw : th_wI (dC, dI) (wX cs ad q v v) A s.heap u H locs) (hl : lv_has ls 3 []) : W p l e (th_rm 0 0 0) s m args below meth c H locs 0 0 (MQ below (va_Qi K (th_Post (dC, dI) (wX cs ad q v v) A) A) args s 0 0 A) (F0 m 27 ls []) := by
  have hx := C.1
  have hb := C.2.1
  unfold X_LN_areRows_27 at hf
  refine lv_iconst (v := (0 : Int32)) hx hb dX3_areRows_27 (by decide) ?_
  exact X_LN_areRows_28_w C (0 : Int32) u _ _ _ hf hw (lv_sub hl [] rfl)
def X_LN_areRows (a1 : Int32) (a2 : Int32) (u : xs_St) (K : Int32 → xs_St → Prop) : Prop :=
  ((a2 < 0 → X_LN_areRows_27 K u) ∧ (¬ a2 < 0 → (((48 : Int32) < a2 → X_LN_areRows_27 K u) ∧ (¬ (48 : Int32) < a2 → ((a1 < a2 → X_LN_areRows_27 K u) ∧ (¬ a1 < a2 → (((48 : Int32) < (a1 - a2) → X_LN_areRows_27 K u) ∧ (¬ (48 : Int32) < (a1 - a2) → X_LN_areRows_28 K (1 : Int32) u))))))))
set_option maxHeartbeats 4000000 in
set_option maxRecDepth 100000 in
theorem X_LN_areRows_c {l : Launch} {dC : Nat → ClassId} {dI : Nat → Nat → Nat} {cs : Nat → ClassId} {ad ak : Nat → Nat} {q v : Nat → Nat} {a1 : Int32} {a2 : Int32} {u : xs_St} {K : Int32 → xs_St → Prop} (hf : X_LN_areRows a1 a2 u K) : th_Ci l yX3_areRows cX3_areRows 3 (some .boolean) 0 0 0 (dC, dI) (th_ty cs) (xE ad ak) (wX cs ad q v v) [.ref (q 999), .int a1, .int a2] u K := by
  refine th_ofi (by decide) (Nat.le_of_ble_eq_true rfl) (xE_ok ad ak) ?_
  intro p e s m below meth c A ls C hw hl
  have C : th_Cx p s m _ meth c cX3_areRows RX3 3 (some .boolean) (dC, dI) (th_ty cs) (xE ad ak) A := C
  have hl : lv_has ls 3 [(0, .ref (q 999)), (1, .int a1), (2, .int a2)] := hl
  generalize (List.toArray _ : Array Value) = args at C ⊢
  have hx := C.1
  have hb := C.2.1
  unfold X_LN_areRows at hf
  refine lv_iload_n hx hb dX3_areRows_0 rfl (lv_at hl 2 rfl) ?_
  refine lv_if_lt (tgt := 27) hx hb dX3_areRows_1 (by decide) (fun hc => ?_) (fun hc => ?_)
  · replace hf := hf.1 hc
    clear hc
    exact X_LN_areRows_27_w C  u _ _ _ hf hw (lv_sub hl [] rfl)
  · replace hf := hf.2 hc
    clear hc
    refine lv_iload_n hx hb dX3_areRows_4 rfl (lv_at hl 2 rfl) ?_
    refine lv_bipush (v := (48 : Int32)) hx hb dX3_areRows_5 (by decide) ?_
    refine lv_icmp_gt (tgt := 27) hx hb dX3_areRows_7 (by decide) (fun hc => ?_) (fun hc => ?_)
    · replace hf := hf.1 hc
      clear hc
      exact X_LN_areRows_27_w C  u _ _ _ hf hw (lv_sub hl [] rfl)
    · replace hf := hf.2 hc
      clear hc
      refine lv_iload_n hx hb dX3_areRows_10 rfl (lv_at hl 2 rfl) ?_
      refine lv_iload_n hx hb dX3_areRows_11 rfl (lv_at hl 1 rfl) ?_
      refine lv_icmp_gt (tgt := 27) hx hb dX3_areRows_12 (by decide) (fun hc => ?_) (fun hc => ?_)
      · replace hf := hf.1 hc
        clear hc
        exact X_LN_areRows_27_w C  u _ _ _ hf hw (lv_sub hl [] rfl)
      · replace hf := hf.2 hc
        clear hc
        refine lv_iload_n hx hb dX3_areRows_15 rfl (lv_at hl 1 rfl) ?_
        refine lv_iload_n hx hb dX3_areRows_16 rfl (lv_at hl 2 rfl) ?_
        refine lv_isub hx hb dX3_areRows_17 ?_
        refine lv_bipush (v := (48 : Int32)) hx hb dX3_areRows_18 (by decide) ?_
        refine lv_icmp_gt (tgt := 27) hx hb dX3_areRows_20 (by decide) (fun hc => ?_) (fun hc => ?_)
        · replace hf := hf.1 hc
          clear hc
          exact X_LN_areRows_27_w C  u _ _ _ hf hw (lv_sub hl [] rfl)
        · replace hf := hf.2 hc
          clear hc
          refine lv_iconst (v := (1 : Int32)) hx hb dX3_areRows_23 (by decide) ?_
          refine lv_goto (tgt := 28) hx hb dX3_areRows_24 (by decide) ?_
          exact X_LN_areRows_28_w C (1 : Int32) u _ _ _ hf hw (lv_sub hl [] rfl)
/-! X_RD_addToken -/
theorem dX4_addToken_0 : decode cX4_addToken 0 = .ok (.aload_n 0, 1) := by decide +kernel
theorem dX4_addToken_1 : decode cX4_addToken 1 = .ok (.getfield 24, 3) := by decide +kernel
theorem dX4_addToken_4 : decode cX4_addToken 4 = .ok (.sipush 400, 3) := by decide +kernel
theorem dX4_addToken_7 : decode cX4_addToken 7 = .ok (.if_icmp .gt 43, 3) := by decide +kernel
theorem dX4_addToken_10 : decode cX4_addToken 10 = .ok (.aload_n 0, 1) := by decide +kernel
theorem dX4_addToken_11 : decode cX4_addToken 11 = .ok (.getfield 13, 3) := by decide +kernel
theorem dX4_addToken_14 : decode cX4_addToken 14 = .ok (.aload_n 0, 1) := by decide +kernel
theorem dX4_addToken_15 : decode cX4_addToken 15 = .ok (.getfield 24, 3) := by decide +kernel
theorem dX4_addToken_18 : decode cX4_addToken 18 = .ok (.aload_n 1, 1) := by decide +kernel
theorem dX4_addToken_19 : decode cX4_addToken 19 = .ok (.aastore, 1) := by decide +kernel
theorem dX4_addToken_20 : decode cX4_addToken 20 = .ok (.aload_n 0, 1) := by decide +kernel
theorem dX4_addToken_21 : decode cX4_addToken 21 = .ok (.getfield 17, 3) := by decide +kernel
theorem dX4_addToken_24 : decode cX4_addToken 24 = .ok (.aload_n 0, 1) := by decide +kernel
theorem dX4_addToken_25 : decode cX4_addToken 25 = .ok (.getfield 24, 3) := by decide +kernel
theorem dX4_addToken_28 : decode cX4_addToken 28 = .ok (.iload_n 2, 1) := by decide +kernel
theorem dX4_addToken_29 : decode cX4_addToken 29 = .ok (.iastore, 1) := by decide +kernel
theorem dX4_addToken_30 : decode cX4_addToken 30 = .ok (.aload_n 0, 1) := by decide +kernel
theorem dX4_addToken_31 : decode cX4_addToken 31 = .ok (.getfield 21, 3) := by decide +kernel
theorem dX4_addToken_34 : decode cX4_addToken 34 = .ok (.aload_n 0, 1) := by decide +kernel
theorem dX4_addToken_35 : decode cX4_addToken 35 = .ok (.getfield 24, 3) := by decide +kernel
theorem dX4_addToken_38 : decode cX4_addToken 38 = .ok (.iload_n 3, 1) := by decide +kernel
theorem dX4_addToken_39 : decode cX4_addToken 39 = .ok (.iastore, 1) := by decide +kernel
theorem dX4_addToken_40 : decode cX4_addToken 40 = .ok (.aload_n 0, 1) := by decide +kernel
theorem dX4_addToken_41 : decode cX4_addToken 41 = .ok (.dup, 1) := by decide +kernel
theorem dX4_addToken_42 : decode cX4_addToken 42 = .ok (.getfield 24, 3) := by decide +kernel
theorem dX4_addToken_45 : decode cX4_addToken 45 = .ok (.iconst 1, 1) := by decide +kernel
theorem dX4_addToken_46 : decode cX4_addToken 46 = .ok (.iadd, 1) := by decide +kernel
theorem dX4_addToken_47 : decode cX4_addToken 47 = .ok (.putfield 24, 3) := by decide +kernel
theorem dX4_addToken_50 : decode cX4_addToken 50 = .ok (.return_, 1) := by decide +kernel
def X_RD_addToken_50 (K : xs_St → Prop) (u : xs_St) : Prop :=
  K u
set_option maxHeartbeats 4000000 in
set_option maxRecDepth 100000 in
theorem X_RD_addToken_50_w {K : xs_St → Prop} (C : th_Cx p s m args meth c cX4_addToken RX4 4 (none) (dC, dI) (th_ty cs) (xE ad ak) A) (u : xs_St) (H : Heap) (locs : List Loc) (ls : Array Slot) (hf : X_RD_addToken_50 K u) (hw : th_wI (dC, dI) (wX cs ad q v v) A s.heap u H locs) (hl : lv_has ls 4 []) : W p l e (th_rm 0 0 0) s m args below meth c H locs 0 0 (MQ below (va_Qv K (th_Post (dC, dI) (wX cs ad q v v) A) A) args s 0 0 A) (F0 m 50 ls []) := by
  have hx := C.1
  have hb := C.2.1
  unfold X_RD_addToken_50 at hf
  exact th_vret C hw hf dX4_addToken_50
def X_RD_addToken (a1 : Option Nat) (a2 : Int32) (a3 : Int32) (u : xs_St) (K : xs_St → Prop) : Prop :=
  (((400 : Int32) < (xi u 203) → X_RD_addToken_50 K u) ∧ (¬ (400 : Int32) < (xi u 203) → (vp_in (xi u 203) 401 ∧ (∀ k9, a1 = some k9 → k9 < 27) ∧ ∀ u_1 : xs_St, u_1 = xs_so u 200 (va_up (xo u 200) ((xi u 203)).toNatClampNeg a1) → (vp_in (xi u_1 203) 401 ∧ ∀ u_2 : xs_St, u_2 = xs_sa u_1 201 (upd (xa u_1 201) ((xi u_1 203)).toNatClampNeg a2) → (vp_in (xi u_2 203) 401 ∧ ∀ u_3 : xs_St, u_3 = xs_sa u_2 202 (upd (xa u_2 202) ((xi u_2 203)).toNatClampNeg a3) → ∀ u_4 : xs_St, u_4 = xs_si u_3 203 ((xi u_3 203) + (1 : Int32)) → X_RD_addToken_50 K u_4)))))
set_option maxHeartbeats 4000000 in
set_option maxRecDepth 100000 in
theorem X_RD_addToken_c {l : Launch} {dC : Nat → ClassId} {dI : Nat → Nat → Nat} {cs : Nat → ClassId} {ad ak : Nat → Nat} {q v : Nat → Nat} {a1 : Option Nat} {a2 : Int32} {a3 : Int32} {u : xs_St} {K : xs_St → Prop} (hf : X_RD_addToken a1 a2 a3 u K) : th_Cv l yX4_addToken cX4_addToken 4 (none) 0 0 0 (dC, dI) (th_ty cs) (xE ad ak) (wX cs ad q v v) [.ref (q 299), va_re ad a1, .int a2, .int a3] u K := by
  refine th_ofv (by decide) (by cases a1 <;> exact Nat.le_of_ble_eq_true rfl) (xE_ok ad ak) ?_
  intro p e s m below meth c A ls C hw hl
  have C : th_Cx p s m _ meth c cX4_addToken RX4 4 (none) (dC, dI) (th_ty cs) (xE ad ak) A := C
  have hl : lv_has ls 4 [(0, .ref (q 299)), (1, va_re ad a1), (2, .int a2), (3, .int a3)] := by cases a1 <;> exact hl
  generalize (List.toArray _ : Array Value) = args at C ⊢
  have hx := C.1
  have hb := C.2.1
  unfold X_RD_addToken at hf
  refine lv_aload_n hx hb dX4_addToken_0 rfl (lv_at hl 0 rfl) ?_
  refine xg_203 C hw (C.2.2.2.2.1 _ hwF_X4_24) dX4_addToken_1 ?_
  refine lv_sipush (v := (400 : Int32)) hx hb dX4_addToken_4 (by decide) ?_
  refine lv_icmp_gt (tgt := 50) hx hb dX4_addToken_7 (by decide) (fun hc => ?_) (fun hc => ?_)
  · replace hf := hf.1 hc
    clear hc
    exact X_RD_addToken_50_w C  u _ _ _ hf hw (lv_sub hl [] rfl)
  · replace hf := hf.2 hc
    clear hc
    refine lv_aload_n hx hb dX4_addToken_10 rfl (lv_at hl 0 rfl) ?_
    refine xg_200 C hw (C.2.2.2.2.1 _ hwF_X4_13) dX4_addToken_11 ?_
    refine lv_aload_n hx hb dX4_addToken_14 rfl (lv_at hl 0 rfl) ?_
    refine xg_203 C hw (C.2.2.2.2.1 _ hwF_X4_24) dX4_addToken_15 ?_
    refine th_aload_n hx hb dX4_addToken_18 rfl (lv_at hl 1 rfl) ?_
    refine ys_200 C hw hf.1 hf.2.1 dX4_addToken_19 (fun u_1 e9 H locs hw => ?_)
    replace hf := hf.2.2 u_1 e9
    clear e9
    refine lv_aload_n hx hb dX4_addToken_20 rfl (lv_at hl 0 rfl) ?_
    refine xg_201 C hw (C.2.2.2.2.1 _ hwF_X4_17) dX4_addToken_21 ?_
    refine lv_aload_n hx hb dX4_addToken_24 rfl (lv_at hl 0 rfl) ?_
    refine xg_203 C hw (C.2.2.2.2.1 _ hwF_X4_24) dX4_addToken_25 ?_
    refine lv_iload_n hx hb dX4_addToken_28 rfl (lv_at hl 2 rfl) ?_
    refine ys_201 C hw hf.1 dX4_addToken_29 (fun u_2 e9 H locs hw => ?_)
    replace hf := hf.2 u_2 e9
    clear e9
    refine lv_aload_n hx hb dX4_addToken_30 rfl (lv_at hl 0 rfl) ?_
    refine xg_202 C hw (C.2.2.2.2.1 _ hwF_X4_21) dX4_addToken_31 ?_
    refine lv_aload_n hx hb dX4_addToken_34 rfl (lv_at hl 0 rfl) ?_
    refine xg_203 C hw (C.2.2.2.2.1 _ hwF_X4_24) dX4_addToken_35 ?_
    refine lv_iload_n hx hb dX4_addToken_38 rfl (lv_at hl 3 rfl) ?_
    refine ys_202 C hw hf.1 dX4_addToken_39 (fun u_3 e9 H locs hw => ?_)
    replace hf := hf.2 u_3 e9
    clear e9
    refine lv_aload_n hx hb dX4_addToken_40 rfl (lv_at hl 0 rfl) ?_
    refine lv_dup hx hb dX4_addToken_41 rfl ?_
    refine xg_203 C hw (C.2.2.2.2.1 _ hwF_X4_24) dX4_addToken_42 ?_
    refine lv_iconst (v := (1 : Int32)) hx hb dX4_addToken_45 (by decide) ?_
    refine lv_iadd hx hb dX4_addToken_46 ?_
    refine xp_203 C hw (C.2.2.2.2.1 _ hwF_X4_24) dX4_addToken_47 (fun u_4 e9 H locs hw => ?_)
    replace hf := hf u_4 e9
    clear e9
    exact X_RD_addToken_50_w C  u_4 _ _ _ hf hw (lv_sub hl [] rfl)
/-! X_RD_advance -/
theorem dX4_advance_0 : decode cX4_advance 0 = .ok (.aload_n 0, 1) := by decide +kernel
theorem dX4_advance_1 : decode cX4_advance 1 = .ok (.getfield 35, 3) := by decide +kernel
theorem dX4_advance_4 : decode cX4_advance 4 = .ok (.iconst 1, 1) := by decide +kernel
theorem dX4_advance_5 : decode cX4_advance 5 = .ok (.iadd, 1) := by decide +kernel
theorem dX4_advance_6 : decode cX4_advance 6 = .ok (.aload_n 0, 1) := by decide +kernel
theorem dX4_advance_7 : decode cX4_advance 7 = .ok (.getfield 24, 3) := by decide +kernel
theorem dX4_advance_10 : decode cX4_advance 10 = .ok (.if_icmp .ge 26, 3) := by decide +kernel
theorem dX4_advance_13 : decode cX4_advance 13 = .ok (.aload_n 0, 1) := by decide +kernel
theorem dX4_advance_14 : decode cX4_advance 14 = .ok (.dup, 1) := by decide +kernel
theorem dX4_advance_15 : decode cX4_advance 15 = .ok (.getfield 35, 3) := by decide +kernel
theorem dX4_advance_18 : decode cX4_advance 18 = .ok (.iconst 1, 1) := by decide +kernel
theorem dX4_advance_19 : decode cX4_advance 19 = .ok (.iadd, 1) := by decide +kernel
theorem dX4_advance_20 : decode cX4_advance 20 = .ok (.putfield 35, 3) := by decide +kernel
theorem dX4_advance_23 : decode cX4_advance 23 = .ok (.aload_n 0, 1) := by decide +kernel
theorem dX4_advance_24 : decode cX4_advance 24 = .ok (.aload_n 0, 1) := by decide +kernel
theorem dX4_advance_25 : decode cX4_advance 25 = .ok (.getfield 13, 3) := by decide +kernel
theorem dX4_advance_28 : decode cX4_advance 28 = .ok (.aload_n 0, 1) := by decide +kernel
theorem dX4_advance_29 : decode cX4_advance 29 = .ok (.getfield 35, 3) := by decide +kernel
theorem dX4_advance_32 : decode cX4_advance 32 = .ok (.aaload, 1) := by decide +kernel
theorem dX4_advance_33 : decode cX4_advance 33 = .ok (.putfield 42, 3) := by decide +kernel
theorem dX4_advance_36 : decode cX4_advance 36 = .ok (.return_, 1) := by decide +kernel
def X_RD_advance_36 (K : xs_St → Prop) (u : xs_St) : Prop :=
  K u
set_option maxHeartbeats 4000000 in
set_option maxRecDepth 100000 in
theorem X_RD_advance_36_w {K : xs_St → Prop} (C : th_Cx p s m args meth c cX4_advance RX4 1 (none) (dC, dI) (th_ty cs) (xE ad ak) A) (u : xs_St) (H : Heap) (locs : List Loc) (ls : Array Slot) (hf : X_RD_advance_36 K u) (hw : th_wI (dC, dI) (wX cs ad q v v) A s.heap u H locs) (hl : lv_has ls 1 []) : W p l e (th_rm 0 0 0) s m args below meth c H locs 0 0 (MQ below (va_Qv K (th_Post (dC, dI) (wX cs ad q v v) A) A) args s 0 0 A) (F0 m 36 ls []) := by
  have hx := C.1
  have hb := C.2.1
  unfold X_RD_advance_36 at hf
  exact th_vret C hw hf dX4_advance_36
def X_RD_advance (u : xs_St) (K : xs_St → Prop) : Prop :=
  (((xi u 203) ≤ ((xi u 205) + (1 : Int32)) → X_RD_advance_36 K u) ∧ (¬ (xi u 203) ≤ ((xi u 205) + (1 : Int32)) → ∀ u_1 : xs_St, u_1 = xs_si u 205 ((xi u 205) + (1 : Int32)) → (vp_in (xi u_1 205) 401 ∧ ∀ y_2 : Option Nat, y_2 = xo u_1 200 ((xi u_1 205)).toNatClampNeg → ∀ u_3 : xs_St, u_3 = xs_sr u_1 206 y_2 → X_RD_advance_36 K u_3)))
set_option maxHeartbeats 4000000 in
set_option maxRecDepth 100000 in
theorem X_RD_advance_c {l : Launch} {dC : Nat → ClassId} {dI : Nat → Nat → Nat} {cs : Nat → ClassId} {ad ak : Nat → Nat} {q v : Nat → Nat} {u : xs_St} {K : xs_St → Prop} (hf : X_RD_advance u K) : th_Cv l yX4_advance cX4_advance 1 (none) 0 0 0 (dC, dI) (th_ty cs) (xE ad ak) (wX cs ad q v v) [.ref (q 299)] u K := by
  refine th_ofv (by decide) (Nat.le_of_ble_eq_true rfl) (xE_ok ad ak) ?_
  intro p e s m below meth c A ls C hw hl
  have C : th_Cx p s m _ meth c cX4_advance RX4 1 (none) (dC, dI) (th_ty cs) (xE ad ak) A := C
  have hl : lv_has ls 1 [(0, .ref (q 299))] := hl
  generalize (List.toArray _ : Array Value) = args at C ⊢
  have hx := C.1
  have hb := C.2.1
  unfold X_RD_advance at hf
  refine lv_aload_n hx hb dX4_advance_0 rfl (lv_at hl 0 rfl) ?_
  refine xg_205 C hw (C.2.2.2.2.1 _ hwF_X4_35) dX4_advance_1 ?_
  refine lv_iconst (v := (1 : Int32)) hx hb dX4_advance_4 (by decide) ?_
  refine lv_iadd hx hb dX4_advance_5 ?_
  refine lv_aload_n hx hb dX4_advance_6 rfl (lv_at hl 0 rfl) ?_
  refine xg_203 C hw (C.2.2.2.2.1 _ hwF_X4_24) dX4_advance_7 ?_
  refine lv_icmp_ge (tgt := 36) hx hb dX4_advance_10 (by decide) (fun hc => ?_) (fun hc => ?_)
  · replace hf := hf.1 hc
    clear hc
    exact X_RD_advance_36_w C  u _ _ _ hf hw (lv_sub hl [] rfl)
  · replace hf := hf.2 hc
    clear hc
    refine lv_aload_n hx hb dX4_advance_13 rfl (lv_at hl 0 rfl) ?_
    refine lv_dup hx hb dX4_advance_14 rfl ?_
    refine xg_205 C hw (C.2.2.2.2.1 _ hwF_X4_35) dX4_advance_15 ?_
    refine lv_iconst (v := (1 : Int32)) hx hb dX4_advance_18 (by decide) ?_
    refine lv_iadd hx hb dX4_advance_19 ?_
    refine xp_205 C hw (C.2.2.2.2.1 _ hwF_X4_35) dX4_advance_20 (fun u_1 e9 H locs hw => ?_)
    replace hf := hf u_1 e9
    clear e9
    refine lv_aload_n hx hb dX4_advance_23 rfl (lv_at hl 0 rfl) ?_
    refine lv_aload_n hx hb dX4_advance_24 rfl (lv_at hl 0 rfl) ?_
    refine xg_200 C hw (C.2.2.2.2.1 _ hwF_X4_13) dX4_advance_25 ?_
    refine lv_aload_n hx hb dX4_advance_28 rfl (lv_at hl 0 rfl) ?_
    refine xg_205 C hw (C.2.2.2.2.1 _ hwF_X4_35) dX4_advance_29 ?_
    refine yl_200 C hw hf.1 dX4_advance_32 (fun y_2 e9 => ?_)
    replace hf := hf.2 y_2 e9
    clear e9
    refine xp_206 C hw (C.2.2.2.2.1 _ hwF_X4_42) dX4_advance_33 (fun u_3 e9 H locs hw => ?_)
    replace hf := hf u_3 e9
    clear e9
    exact X_RD_advance_36_w C  u_3 _ _ _ hf hw (lv_sub hl [] rfl)
end

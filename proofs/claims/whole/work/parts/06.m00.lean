section
variable {p : Program} {l : Launch} {e : Env} {s : State} {m : MethodId} {args : Array Value} {below : List Frame} {meth : Method} {c : Code} {dC : Nat → ClassId} {dI : Nat → Nat → Nat} {cs : Nat → ClassId} {q : Nat → Nat} {A : Nat → Prop}
/-! X12_thrown -/
theorem dX12_thrown_0 : decode cX12_thrown 0 = .ok (.aload_n 0, 1) := by decide +kernel
theorem dX12_thrown_1 : decode cX12_thrown 1 = .ok (.getfield 1, 3) := by decide +kernel
theorem dX12_thrown_4 : decode cX12_thrown 4 = .ok (.ireturn, 1) := by decide +kernel
def M_thrown (u : th_St) (K : Int32 → th_St → Prop) : Prop :=
  K (u.1 0) u
set_option maxHeartbeats 4000000 in
set_option maxRecDepth 100000 in
theorem M_thrown_c {l : Launch} {dC : Nat → ClassId} {dI : Nat → Nat → Nat} {cs : Nat → ClassId} {q : Nat → Nat} {u : th_St} {K : Int32 → th_St → Prop} (hf : M_thrown u K) : th_Ci l yX12_thrown cX12_thrown 1 (some .int) 0 0 0 (dC, dI) (th_ty cs) th_E0 (wM cs q) [.ref (q 0)] u K := by
  refine th_ofi (by decide) (Nat.le_of_ble_eq_true rfl) th_E0_ok ?_
  intro p e s m below meth c A ls C hw hl
  have C : th_Cx p s m _ meth c cX12_thrown RX12 1 (some .int) (dC, dI) (th_ty cs) th_E0 A := C
  have hl : lv_has ls 1 [(0, .ref (q 0))] := hl
  generalize (List.toArray _ : Array Value) = args at C ⊢
  have hx := C.1
  have hb := C.2.1
  unfold M_thrown at hf
  refine lv_aload_n hx hb dX12_thrown_0 rfl (lv_at hl 0 rfl) ?_
  refine mg_0 C hw dX12_thrown_1 ?_
  exact th_iret C hw hf dX12_thrown_4
/-! X12_throwsIf -/
theorem dX12_throwsIf_0 : decode cX12_throwsIf 0 = .ok (.aload_n 0, 1) := by decide +kernel
theorem dX12_throwsIf_1 : decode cX12_throwsIf 1 = .ok (.iload_n 1, 1) := by decide +kernel
theorem dX12_throwsIf_2 : decode cX12_throwsIf 2 = .ok (.ifCond .eq 7, 3) := by decide +kernel
theorem dX12_throwsIf_5 : decode cX12_throwsIf 5 = .ok (.iconst 1, 1) := by decide +kernel
theorem dX12_throwsIf_6 : decode cX12_throwsIf 6 = .ok (.goto 4, 3) := by decide +kernel
theorem dX12_throwsIf_9 : decode cX12_throwsIf 9 = .ok (.iconst 0, 1) := by decide +kernel
theorem dX12_throwsIf_10 : decode cX12_throwsIf 10 = .ok (.putfield 1, 3) := by decide +kernel
theorem dX12_throwsIf_13 : decode cX12_throwsIf 13 = .ok (.iload_n 1, 1) := by decide +kernel
theorem dX12_throwsIf_14 : decode cX12_throwsIf 14 = .ok (.ireturn, 1) := by decide +kernel
def M_throwsIf_10 (K : Int32 → th_St → Prop) (x1 : Int32) (z0 : Int32) (u : th_St) : Prop :=
  ∀ u_1 : th_St, u_1 = th_si u 0 z0 → ((x1 = 0 ∨ x1 = 1) ∧ K x1 u_1)
set_option maxHeartbeats 4000000 in
set_option maxRecDepth 100000 in
theorem M_throwsIf_10_w {K : Int32 → th_St → Prop} (C : th_Cx p s m args meth c cX12_throwsIf RX12 2 (some .boolean) (dC, dI) (th_ty cs) th_E0 A) (x1 : Int32) (z0 : Int32) (u : th_St) (H : Heap) (locs : List Loc) (ls : Array Slot) (hf : M_throwsIf_10 K x1 z0 u) (hw : th_wI (dC, dI) (wM cs q) A s.heap u H locs) (hl : lv_has ls 2 [(1, .int x1)]) : W p l e (th_rm 0 0 0) s m args below meth c H locs 0 0 (MQ below (va_Qi K (th_Post (dC, dI) (wM cs q) A) A) args s 0 0 A) (F0 m 10 ls [.int z0, .ref (q 0)]) := by
  have hx := C.1
  have hb := C.2.1
  unfold M_throwsIf_10 at hf
  refine mp_0 C hw dX12_throwsIf_10 (fun u_1 e9 H locs hw => ?_)
  replace hf := hf u_1 e9
  clear e9
  refine lv_iload_n hx hb dX12_throwsIf_13 rfl (lv_at hl 0 rfl) ?_
  exact th_zret C hw hf dX12_throwsIf_14
def M_throwsIf (a1 : Int32) (u : th_St) (K : Int32 → th_St → Prop) : Prop :=
  ((a1 = 0 → M_throwsIf_10 K a1 (0 : Int32) u) ∧ (¬ a1 = 0 → M_throwsIf_10 K a1 (1 : Int32) u))
set_option maxHeartbeats 4000000 in
set_option maxRecDepth 100000 in
theorem M_throwsIf_c {l : Launch} {dC : Nat → ClassId} {dI : Nat → Nat → Nat} {cs : Nat → ClassId} {q : Nat → Nat} {a1 : Int32} {u : th_St} {K : Int32 → th_St → Prop} (hf : M_throwsIf a1 u K) : th_Ci l yX12_throwsIf cX12_throwsIf 2 (some .boolean) 0 0 0 (dC, dI) (th_ty cs) th_E0 (wM cs q) [.ref (q 0), .int a1] u K := by
  refine th_ofi (by decide) (Nat.le_of_ble_eq_true rfl) th_E0_ok ?_
  intro p e s m below meth c A ls C hw hl
  have C : th_Cx p s m _ meth c cX12_throwsIf RX12 2 (some .boolean) (dC, dI) (th_ty cs) th_E0 A := C
  have hl : lv_has ls 2 [(0, .ref (q 0)), (1, .int a1)] := hl
  generalize (List.toArray _ : Array Value) = args at C ⊢
  have hx := C.1
  have hb := C.2.1
  unfold M_throwsIf at hf
  refine lv_aload_n hx hb dX12_throwsIf_0 rfl (lv_at hl 0 rfl) ?_
  refine lv_iload_n hx hb dX12_throwsIf_1 rfl (lv_at hl 1 rfl) ?_
  refine lv_if_eq (tgt := 9) hx hb dX12_throwsIf_2 (by decide) (fun hc => ?_) (fun hc => ?_)
  · replace hf := hf.1 hc
    clear hc
    refine lv_iconst (v := (0 : Int32)) hx hb dX12_throwsIf_9 (by decide) ?_
    exact M_throwsIf_10_w C a1 (0 : Int32) u _ _ _ hf hw (lv_sub hl [1] rfl)
  · replace hf := hf.2 hc
    clear hc
    refine lv_iconst (v := (1 : Int32)) hx hb dX12_throwsIf_5 (by decide) ?_
    refine lv_goto (tgt := 10) hx hb dX12_throwsIf_6 (by decide) ?_
    exact M_throwsIf_10_w C a1 (1 : Int32) u _ _ _ hf hw (lv_sub hl [1] rfl)
/-! X12_four -/
theorem dX12_four_0 : decode cX12_four 0 = .ok (.bipush 24, 2) := by decide +kernel
theorem dX12_four_2 : decode cX12_four 2 = .ok (.istore_n 2, 1) := by decide +kernel
theorem dX12_four_3 : decode cX12_four 3 = .ok (.iload_n 2, 1) := by decide +kernel
theorem dX12_four_4 : decode cX12_four 4 = .ok (.ifCond .lt 32, 3) := by decide +kernel
theorem dX12_four_7 : decode cX12_four 7 = .ok (.aload_n 0, 1) := by decide +kernel
theorem dX12_four_8 : decode cX12_four 8 = .ok (.getfield 14, 3) := by decide +kernel
theorem dX12_four_11 : decode cX12_four 11 = .ok (.aload_n 0, 1) := by decide +kernel
theorem dX12_four_12 : decode cX12_four 12 = .ok (.getfield 7, 3) := by decide +kernel
theorem dX12_four_15 : decode cX12_four 15 = .ok (.iload_n 1, 1) := by decide +kernel
theorem dX12_four_16 : decode cX12_four 16 = .ok (.iload_n 2, 1) := by decide +kernel
theorem dX12_four_17 : decode cX12_four 17 = .ok (.ishr, 1) := by decide +kernel
theorem dX12_four_18 : decode cX12_four 18 = .ok (.i2b, 1) := by decide +kernel
theorem dX12_four_19 : decode cX12_four 19 = .ok (.bastore, 1) := by decide +kernel
theorem dX12_four_20 : decode cX12_four 20 = .ok (.aload_n 0, 1) := by decide +kernel
theorem dX12_four_21 : decode cX12_four 21 = .ok (.dup, 1) := by decide +kernel
theorem dX12_four_22 : decode cX12_four 22 = .ok (.getfield 7, 3) := by decide +kernel
theorem dX12_four_25 : decode cX12_four 25 = .ok (.iconst 1, 1) := by decide +kernel
theorem dX12_four_26 : decode cX12_four 26 = .ok (.iadd, 1) := by decide +kernel
theorem dX12_four_27 : decode cX12_four 27 = .ok (.putfield 7, 3) := by decide +kernel
theorem dX12_four_30 : decode cX12_four 30 = .ok (.iinc 2 (-8), 3) := by decide +kernel
theorem dX12_four_33 : decode cX12_four 33 = .ok (.goto (-30), 3) := by decide +kernel
theorem dX12_four_36 : decode cX12_four 36 = .ok (.return_, 1) := by decide +kernel
def M_four_3 (K : th_St → Prop) (k3 : Int32 → Int32 → th_St → Prop) (x1 : Int32) (x2 : Int32) (u : th_St) : Prop :=
  ((x2 < 0 → K u) ∧ (¬ x2 < 0 → (vp_in (u.1 2) 440 ∧ ∀ u_1 : th_St, u_1 = th_sa u 1 (upd (u.2.2.1 1) ((u.1 2)).toNatClampNeg (vp_nar .byte ((x1 >>> (x2 &&& 31))).toInt8.toInt32)) → ∀ u_2 : th_St, u_2 = th_si u_1 2 ((u_1.1 2) + (1 : Int32)) → ∀ x2_3 : Int32, x2_3 = x2 + (-8 : Int32) → k3 x1 x2_3 u_2)))
set_option maxHeartbeats 4000000 in
set_option maxRecDepth 100000 in
theorem M_four_3_w {K : th_St → Prop} {k3 : Int32 → Int32 → th_St → Prop} (C : th_Cx p s m args meth c cX12_four RX12 3 (none) (dC, dI) (th_ty cs) th_E0 A) (hk3 : ∀ (x1 : Int32) (x2 : Int32) (u : th_St) (H : Heap) (locs : List Loc) (ls : Array Slot), k3 x1 x2 u → th_wI (dC, dI) (wM cs q) A s.heap u H locs → lv_has ls 3 [(0, .ref (q 0)), (1, .int x1), (2, .int x2)] → W p l e (th_rm 0 0 0) s m args below meth c H locs 0 0 (MQ below (va_Qv K (th_Post (dC, dI) (wM cs q) A) A) args s 0 0 A) (F0 m 3 ls [])) (x1 : Int32) (x2 : Int32) (u : th_St) (H : Heap) (locs : List Loc) (ls : Array Slot) (hf : M_four_3 K k3 x1 x2 u) (hw : th_wI (dC, dI) (wM cs q) A s.heap u H locs) (hl : lv_has ls 3 [(0, .ref (q 0)), (1, .int x1), (2, .int x2)]) : W p l e (th_rm 0 0 0) s m args below meth c H locs 0 0 (MQ below (va_Qv K (th_Post (dC, dI) (wM cs q) A) A) args s 0 0 A) (F0 m 3 ls []) := by
  have hx := C.1
  have hb := C.2.1
  unfold M_four_3 at hf
  refine lv_iload_n hx hb dX12_four_3 rfl (lv_at hl 2 rfl) ?_
  refine lv_if_lt (tgt := 36) hx hb dX12_four_4 (by decide) (fun hc => ?_) (fun hc => ?_)
  · replace hf := hf.1 hc
    clear hc
    exact th_vret C hw hf dX12_four_36
  · replace hf := hf.2 hc
    clear hc
    refine lv_aload_n hx hb dX12_four_7 rfl (lv_at hl 0 rfl) ?_
    refine mg_1 C hw dX12_four_8 ?_
    refine lv_aload_n hx hb dX12_four_11 rfl (lv_at hl 0 rfl) ?_
    refine mg_2 C hw dX12_four_12 ?_
    refine lv_iload_n hx hb dX12_four_15 rfl (lv_at hl 1 rfl) ?_
    refine lv_iload_n hx hb dX12_four_16 rfl (lv_at hl 2 rfl) ?_
    refine lv_ishr hx hb dX12_four_17 ?_
    refine lv_i2b hx hb dX12_four_18 rfl ?_
    refine ms_1 C hw hf.1 dX12_four_19 (fun u_1 e9 H locs hw => ?_)
    replace hf := hf.2 u_1 e9
    clear e9
    refine lv_aload_n hx hb dX12_four_20 rfl (lv_at hl 0 rfl) ?_
    refine lv_dup hx hb dX12_four_21 rfl ?_
    refine mg_2 C hw dX12_four_22 ?_
    refine lv_iconst (v := (1 : Int32)) hx hb dX12_four_25 (by decide) ?_
    refine lv_iadd hx hb dX12_four_26 ?_
    refine mp_2 C hw dX12_four_27 (fun u_2 e9 H locs hw => ?_)
    replace hf := hf u_2 e9
    clear e9
    obtain ⟨x2_3, e9⟩ : ∃ y : Int32, y = x2 + (-8 : Int32) := ⟨_, rfl⟩
    replace hf := hf x2_3 e9
    refine lv_iinc (v := x2_3) (lv' := [(2, .int x2_3), (0, .ref (q 0)), (1, .int x1)]) hx hb dX12_four_30 hl (k := 2) rfl (by rw [e9]; rfl) (by decide) rfl (fun ls hl => ?_)
    clear e9
    refine lv_goto (tgt := 3) hx hb dX12_four_33 (by decide) ?_
    exact hk3 x1 x2_3 u_2 _ _ _ hf hw (lv_sub hl [1, 2, 0] rfl)
def M_four_3_lp (K : th_St → Prop) : Nat → Int32 → Int32 → th_St → Prop
  | 0, _, _, _ => False
  | n + 1, x1, x2, u => M_four_3 K (M_four_3_lp K n) x1 x2 u
set_option maxHeartbeats 4000000 in
set_option maxRecDepth 100000 in
theorem M_four_3_lw {K : th_St → Prop} (C : th_Cx p s m args meth c cX12_four RX12 3 (none) (dC, dI) (th_ty cs) th_E0 A) (n : Nat) : ∀ (x1 : Int32) (x2 : Int32) (u : th_St) (H : Heap) (locs : List Loc) (ls : Array Slot), M_four_3_lp K n x1 x2 u → th_wI (dC, dI) (wM cs q) A s.heap u H locs → lv_has ls 3 [(0, .ref (q 0)), (1, .int x1), (2, .int x2)] → W p l e (th_rm 0 0 0) s m args below meth c H locs 0 0 (MQ below (va_Qv K (th_Post (dC, dI) (wM cs q) A) A) args s 0 0 A) (F0 m 3 ls []) := by
  induction n with
  | zero => intro x1 x2 u H locs ls hf; exact hf.elim
  | succ n ih =>
    intro x1 x2 u H locs ls hf hw hl
    exact M_four_3_w C ih x1 x2 u H locs ls hf hw hl
def M_four (a1 : Int32) (u : th_St) (K : th_St → Prop) : Prop :=
  ∃ n, M_four_3_lp K n a1 (24 : Int32) u
set_option maxHeartbeats 4000000 in
set_option maxRecDepth 100000 in
theorem M_four_c {l : Launch} {dC : Nat → ClassId} {dI : Nat → Nat → Nat} {cs : Nat → ClassId} {q : Nat → Nat} {a1 : Int32} {u : th_St} {K : th_St → Prop} (hf : M_four a1 u K) : th_Cv l yX12_four cX12_four 3 (none) 0 0 0 (dC, dI) (th_ty cs) th_E0 (wM cs q) [.ref (q 0), .int a1] u K := by
  refine th_ofv (by decide) (Nat.le_of_ble_eq_true rfl) th_E0_ok ?_
  intro p e s m below meth c A ls C hw hl
  have C : th_Cx p s m _ meth c cX12_four RX12 3 (none) (dC, dI) (th_ty cs) th_E0 A := C
  have hl : lv_has ls 3 [(0, .ref (q 0)), (1, .int a1)] := hl
  generalize (List.toArray _ : Array Value) = args at C ⊢
  have hx := C.1
  have hb := C.2.1
  unfold M_four at hf
  refine lv_bipush (v := (24 : Int32)) hx hb dX12_four_0 (by decide) ?_
  refine lv_istore_n (lv' := [(2, .int (24 : Int32)), (0, .ref (q 0)), (1, .int a1)]) hx hb dX12_four_2 rfl hl (by decide) rfl (fun ls hl => ?_)
  obtain ⟨n, hf⟩ := hf
  exact M_four_3_lw C n a1 (24 : Int32) u _ _ _ hf hw (lv_sub hl [1, 2, 0] rfl)
/-! X12_end -/
theorem dX12_end_0 : decode cX12_end 0 = .ok (.aload_n 0, 1) := by decide +kernel
theorem dX12_end_1 : decode cX12_end 1 = .ok (.iconst 0, 1) := by decide +kernel
theorem dX12_end_2 : decode cX12_end 2 = .ok (.putfield 1, 3) := by decide +kernel
theorem dX12_end_5 : decode cX12_end 5 = .ok (.iload_n 1, 1) := by decide +kernel
theorem dX12_end_6 : decode cX12_end 6 = .ok (.ifCond .lt 11, 3) := by decide +kernel
theorem dX12_end_9 : decode cX12_end 9 = .ok (.iload_n 1, 1) := by decide +kernel
theorem dX12_end_10 : decode cX12_end 10 = .ok (.aload_n 0, 1) := by decide +kernel
theorem dX12_end_11 : decode cX12_end 11 = .ok (.getfield 7, 3) := by decide +kernel
theorem dX12_end_14 : decode cX12_end 14 = .ok (.if_icmp .le 5, 3) := by decide +kernel
theorem dX12_end_17 : decode cX12_end 17 = .ok (.iconst 0, 1) := by decide +kernel
theorem dX12_end_18 : decode cX12_end 18 = .ok (.ireturn, 1) := by decide +kernel
theorem dX12_end_19 : decode cX12_end 19 = .ok (.aload_n 0, 1) := by decide +kernel
theorem dX12_end_20 : decode cX12_end 20 = .ok (.iload_n 1, 1) := by decide +kernel
theorem dX12_end_21 : decode cX12_end 21 = .ok (.putfield 7, 3) := by decide +kernel
theorem dX12_end_24 : decode cX12_end 24 = .ok (.iconst 1, 1) := by decide +kernel
theorem dX12_end_25 : decode cX12_end 25 = .ok (.ireturn, 1) := by decide +kernel
def M_end_17 (K : Int32 → th_St → Prop) (u : th_St) : Prop :=
  (((0 : Int32) = 0 ∨ (0 : Int32) = 1) ∧ K (0 : Int32) u)
set_option maxHeartbeats 4000000 in
set_option maxRecDepth 100000 in
theorem M_end_17_w {K : Int32 → th_St → Prop} (C : th_Cx p s m args meth c cX12_end RX12 2 (some .boolean) (dC, dI) (th_ty cs) th_E0 A) (u : th_St) (H : Heap) (locs : List Loc) (ls : Array Slot) (hf : M_end_17 K u) (hw : th_wI (dC, dI) (wM cs q) A s.heap u H locs) (hl : lv_has ls 2 []) : W p l e (th_rm 0 0 0) s m args below meth c H locs 0 0 (MQ below (va_Qi K (th_Post (dC, dI) (wM cs q) A) A) args s 0 0 A) (F0 m 17 ls []) := by
  have hx := C.1
  have hb := C.2.1
  unfold M_end_17 at hf
  refine lv_iconst (v := (0 : Int32)) hx hb dX12_end_17 (by decide) ?_
  exact th_zret C hw hf dX12_end_18
def M_end (a1 : Int32) (u : th_St) (K : Int32 → th_St → Prop) : Prop :=
  ∀ u_1 : th_St, u_1 = th_si u 0 (0 : Int32) → ((a1 < 0 → M_end_17 K u_1) ∧ (¬ a1 < 0 → ((a1 ≤ (u_1.1 2) → ∀ u_2 : th_St, u_2 = th_si u_1 2 a1 → (((1 : Int32) = 0 ∨ (1 : Int32) = 1) ∧ K (1 : Int32) u_2)) ∧ (¬ a1 ≤ (u_1.1 2) → M_end_17 K u_1))))
set_option maxHeartbeats 4000000 in
set_option maxRecDepth 100000 in
theorem M_end_c {l : Launch} {dC : Nat → ClassId} {dI : Nat → Nat → Nat} {cs : Nat → ClassId} {q : Nat → Nat} {a1 : Int32} {u : th_St} {K : Int32 → th_St → Prop} (hf : M_end a1 u K) : th_Ci l yX12_end cX12_end 2 (some .boolean) 0 0 0 (dC, dI) (th_ty cs) th_E0 (wM cs q) [.ref (q 0), .int a1] u K := by
  refine th_ofi (by decide) (Nat.le_of_ble_eq_true rfl) th_E0_ok ?_
  intro p e s m below meth c A ls C hw hl
  have C : th_Cx p s m _ meth c cX12_end RX12 2 (some .boolean) (dC, dI) (th_ty cs) th_E0 A := C
  have hl : lv_has ls 2 [(0, .ref (q 0)), (1, .int a1)] := hl
  generalize (List.toArray _ : Array Value) = args at C ⊢
  have hx := C.1
  have hb := C.2.1
  unfold M_end at hf
  refine lv_aload_n hx hb dX12_end_0 rfl (lv_at hl 0 rfl) ?_
  refine lv_iconst (v := (0 : Int32)) hx hb dX12_end_1 (by decide) ?_
  refine mp_0 C hw dX12_end_2 (fun u_1 e9 H locs hw => ?_)
  replace hf := hf u_1 e9
  clear e9
  refine lv_iload_n hx hb dX12_end_5 rfl (lv_at hl 1 rfl) ?_
  refine lv_if_lt (tgt := 17) hx hb dX12_end_6 (by decide) (fun hc => ?_) (fun hc => ?_)
  · replace hf := hf.1 hc
    clear hc
    exact M_end_17_w C  u_1 _ _ _ hf hw (lv_sub hl [] rfl)
  · replace hf := hf.2 hc
    clear hc
    refine lv_iload_n hx hb dX12_end_9 rfl (lv_at hl 1 rfl) ?_
    refine lv_aload_n hx hb dX12_end_10 rfl (lv_at hl 0 rfl) ?_
    refine mg_2 C hw dX12_end_11 ?_
    refine lv_icmp_le (tgt := 19) hx hb dX12_end_14 (by decide) (fun hc => ?_) (fun hc => ?_)
    · replace hf := hf.1 hc
      clear hc
      refine lv_aload_n hx hb dX12_end_19 rfl (lv_at hl 0 rfl) ?_
      refine lv_iload_n hx hb dX12_end_20 rfl (lv_at hl 1 rfl) ?_
      refine mp_2 C hw dX12_end_21 (fun u_2 e9 H locs hw => ?_)
      replace hf := hf u_2 e9
      clear e9
      refine lv_iconst (v := (1 : Int32)) hx hb dX12_end_24 (by decide) ?_
      exact th_zret C hw hf dX12_end_25
    · replace hf := hf.2 hc
      clear hc
      exact M_end_17_w C  u_1 _ _ _ hf hw (lv_sub hl [] rfl)
/-! X12_taken -/
theorem dX12_taken_0 : decode cX12_taken 0 = .ok (.aload_n 0, 1) := by decide +kernel
theorem dX12_taken_1 : decode cX12_taken 1 = .ok (.aload_n 0, 1) := by decide +kernel
theorem dX12_taken_2 : decode cX12_taken 2 = .ok (.getfield 7, 3) := by decide +kernel
theorem dX12_taken_5 : decode cX12_taken 5 = .ok (.putfield 18, 3) := by decide +kernel
theorem dX12_taken_8 : decode cX12_taken 8 = .ok (.aload_n 0, 1) := by decide +kernel
theorem dX12_taken_9 : decode cX12_taken 9 = .ok (.iconst 0, 1) := by decide +kernel
theorem dX12_taken_10 : decode cX12_taken 10 = .ok (.putfield 7, 3) := by decide +kernel
theorem dX12_taken_13 : decode cX12_taken 13 = .ok (.aload_n 0, 1) := by decide +kernel
theorem dX12_taken_14 : decode cX12_taken 14 = .ok (.iconst 0, 1) := by decide +kernel
theorem dX12_taken_15 : decode cX12_taken 15 = .ok (.putfield 21, 3) := by decide +kernel
theorem dX12_taken_18 : decode cX12_taken 18 = .ok (.return_, 1) := by decide +kernel
def M_taken (u : th_St) (K : th_St → Prop) : Prop :=
  ∀ u_1 : th_St, u_1 = th_si u 3 (u.1 2) → ∀ u_2 : th_St, u_2 = th_si u_1 2 (0 : Int32) → ∀ u_3 : th_St, u_3 = th_si u_2 4 (0 : Int32) → K u_3
set_option maxHeartbeats 4000000 in
set_option maxRecDepth 100000 in
theorem M_taken_c {l : Launch} {dC : Nat → ClassId} {dI : Nat → Nat → Nat} {cs : Nat → ClassId} {q : Nat → Nat} {u : th_St} {K : th_St → Prop} (hf : M_taken u K) : th_Cv l yX12_taken cX12_taken 1 (none) 0 0 0 (dC, dI) (th_ty cs) th_E0 (wM cs q) [.ref (q 0)] u K := by
  refine th_ofv (by decide) (Nat.le_of_ble_eq_true rfl) th_E0_ok ?_
  intro p e s m below meth c A ls C hw hl
  have C : th_Cx p s m _ meth c cX12_taken RX12 1 (none) (dC, dI) (th_ty cs) th_E0 A := C
  have hl : lv_has ls 1 [(0, .ref (q 0))] := hl
  generalize (List.toArray _ : Array Value) = args at C ⊢
  have hx := C.1
  have hb := C.2.1
  unfold M_taken at hf
  refine lv_aload_n hx hb dX12_taken_0 rfl (lv_at hl 0 rfl) ?_
  refine lv_aload_n hx hb dX12_taken_1 rfl (lv_at hl 0 rfl) ?_
  refine mg_2 C hw dX12_taken_2 ?_
  refine mp_3 C hw dX12_taken_5 (fun u_1 e9 H locs hw => ?_)
  replace hf := hf u_1 e9
  clear e9
  refine lv_aload_n hx hb dX12_taken_8 rfl (lv_at hl 0 rfl) ?_
  refine lv_iconst (v := (0 : Int32)) hx hb dX12_taken_9 (by decide) ?_
  refine mp_2 C hw dX12_taken_10 (fun u_2 e9 H locs hw => ?_)
  replace hf := hf u_2 e9
  clear e9
  refine lv_aload_n hx hb dX12_taken_13 rfl (lv_at hl 0 rfl) ?_
  refine lv_iconst (v := (0 : Int32)) hx hb dX12_taken_14 (by decide) ?_
  refine mp_4 C hw dX12_taken_15 (fun u_3 e9 H locs hw => ?_)
  replace hf := hf u_3 e9
  clear e9
  exact th_vret C hw hf dX12_taken_18
/-! X12_isIn -/
theorem dX12_isIn_0 : decode cX12_isIn 0 = .ok (.iload_n 0, 1) := by decide +kernel
theorem dX12_isIn_1 : decode cX12_isIn 1 = .ok (.iload_n 1, 1) := by decide +kernel
theorem dX12_isIn_2 : decode cX12_isIn 2 = .ok (.if_icmp .lt 12, 3) := by decide +kernel
theorem dX12_isIn_5 : decode cX12_isIn 5 = .ok (.iload_n 0, 1) := by decide +kernel
theorem dX12_isIn_6 : decode cX12_isIn 6 = .ok (.iload_n 2, 1) := by decide +kernel
theorem dX12_isIn_7 : decode cX12_isIn 7 = .ok (.if_icmp .gt 7, 3) := by decide +kernel
theorem dX12_isIn_10 : decode cX12_isIn 10 = .ok (.iconst 1, 1) := by decide +kernel
theorem dX12_isIn_11 : decode cX12_isIn 11 = .ok (.goto 4, 3) := by decide +kernel
theorem dX12_isIn_14 : decode cX12_isIn 14 = .ok (.iconst 0, 1) := by decide +kernel
theorem dX12_isIn_15 : decode cX12_isIn 15 = .ok (.ireturn, 1) := by decide +kernel
def M_isIn_15 (K : Int32 → th_St → Prop) (z0 : Int32) (u : th_St) : Prop :=
  ((z0 = 0 ∨ z0 = 1) ∧ K z0 u)
set_option maxHeartbeats 4000000 in
set_option maxRecDepth 100000 in
theorem M_isIn_15_w {K : Int32 → th_St → Prop} (C : th_Cx p s m args meth c cX12_isIn RX12 3 (some .boolean) (dC, dI) (th_ty cs) th_E0 A) (z0 : Int32) (u : th_St) (H : Heap) (locs : List Loc) (ls : Array Slot) (hf : M_isIn_15 K z0 u) (hw : th_wI (dC, dI) (wM cs q) A s.heap u H locs) (hl : lv_has ls 3 []) : W p l e (th_rm 0 0 0) s m args below meth c H locs 0 0 (MQ below (va_Qi K (th_Post (dC, dI) (wM cs q) A) A) args s 0 0 A) (F0 m 15 ls [.int z0]) := by
  have hx := C.1
  have hb := C.2.1
  unfold M_isIn_15 at hf
  exact th_zret C hw hf dX12_isIn_15
def M_isIn_14 (K : Int32 → th_St → Prop) (u : th_St) : Prop :=
  M_isIn_15 K (0 : Int32) u
set_option maxHeartbeats 4000000 in
set_option maxRecDepth 100000 in
theorem M_isIn_14_w {K : Int32 → th_St → Prop} (C : th_Cx p s m args meth c cX12_isIn RX12 3 (some .boolean) (dC, dI) (th_ty cs) th_E0 A) (u : th_St) (H : Heap) (locs : List Loc) (ls : Array Slot) (hf : M_isIn_14 K u) (hw : th_wI (dC, dI) (wM cs q) A s.heap u H locs) (hl : lv_has ls 3 []) : W p l e (th_rm 0 0 0) s m args below meth c H locs 0 0 (MQ below (va_Qi K (th_Post (dC, dI) (wM cs q) A) A) args s 0 0 A) (F0 m 14 ls []) := by
  have hx := C.1
  have hb := C.2.1
  unfold M_isIn_14 at hf
  refine lv_iconst (v := (0 : Int32)) hx hb dX12_isIn_14 (by decide) ?_
  exact M_isIn_15_w C (0 : Int32) u _ _ _ hf hw (lv_sub hl [] rfl)
def M_isIn (a1 : Int32) (a2 : Int32) (a3 : Int32) (u : th_St) (K : Int32 → th_St → Prop) : Prop :=
  ((a1 < a2 → M_isIn_14 K u) ∧ (¬ a1 < a2 → ((a3 < a1 → M_isIn_14 K u) ∧ (¬ a3 < a1 → M_isIn_15 K (1 : Int32) u))))
set_option maxHeartbeats 4000000 in
set_option maxRecDepth 100000 in
theorem M_isIn_c {l : Launch} {dC : Nat → ClassId} {dI : Nat → Nat → Nat} {cs : Nat → ClassId} {q : Nat → Nat} {a1 : Int32} {a2 : Int32} {a3 : Int32} {u : th_St} {K : Int32 → th_St → Prop} (hf : M_isIn a1 a2 a3 u K) : th_Ci l yX12_isIn cX12_isIn 3 (some .boolean) 0 0 0 (dC, dI) (th_ty cs) th_E0 (wM cs q) [.int a1, .int a2, .int a3] u K := by
  refine th_ofi (by decide) (Nat.le_of_ble_eq_true rfl) th_E0_ok ?_
  intro p e s m below meth c A ls C hw hl
  have C : th_Cx p s m _ meth c cX12_isIn RX12 3 (some .boolean) (dC, dI) (th_ty cs) th_E0 A := C
  have hl : lv_has ls 3 [(0, .int a1), (1, .int a2), (2, .int a3)] := hl
  generalize (List.toArray _ : Array Value) = args at C ⊢
  have hx := C.1
  have hb := C.2.1
  unfold M_isIn at hf
  refine lv_iload_n hx hb dX12_isIn_0 rfl (lv_at hl 0 rfl) ?_
  refine lv_iload_n hx hb dX12_isIn_1 rfl (lv_at hl 1 rfl) ?_
  refine lv_icmp_lt (tgt := 14) hx hb dX12_isIn_2 (by decide) (fun hc => ?_) (fun hc => ?_)
  · replace hf := hf.1 hc
    clear hc
    exact M_isIn_14_w C  u _ _ _ hf hw (lv_sub hl [] rfl)
  · replace hf := hf.2 hc
    clear hc
    refine lv_iload_n hx hb dX12_isIn_5 rfl (lv_at hl 0 rfl) ?_
    refine lv_iload_n hx hb dX12_isIn_6 rfl (lv_at hl 2 rfl) ?_
    refine lv_icmp_gt (tgt := 14) hx hb dX12_isIn_7 (by decide) (fun hc => ?_) (fun hc => ?_)
    · replace hf := hf.1 hc
      clear hc
      exact M_isIn_14_w C  u _ _ _ hf hw (lv_sub hl [] rfl)
    · replace hf := hf.2 hc
      clear hc
      refine lv_iconst (v := (1 : Int32)) hx hb dX12_isIn_10 (by decide) ?_
      refine lv_goto (tgt := 15) hx hb dX12_isIn_11 (by decide) ?_
      exact M_isIn_15_w C (1 : Int32) u _ _ _ hf hw (lv_sub hl [] rfl)
/-! X12_plain -/
theorem dX12_plain_0 : decode cX12_plain 0 = .ok (.iload_n 0, 1) := by decide +kernel
theorem dX12_plain_1 : decode cX12_plain 1 = .ok (.ifCond .ge 8, 3) := by decide +kernel
theorem dX12_plain_4 : decode cX12_plain 4 = .ok (.iload_n 0, 1) := by decide +kernel
theorem dX12_plain_5 : decode cX12_plain 5 = .ok (.ineg, 1) := by decide +kernel
theorem dX12_plain_6 : decode cX12_plain 6 = .ok (.goto 4, 3) := by decide +kernel
theorem dX12_plain_9 : decode cX12_plain 9 = .ok (.iload_n 0, 1) := by decide +kernel
theorem dX12_plain_10 : decode cX12_plain 10 = .ok (.ireturn, 1) := by decide +kernel
def M_plain_10 (K : Int32 → th_St → Prop) (z0 : Int32) (u : th_St) : Prop :=
  K z0 u
set_option maxHeartbeats 4000000 in
set_option maxRecDepth 100000 in
theorem M_plain_10_w {K : Int32 → th_St → Prop} (C : th_Cx p s m args meth c cX12_plain RX12 1 (some .int) (dC, dI) (th_ty cs) th_E0 A) (z0 : Int32) (u : th_St) (H : Heap) (locs : List Loc) (ls : Array Slot) (hf : M_plain_10 K z0 u) (hw : th_wI (dC, dI) (wM cs q) A s.heap u H locs) (hl : lv_has ls 1 []) : W p l e (th_rm 0 0 0) s m args below meth c H locs 0 0 (MQ below (va_Qi K (th_Post (dC, dI) (wM cs q) A) A) args s 0 0 A) (F0 m 10 ls [.int z0]) := by
  have hx := C.1
  have hb := C.2.1
  unfold M_plain_10 at hf
  exact th_iret C hw hf dX12_plain_10
def M_plain (a1 : Int32) (u : th_St) (K : Int32 → th_St → Prop) : Prop :=
  ((0 ≤ a1 → M_plain_10 K a1 u) ∧ (¬ 0 ≤ a1 → M_plain_10 K (-a1) u))
set_option maxHeartbeats 4000000 in
set_option maxRecDepth 100000 in
theorem M_plain_c {l : Launch} {dC : Nat → ClassId} {dI : Nat → Nat → Nat} {cs : Nat → ClassId} {q : Nat → Nat} {a1 : Int32} {u : th_St} {K : Int32 → th_St → Prop} (hf : M_plain a1 u K) : th_Ci l yX12_plain cX12_plain 1 (some .int) 0 0 0 (dC, dI) (th_ty cs) th_E0 (wM cs q) [.int a1] u K := by
  refine th_ofi (by decide) (Nat.le_of_ble_eq_true rfl) th_E0_ok ?_
  intro p e s m below meth c A ls C hw hl
  have C : th_Cx p s m _ meth c cX12_plain RX12 1 (some .int) (dC, dI) (th_ty cs) th_E0 A := C
  have hl : lv_has ls 1 [(0, .int a1)] := hl
  generalize (List.toArray _ : Array Value) = args at C ⊢
  have hx := C.1
  have hb := C.2.1
  unfold M_plain at hf
  refine lv_iload_n hx hb dX12_plain_0 rfl (lv_at hl 0 rfl) ?_
  refine lv_if_ge (tgt := 9) hx hb dX12_plain_1 (by decide) (fun hc => ?_) (fun hc => ?_)
  · replace hf := hf.1 hc
    clear hc
    refine lv_iload_n hx hb dX12_plain_9 rfl (lv_at hl 0 rfl) ?_
    exact M_plain_10_w C a1 u _ _ _ hf hw (lv_sub hl [] rfl)
  · replace hf := hf.2 hc
    clear hc
    refine lv_iload_n hx hb dX12_plain_4 rfl (lv_at hl 0 rfl) ?_
    refine lv_ineg hx hb dX12_plain_5 ?_
    refine lv_goto (tgt := 10) hx hb dX12_plain_6 (by decide) ?_
    exact M_plain_10_w C (-a1) u _ _ _ hf hw (lv_sub hl [] rfl)
/-! X12_plainText -/
theorem dX12_plainText_0 : decode cX12_plainText 0 = .ok (.aload_n 0, 1) := by decide +kernel
theorem dX12_plainText_1 : decode cX12_plainText 1 = .ok (.getfield 54, 3) := by decide +kernel
theorem dX12_plainText_4 : decode cX12_plainText 4 = .ok (.iload_n 1, 1) := by decide +kernel
theorem dX12_plainText_5 : decode cX12_plainText 5 = .ok (.bipush 24, 2) := by decide +kernel
theorem dX12_plainText_7 : decode cX12_plainText 7 = .ok (.iastore, 1) := by decide +kernel
theorem dX12_plainText_8 : decode cX12_plainText 8 = .ok (.aload_n 0, 1) := by decide +kernel
theorem dX12_plainText_9 : decode cX12_plainText 9 = .ok (.getfield 57, 3) := by decide +kernel
theorem dX12_plainText_12 : decode cX12_plainText 12 = .ok (.iload_n 1, 1) := by decide +kernel
theorem dX12_plainText_13 : decode cX12_plainText 13 = .ok (.iconst 1, 1) := by decide +kernel
theorem dX12_plainText_14 : decode cX12_plainText 14 = .ok (.iastore, 1) := by decide +kernel
theorem dX12_plainText_15 : decode cX12_plainText 15 = .ok (.aload_n 0, 1) := by decide +kernel
theorem dX12_plainText_16 : decode cX12_plainText 16 = .ok (.getfield 60, 3) := by decide +kernel
theorem dX12_plainText_19 : decode cX12_plainText 19 = .ok (.iload_n 1, 1) := by decide +kernel
theorem dX12_plainText_20 : decode cX12_plainText 20 = .ok (.iconst 1, 1) := by decide +kernel
theorem dX12_plainText_21 : decode cX12_plainText 21 = .ok (.iastore, 1) := by decide +kernel
theorem dX12_plainText_22 : decode cX12_plainText 22 = .ok (.aload_n 0, 1) := by decide +kernel
theorem dX12_plainText_23 : decode cX12_plainText 23 = .ok (.getfield 63, 3) := by decide +kernel
theorem dX12_plainText_26 : decode cX12_plainText 26 = .ok (.iload_n 1, 1) := by decide +kernel
theorem dX12_plainText_27 : decode cX12_plainText 27 = .ok (.iconst 0, 1) := by decide +kernel
theorem dX12_plainText_28 : decode cX12_plainText 28 = .ok (.iastore, 1) := by decide +kernel
theorem dX12_plainText_29 : decode cX12_plainText 29 = .ok (.aload_n 0, 1) := by decide +kernel
theorem dX12_plainText_30 : decode cX12_plainText 30 = .ok (.getfield 66, 3) := by decide +kernel
theorem dX12_plainText_33 : decode cX12_plainText 33 = .ok (.iload_n 1, 1) := by decide +kernel
theorem dX12_plainText_34 : decode cX12_plainText 34 = .ok (.iconst 0, 1) := by decide +kernel
theorem dX12_plainText_35 : decode cX12_plainText 35 = .ok (.iastore, 1) := by decide +kernel
theorem dX12_plainText_36 : decode cX12_plainText 36 = .ok (.iconst 0, 1) := by decide +kernel
theorem dX12_plainText_37 : decode cX12_plainText 37 = .ok (.istore_n 2, 1) := by decide +kernel
theorem dX12_plainText_38 : decode cX12_plainText 38 = .ok (.iload_n 2, 1) := by decide +kernel
theorem dX12_plainText_39 : decode cX12_plainText 39 = .ok (.bipush 48, 2) := by decide +kernel
theorem dX12_plainText_41 : decode cX12_plainText 41 = .ok (.if_icmp .ge 34, 3) := by decide +kernel
theorem dX12_plainText_44 : decode cX12_plainText 44 = .ok (.aload_n 0, 1) := by decide +kernel
theorem dX12_plainText_45 : decode cX12_plainText 45 = .ok (.getfield 37, 3) := by decide +kernel
theorem dX12_plainText_48 : decode cX12_plainText 48 = .ok (.bipush 48, 2) := by decide +kernel
theorem dX12_plainText_50 : decode cX12_plainText 50 = .ok (.iload_n 1, 1) := by decide +kernel
theorem dX12_plainText_51 : decode cX12_plainText 51 = .ok (.imul, 1) := by decide +kernel
theorem dX12_plainText_52 : decode cX12_plainText 52 = .ok (.iload_n 2, 1) := by decide +kernel
theorem dX12_plainText_53 : decode cX12_plainText 53 = .ok (.iadd, 1) := by decide +kernel
theorem dX12_plainText_54 : decode cX12_plainText 54 = .ok (.iconst 0, 1) := by decide +kernel
theorem dX12_plainText_55 : decode cX12_plainText 55 = .ok (.bastore, 1) := by decide +kernel
theorem dX12_plainText_56 : decode cX12_plainText 56 = .ok (.aload_n 0, 1) := by decide +kernel
theorem dX12_plainText_57 : decode cX12_plainText 57 = .ok (.getfield 41, 3) := by decide +kernel
theorem dX12_plainText_60 : decode cX12_plainText 60 = .ok (.bipush 48, 2) := by decide +kernel
theorem dX12_plainText_62 : decode cX12_plainText 62 = .ok (.iload_n 1, 1) := by decide +kernel
theorem dX12_plainText_63 : decode cX12_plainText 63 = .ok (.imul, 1) := by decide +kernel
theorem dX12_plainText_64 : decode cX12_plainText 64 = .ok (.iload_n 2, 1) := by decide +kernel
theorem dX12_plainText_65 : decode cX12_plainText 65 = .ok (.iadd, 1) := by decide +kernel
theorem dX12_plainText_66 : decode cX12_plainText 66 = .ok (.bipush 10, 2) := by decide +kernel
theorem dX12_plainText_68 : decode cX12_plainText 68 = .ok (.iastore, 1) := by decide +kernel
theorem dX12_plainText_69 : decode cX12_plainText 69 = .ok (.iinc 2 1, 3) := by decide +kernel
theorem dX12_plainText_72 : decode cX12_plainText 72 = .ok (.goto (-34), 3) := by decide +kernel
theorem dX12_plainText_75 : decode cX12_plainText 75 = .ok (.return_, 1) := by decide +kernel
def M_plainText_38 (K : th_St → Prop) (k38 : Int32 → Int32 → th_St → Prop) (x1 : Int32) (x2 : Int32) (u : th_St) : Prop :=
  (((48 : Int32) ≤ x2 → K u) ∧ (¬ (48 : Int32) ≤ x2 → (vp_in (((48 : Int32) * x1) + x2) 96 ∧ ∀ u_1 : th_St, u_1 = th_sa u 6 (upd (u.2.2.1 6) ((((48 : Int32) * x1) + x2)).toNatClampNeg (vp_nar .boolean (0 : Int32))) → (vp_in (((48 : Int32) * x1) + x2) 96 ∧ ∀ u_2 : th_St, u_2 = th_sa u_1 7 (upd (u_1.2.2.1 7) ((((48 : Int32) * x1) + x2)).toNatClampNeg (10 : Int32)) → ∀ x2_3 : Int32, x2_3 = x2 + (1 : Int32) → k38 x1 x2_3 u_2))))
set_option maxHeartbeats 4000000 in
set_option maxRecDepth 100000 in
theorem M_plainText_38_w {K : th_St → Prop} {k38 : Int32 → Int32 → th_St → Prop} (C : th_Cx p s m args meth c cX12_plainText RX12 3 (none) (dC, dI) (th_ty cs) th_E0 A) (hk38 : ∀ (x1 : Int32) (x2 : Int32) (u : th_St) (H : Heap) (locs : List Loc) (ls : Array Slot), k38 x1 x2 u → th_wI (dC, dI) (wM cs q) A s.heap u H locs → lv_has ls 3 [(0, .ref (q 0)), (1, .int x1), (2, .int x2)] → W p l e (th_rm 0 0 0) s m args below meth c H locs 0 0 (MQ below (va_Qv K (th_Post (dC, dI) (wM cs q) A) A) args s 0 0 A) (F0 m 38 ls [])) (x1 : Int32) (x2 : Int32) (u : th_St) (H : Heap) (locs : List Loc) (ls : Array Slot) (hf : M_plainText_38 K k38 x1 x2 u) (hw : th_wI (dC, dI) (wM cs q) A s.heap u H locs) (hl : lv_has ls 3 [(0, .ref (q 0)), (1, .int x1), (2, .int x2)]) : W p l e (th_rm 0 0 0) s m args below meth c H locs 0 0 (MQ below (va_Qv K (th_Post (dC, dI) (wM cs q) A) A) args s 0 0 A) (F0 m 38 ls []) := by
  have hx := C.1
  have hb := C.2.1
  unfold M_plainText_38 at hf
  refine lv_iload_n hx hb dX12_plainText_38 rfl (lv_at hl 2 rfl) ?_
  refine lv_bipush (v := (48 : Int32)) hx hb dX12_plainText_39 (by decide) ?_
  refine lv_icmp_ge (tgt := 75) hx hb dX12_plainText_41 (by decide) (fun hc => ?_) (fun hc => ?_)
  · replace hf := hf.1 hc
    clear hc
    exact th_vret C hw hf dX12_plainText_75
  · replace hf := hf.2 hc
    clear hc
    refine lv_aload_n hx hb dX12_plainText_44 rfl (lv_at hl 0 rfl) ?_
    refine mg_6 C hw dX12_plainText_45 ?_
    refine lv_bipush (v := (48 : Int32)) hx hb dX12_plainText_48 (by decide) ?_
    refine lv_iload_n hx hb dX12_plainText_50 rfl (lv_at hl 1 rfl) ?_
    refine lv_imul hx hb dX12_plainText_51 ?_
    refine lv_iload_n hx hb dX12_plainText_52 rfl (lv_at hl 2 rfl) ?_
    refine lv_iadd hx hb dX12_plainText_53 ?_
    refine lv_iconst (v := (0 : Int32)) hx hb dX12_plainText_54 (by decide) ?_
    refine ms_6 C hw hf.1 dX12_plainText_55 (fun u_1 e9 H locs hw => ?_)
    replace hf := hf.2 u_1 e9
    clear e9
    refine lv_aload_n hx hb dX12_plainText_56 rfl (lv_at hl 0 rfl) ?_
    refine mg_7 C hw dX12_plainText_57 ?_
    refine lv_bipush (v := (48 : Int32)) hx hb dX12_plainText_60 (by decide) ?_
    refine lv_iload_n hx hb dX12_plainText_62 rfl (lv_at hl 1 rfl) ?_
    refine lv_imul hx hb dX12_plainText_63 ?_
    refine lv_iload_n hx hb dX12_plainText_64 rfl (lv_at hl 2 rfl) ?_
    refine lv_iadd hx hb dX12_plainText_65 ?_
    refine lv_bipush (v := (10 : Int32)) hx hb dX12_plainText_66 (by decide) ?_
    refine ms_7 C hw hf.1 dX12_plainText_68 (fun u_2 e9 H locs hw => ?_)
    replace hf := hf.2 u_2 e9
    clear e9
    obtain ⟨x2_3, e9⟩ : ∃ y : Int32, y = x2 + (1 : Int32) := ⟨_, rfl⟩
    replace hf := hf x2_3 e9
    refine lv_iinc (v := x2_3) (lv' := [(2, .int x2_3), (0, .ref (q 0)), (1, .int x1)]) hx hb dX12_plainText_69 hl (k := 2) rfl (by rw [e9]; rfl) (by decide) rfl (fun ls hl => ?_)
    clear e9
    refine lv_goto (tgt := 38) hx hb dX12_plainText_72 (by decide) ?_
    exact hk38 x1 x2_3 u_2 _ _ _ hf hw (lv_sub hl [1, 2, 0] rfl)
def M_plainText_38_lp (K : th_St → Prop) : Nat → Int32 → Int32 → th_St → Prop
  | 0, _, _, _ => False
  | n + 1, x1, x2, u => M_plainText_38 K (M_plainText_38_lp K n) x1 x2 u
set_option maxHeartbeats 4000000 in
set_option maxRecDepth 100000 in
theorem M_plainText_38_lw {K : th_St → Prop} (C : th_Cx p s m args meth c cX12_plainText RX12 3 (none) (dC, dI) (th_ty cs) th_E0 A) (n : Nat) : ∀ (x1 : Int32) (x2 : Int32) (u : th_St) (H : Heap) (locs : List Loc) (ls : Array Slot), M_plainText_38_lp K n x1 x2 u → th_wI (dC, dI) (wM cs q) A s.heap u H locs → lv_has ls 3 [(0, .ref (q 0)), (1, .int x1), (2, .int x2)] → W p l e (th_rm 0 0 0) s m args below meth c H locs 0 0 (MQ below (va_Qv K (th_Post (dC, dI) (wM cs q) A) A) args s 0 0 A) (F0 m 38 ls []) := by
  induction n with
  | zero => intro x1 x2 u H locs ls hf; exact hf.elim
  | succ n ih =>
    intro x1 x2 u H locs ls hf hw hl
    exact M_plainText_38_w C ih x1 x2 u H locs ls hf hw hl
def M_plainText (a1 : Int32) (u : th_St) (K : th_St → Prop) : Prop :=
  (vp_in a1 2 ∧ ∀ u_1 : th_St, u_1 = th_sa u 11 (upd (u.2.2.1 11) (a1).toNatClampNeg (24 : Int32)) → (vp_in a1 2 ∧ ∀ u_2 : th_St, u_2 = th_sa u_1 12 (upd (u_1.2.2.1 12) (a1).toNatClampNeg (1 : Int32)) → (vp_in a1 2 ∧ ∀ u_3 : th_St, u_3 = th_sa u_2 13 (upd (u_2.2.2.1 13) (a1).toNatClampNeg (1 : Int32)) → (vp_in a1 2 ∧ ∀ u_4 : th_St, u_4 = th_sa u_3 14 (upd (u_3.2.2.1 14) (a1).toNatClampNeg (0 : Int32)) → (vp_in a1 2 ∧ ∀ u_5 : th_St, u_5 = th_sa u_4 15 (upd (u_4.2.2.1 15) (a1).toNatClampNeg (0 : Int32)) → ∃ n, M_plainText_38_lp K n a1 (0 : Int32) u_5)))))
set_option maxHeartbeats 4000000 in
set_option maxRecDepth 100000 in
theorem M_plainText_c {l : Launch} {dC : Nat → ClassId} {dI : Nat → Nat → Nat} {cs : Nat → ClassId} {q : Nat → Nat} {a1 : Int32} {u : th_St} {K : th_St → Prop} (hf : M_plainText a1 u K) : th_Cv l yX12_plainText cX12_plainText 3 (none) 0 0 0 (dC, dI) (th_ty cs) th_E0 (wM cs q) [.ref (q 0), .int a1] u K := by
  refine th_ofv (by decide) (Nat.le_of_ble_eq_true rfl) th_E0_ok ?_
  intro p e s m below meth c A ls C hw hl
  have C : th_Cx p s m _ meth c cX12_plainText RX12 3 (none) (dC, dI) (th_ty cs) th_E0 A := C
  have hl : lv_has ls 3 [(0, .ref (q 0)), (1, .int a1)] := hl
  generalize (List.toArray _ : Array Value) = args at C ⊢
  have hx := C.1
  have hb := C.2.1
  unfold M_plainText at hf
  refine lv_aload_n hx hb dX12_plainText_0 rfl (lv_at hl 0 rfl) ?_
  refine mg_11 C hw dX12_plainText_1 ?_
  refine lv_iload_n hx hb dX12_plainText_4 rfl (lv_at hl 1 rfl) ?_
  refine lv_bipush (v := (24 : Int32)) hx hb dX12_plainText_5 (by decide) ?_
  refine ms_11 C hw hf.1 dX12_plainText_7 (fun u_1 e9 H locs hw => ?_)
  replace hf := hf.2 u_1 e9
  clear e9
  refine lv_aload_n hx hb dX12_plainText_8 rfl (lv_at hl 0 rfl) ?_
  refine mg_12 C hw dX12_plainText_9 ?_
  refine lv_iload_n hx hb dX12_plainText_12 rfl (lv_at hl 1 rfl) ?_
  refine lv_iconst (v := (1 : Int32)) hx hb dX12_plainText_13 (by decide) ?_
  refine ms_12 C hw hf.1 dX12_plainText_14 (fun u_2 e9 H locs hw => ?_)
  replace hf := hf.2 u_2 e9
  clear e9
  refine lv_aload_n hx hb dX12_plainText_15 rfl (lv_at hl 0 rfl) ?_
  refine mg_13 C hw dX12_plainText_16 ?_
  refine lv_iload_n hx hb dX12_plainText_19 rfl (lv_at hl 1 rfl) ?_
  refine lv_iconst (v := (1 : Int32)) hx hb dX12_plainText_20 (by decide) ?_
  refine ms_13 C hw hf.1 dX12_plainText_21 (fun u_3 e9 H locs hw => ?_)
  replace hf := hf.2 u_3 e9
  clear e9
  refine lv_aload_n hx hb dX12_plainText_22 rfl (lv_at hl 0 rfl) ?_
  refine mg_14 C hw dX12_plainText_23 ?_
  refine lv_iload_n hx hb dX12_plainText_26 rfl (lv_at hl 1 rfl) ?_
  refine lv_iconst (v := (0 : Int32)) hx hb dX12_plainText_27 (by decide) ?_
  refine ms_14 C hw hf.1 dX12_plainText_28 (fun u_4 e9 H locs hw => ?_)
  replace hf := hf.2 u_4 e9
  clear e9
  refine lv_aload_n hx hb dX12_plainText_29 rfl (lv_at hl 0 rfl) ?_
  refine mg_15 C hw dX12_plainText_30 ?_
  refine lv_iload_n hx hb dX12_plainText_33 rfl (lv_at hl 1 rfl) ?_
  refine lv_iconst (v := (0 : Int32)) hx hb dX12_plainText_34 (by decide) ?_
  refine ms_15 C hw hf.1 dX12_plainText_35 (fun u_5 e9 H locs hw => ?_)
  replace hf := hf.2 u_5 e9
  clear e9
  refine lv_iconst (v := (0 : Int32)) hx hb dX12_plainText_36 (by decide) ?_
  refine lv_istore_n (lv' := [(2, .int (0 : Int32)), (0, .ref (q 0)), (1, .int a1)]) hx hb dX12_plainText_37 rfl hl (by decide) rfl (fun ls hl => ?_)
  obtain ⟨n, hf⟩ := hf
  exact M_plainText_38_lw C n a1 (0 : Int32) u_5 _ _ _ hf hw (lv_sub hl [1, 2, 0] rfl)
/-! X12_fault -/
theorem dX12_fault_0 : decode cX12_fault 0 = .ok (.aload_n 0, 1) := by decide +kernel
theorem dX12_fault_1 : decode cX12_fault 1 = .ok (.iconst 0, 1) := by decide +kernel
theorem dX12_fault_2 : decode cX12_fault 2 = .ok (.putfield 1, 3) := by decide +kernel
theorem dX12_fault_5 : decode cX12_fault 5 = .ok (.aload_n 0, 1) := by decide +kernel
theorem dX12_fault_6 : decode cX12_fault 6 = .ok (.getfield 170, 3) := by decide +kernel
theorem dX12_fault_9 : decode cX12_fault 9 = .ok (.ireturn, 1) := by decide +kernel
def M_fault (u : th_St) (K : Int32 → th_St → Prop) : Prop :=
  ∀ u_1 : th_St, u_1 = th_si u 0 (0 : Int32) → K (u_1.1 28) u_1
set_option maxHeartbeats 4000000 in
set_option maxRecDepth 100000 in
theorem M_fault_c {l : Launch} {dC : Nat → ClassId} {dI : Nat → Nat → Nat} {cs : Nat → ClassId} {q : Nat → Nat} {u : th_St} {K : Int32 → th_St → Prop} (hf : M_fault u K) : th_Ci l yX12_fault cX12_fault 1 (some .int) 0 0 0 (dC, dI) (th_ty cs) th_E0 (wM cs q) [.ref (q 0)] u K := by
  refine th_ofi (by decide) (Nat.le_of_ble_eq_true rfl) th_E0_ok ?_
  intro p e s m below meth c A ls C hw hl
  have C : th_Cx p s m _ meth c cX12_fault RX12 1 (some .int) (dC, dI) (th_ty cs) th_E0 A := C
  have hl : lv_has ls 1 [(0, .ref (q 0))] := hl
  generalize (List.toArray _ : Array Value) = args at C ⊢
  have hx := C.1
  have hb := C.2.1
  unfold M_fault at hf
  refine lv_aload_n hx hb dX12_fault_0 rfl (lv_at hl 0 rfl) ?_
  refine lv_iconst (v := (0 : Int32)) hx hb dX12_fault_1 (by decide) ?_
  refine mp_0 C hw dX12_fault_2 (fun u_1 e9 H locs hw => ?_)
  replace hf := hf u_1 e9
  clear e9
  refine lv_aload_n hx hb dX12_fault_5 rfl (lv_at hl 0 rfl) ?_
  refine mg_28 C hw dX12_fault_6 ?_
  exact th_iret C hw hf dX12_fault_9
/-! X12_peek -/
theorem dX12_peek_0 : decode cX12_peek 0 = .ok (.aload_n 0, 1) := by decide +kernel
theorem dX12_peek_1 : decode cX12_peek 1 = .ok (.getfield 21, 3) := by decide +kernel
theorem dX12_peek_4 : decode cX12_peek 4 = .ok (.aload_n 0, 1) := by decide +kernel
theorem dX12_peek_5 : decode cX12_peek 5 = .ok (.getfield 18, 3) := by decide +kernel
theorem dX12_peek_8 : decode cX12_peek 8 = .ok (.if_icmp .ge 19, 3) := by decide +kernel
theorem dX12_peek_11 : decode cX12_peek 11 = .ok (.aload_n 0, 1) := by decide +kernel
theorem dX12_peek_12 : decode cX12_peek 12 = .ok (.getfield 14, 3) := by decide +kernel
theorem dX12_peek_15 : decode cX12_peek 15 = .ok (.aload_n 0, 1) := by decide +kernel
theorem dX12_peek_16 : decode cX12_peek 16 = .ok (.getfield 21, 3) := by decide +kernel
theorem dX12_peek_19 : decode cX12_peek 19 = .ok (.baload, 1) := by decide +kernel
theorem dX12_peek_20 : decode cX12_peek 20 = .ok (.sipush 255, 3) := by decide +kernel
theorem dX12_peek_23 : decode cX12_peek 23 = .ok (.iand, 1) := by decide +kernel
theorem dX12_peek_24 : decode cX12_peek 24 = .ok (.goto 4, 3) := by decide +kernel
theorem dX12_peek_27 : decode cX12_peek 27 = .ok (.iconst (-1), 1) := by decide +kernel
theorem dX12_peek_28 : decode cX12_peek 28 = .ok (.ireturn, 1) := by decide +kernel
def M_peek_28 (K : Int32 → th_St → Prop) (z0 : Int32) (u : th_St) : Prop :=
  K z0 u
set_option maxHeartbeats 4000000 in
set_option maxRecDepth 100000 in
theorem M_peek_28_w {K : Int32 → th_St → Prop} (C : th_Cx p s m args meth c cX12_peek RX12 1 (some .int) (dC, dI) (th_ty cs) th_E0 A) (z0 : Int32) (u : th_St) (H : Heap) (locs : List Loc) (ls : Array Slot) (hf : M_peek_28 K z0 u) (hw : th_wI (dC, dI) (wM cs q) A s.heap u H locs) (hl : lv_has ls 1 []) : W p l e (th_rm 0 0 0) s m args below meth c H locs 0 0 (MQ below (va_Qi K (th_Post (dC, dI) (wM cs q) A) A) args s 0 0 A) (F0 m 28 ls [.int z0]) := by
  have hx := C.1
  have hb := C.2.1
  unfold M_peek_28 at hf
  exact th_iret C hw hf dX12_peek_28
def M_peek (u : th_St) (K : Int32 → th_St → Prop) : Prop :=
  (((u.1 3) ≤ (u.1 4) → M_peek_28 K (-1 : Int32) u) ∧ (¬ (u.1 3) ≤ (u.1 4) → (vp_in (u.1 4) 440 ∧ ∀ y_1 : Int32, y_1 = u.2.2.1 1 ((u.1 4)).toNatClampNeg → M_peek_28 K (y_1 &&& (255 : Int32)) u)))
set_option maxHeartbeats 4000000 in
set_option maxRecDepth 100000 in
theorem M_peek_c {l : Launch} {dC : Nat → ClassId} {dI : Nat → Nat → Nat} {cs : Nat → ClassId} {q : Nat → Nat} {u : th_St} {K : Int32 → th_St → Prop} (hf : M_peek u K) : th_Ci l yX12_peek cX12_peek 1 (some .int) 0 0 0 (dC, dI) (th_ty cs) th_E0 (wM cs q) [.ref (q 0)] u K := by
  refine th_ofi (by decide) (Nat.le_of_ble_eq_true rfl) th_E0_ok ?_
  intro p e s m below meth c A ls C hw hl
  have C : th_Cx p s m _ meth c cX12_peek RX12 1 (some .int) (dC, dI) (th_ty cs) th_E0 A := C
  have hl : lv_has ls 1 [(0, .ref (q 0))] := hl
  generalize (List.toArray _ : Array Value) = args at C ⊢
  have hx := C.1
  have hb := C.2.1
  unfold M_peek at hf
  refine lv_aload_n hx hb dX12_peek_0 rfl (lv_at hl 0 rfl) ?_
  refine mg_4 C hw dX12_peek_1 ?_
  refine lv_aload_n hx hb dX12_peek_4 rfl (lv_at hl 0 rfl) ?_
  refine mg_3 C hw dX12_peek_5 ?_
  refine lv_icmp_ge (tgt := 27) hx hb dX12_peek_8 (by decide) (fun hc => ?_) (fun hc => ?_)
  · replace hf := hf.1 hc
    clear hc
    refine lv_iconst (v := (-1 : Int32)) hx hb dX12_peek_27 (by decide) ?_
    exact M_peek_28_w C (-1 : Int32) u _ _ _ hf hw (lv_sub hl [] rfl)
  · replace hf := hf.2 hc
    clear hc
    refine lv_aload_n hx hb dX12_peek_11 rfl (lv_at hl 0 rfl) ?_
    refine mg_1 C hw dX12_peek_12 ?_
    refine lv_aload_n hx hb dX12_peek_15 rfl (lv_at hl 0 rfl) ?_
    refine mg_4 C hw dX12_peek_16 ?_
    refine ml_1 C hw hf.1 dX12_peek_19 (fun y_1 e9 => ?_)
    replace hf := hf.2 y_1 e9
    clear e9
    refine lv_sipush (v := (255 : Int32)) hx hb dX12_peek_20 (by decide) ?_
    refine lv_iand hx hb dX12_peek_23 ?_
    refine lv_goto (tgt := 28) hx hb dX12_peek_24 (by decide) ?_
    exact M_peek_28_w C (y_1 &&& (255 : Int32)) u _ _ _ hf hw (lv_sub hl [] rfl)
/-! X12_isSmall -/
theorem dX12_isSmall_0 : decode cX12_isSmall 0 = .ok (.iload_n 0, 1) := by decide +kernel
theorem dX12_isSmall_1 : decode cX12_isSmall 1 = .ok (.bipush 97, 2) := by decide +kernel
theorem dX12_isSmall_3 : decode cX12_isSmall 3 = .ok (.if_icmp .lt 13, 3) := by decide +kernel
theorem dX12_isSmall_6 : decode cX12_isSmall 6 = .ok (.iload_n 0, 1) := by decide +kernel
theorem dX12_isSmall_7 : decode cX12_isSmall 7 = .ok (.bipush 122, 2) := by decide +kernel
theorem dX12_isSmall_9 : decode cX12_isSmall 9 = .ok (.if_icmp .gt 7, 3) := by decide +kernel
theorem dX12_isSmall_12 : decode cX12_isSmall 12 = .ok (.iconst 1, 1) := by decide +kernel
theorem dX12_isSmall_13 : decode cX12_isSmall 13 = .ok (.goto 4, 3) := by decide +kernel
theorem dX12_isSmall_16 : decode cX12_isSmall 16 = .ok (.iconst 0, 1) := by decide +kernel
theorem dX12_isSmall_17 : decode cX12_isSmall 17 = .ok (.ireturn, 1) := by decide +kernel
def M_isSmall_17 (K : Int32 → th_St → Prop) (z0 : Int32) (u : th_St) : Prop :=
  ((z0 = 0 ∨ z0 = 1) ∧ K z0 u)
set_option maxHeartbeats 4000000 in
set_option maxRecDepth 100000 in
theorem M_isSmall_17_w {K : Int32 → th_St → Prop} (C : th_Cx p s m args meth c cX12_isSmall RX12 1 (some .boolean) (dC, dI) (th_ty cs) th_E0 A) (z0 : Int32) (u : th_St) (H : Heap) (locs : List Loc) (ls : Array Slot) (hf : M_isSmall_17 K z0 u) (hw : th_wI (dC, dI) (wM cs q) A s.heap u H locs) (hl : lv_has ls 1 []) : W p l e (th_rm 0 0 0) s m args below meth c H locs 0 0 (MQ below (va_Qi K (th_Post (dC, dI) (wM cs q) A) A) args s 0 0 A) (F0 m 17 ls [.int z0]) := by
  have hx := C.1
  have hb := C.2.1
  unfold M_isSmall_17 at hf
  exact th_zret C hw hf dX12_isSmall_17
def M_isSmall_16 (K : Int32 → th_St → Prop) (u : th_St) : Prop :=
  M_isSmall_17 K (0 : Int32) u
set_option maxHeartbeats 4000000 in
set_option maxRecDepth 100000 in
theorem M_isSmall_16_w {K : Int32 → th_St → Prop} (C : th_Cx p s m args meth c cX12_isSmall RX12 1 (some .boolean) (dC, dI) (th_ty cs) th_E0 A) (u : th_St) (H : Heap) (locs : List Loc) (ls : Array Slot) (hf : M_isSmall_16 K u) (hw : th_wI (dC, dI) (wM cs q) A s.heap u H locs) (hl : lv_has ls 1 []) : W p l e (th_rm 0 0 0) s m args below meth c H locs 0 0 (MQ below (va_Qi K (th_Post (dC, dI) (wM cs q) A) A) args s 0 0 A) (F0 m 16 ls []) := by
  have hx := C.1
  have hb := C.2.1
  unfold M_isSmall_16 at hf
  refine lv_iconst (v := (0 : Int32)) hx hb dX12_isSmall_16 (by decide) ?_
  exact M_isSmall_17_w C (0 : Int32) u _ _ _ hf hw (lv_sub hl [] rfl)
def M_isSmall (a1 : Int32) (u : th_St) (K : Int32 → th_St → Prop) : Prop :=
  ((a1 < (97 : Int32) → M_isSmall_16 K u) ∧ (¬ a1 < (97 : Int32) → (((122 : Int32) < a1 → M_isSmall_16 K u) ∧ (¬ (122 : Int32) < a1 → M_isSmall_17 K (1 : Int32) u))))
set_option maxHeartbeats 4000000 in
set_option maxRecDepth 100000 in
theorem M_isSmall_c {l : Launch} {dC : Nat → ClassId} {dI : Nat → Nat → Nat} {cs : Nat → ClassId} {q : Nat → Nat} {a1 : Int32} {u : th_St} {K : Int32 → th_St → Prop} (hf : M_isSmall a1 u K) : th_Ci l yX12_isSmall cX12_isSmall 1 (some .boolean) 0 0 0 (dC, dI) (th_ty cs) th_E0 (wM cs q) [.int a1] u K := by
  refine th_ofi (by decide) (Nat.le_of_ble_eq_true rfl) th_E0_ok ?_
  intro p e s m below meth c A ls C hw hl
  have C : th_Cx p s m _ meth c cX12_isSmall RX12 1 (some .boolean) (dC, dI) (th_ty cs) th_E0 A := C
  have hl : lv_has ls 1 [(0, .int a1)] := hl
  generalize (List.toArray _ : Array Value) = args at C ⊢
  have hx := C.1
  have hb := C.2.1
  unfold M_isSmall at hf
  refine lv_iload_n hx hb dX12_isSmall_0 rfl (lv_at hl 0 rfl) ?_
  refine lv_bipush (v := (97 : Int32)) hx hb dX12_isSmall_1 (by decide) ?_
  refine lv_icmp_lt (tgt := 16) hx hb dX12_isSmall_3 (by decide) (fun hc => ?_) (fun hc => ?_)
  · replace hf := hf.1 hc
    clear hc
    exact M_isSmall_16_w C  u _ _ _ hf hw (lv_sub hl [] rfl)
  · replace hf := hf.2 hc
    clear hc
    refine lv_iload_n hx hb dX12_isSmall_6 rfl (lv_at hl 0 rfl) ?_
    refine lv_bipush (v := (122 : Int32)) hx hb dX12_isSmall_7 (by decide) ?_
    refine lv_icmp_gt (tgt := 16) hx hb dX12_isSmall_9 (by decide) (fun hc => ?_) (fun hc => ?_)
    · replace hf := hf.1 hc
      clear hc
      exact M_isSmall_16_w C  u _ _ _ hf hw (lv_sub hl [] rfl)
    · replace hf := hf.2 hc
      clear hc
      refine lv_iconst (v := (1 : Int32)) hx hb dX12_isSmall_12 (by decide) ?_
      refine lv_goto (tgt := 17) hx hb dX12_isSmall_13 (by decide) ?_
      exact M_isSmall_17_w C (1 : Int32) u _ _ _ hf hw (lv_sub hl [] rfl)
/-! X12_isDigit -/
theorem dX12_isDigit_0 : decode cX12_isDigit 0 = .ok (.iload_n 0, 1) := by decide +kernel
theorem dX12_isDigit_1 : decode cX12_isDigit 1 = .ok (.bipush 48, 2) := by decide +kernel
theorem dX12_isDigit_3 : decode cX12_isDigit 3 = .ok (.if_icmp .lt 13, 3) := by decide +kernel
theorem dX12_isDigit_6 : decode cX12_isDigit 6 = .ok (.iload_n 0, 1) := by decide +kernel
theorem dX12_isDigit_7 : decode cX12_isDigit 7 = .ok (.bipush 57, 2) := by decide +kernel
theorem dX12_isDigit_9 : decode cX12_isDigit 9 = .ok (.if_icmp .gt 7, 3) := by decide +kernel
theorem dX12_isDigit_12 : decode cX12_isDigit 12 = .ok (.iconst 1, 1) := by decide +kernel
theorem dX12_isDigit_13 : decode cX12_isDigit 13 = .ok (.goto 4, 3) := by decide +kernel
theorem dX12_isDigit_16 : decode cX12_isDigit 16 = .ok (.iconst 0, 1) := by decide +kernel
theorem dX12_isDigit_17 : decode cX12_isDigit 17 = .ok (.ireturn, 1) := by decide +kernel
def M_isDigit_17 (K : Int32 → th_St → Prop) (z0 : Int32) (u : th_St) : Prop :=
  ((z0 = 0 ∨ z0 = 1) ∧ K z0 u)
set_option maxHeartbeats 4000000 in
set_option maxRecDepth 100000 in
theorem M_isDigit_17_w {K : Int32 → th_St → Prop} (C : th_Cx p s m args meth c cX12_isDigit RX12 1 (some .boolean) (dC, dI) (th_ty cs) th_E0 A) (z0 : Int32) (u : th_St) (H : Heap) (locs : List Loc) (ls : Array Slot) (hf : M_isDigit_17 K z0 u) (hw : th_wI (dC, dI) (wM cs q) A s.heap u H locs) (hl : lv_has ls 1 []) : W p l e (th_rm 0 0 0) s m args below meth c H locs 0 0 (MQ below (va_Qi K (th_Post (dC, dI) (wM cs q) A) A) args s 0 0 A) (F0 m 17 ls [.int z0]) := by
  have hx := C.1
  have hb := C.2.1
  unfold M_isDigit_17 at hf
  exact th_zret C hw hf dX12_isDigit_17
def M_isDigit_16 (K : Int32 → th_St → Prop) (u : th_St) : Prop :=
  M_isDigit_17 K (0 : Int32) u
set_option maxHeartbeats 4000000 in
set_option maxRecDepth 100000 in
theorem M_isDigit_16_w {K : Int32 → th_St → Prop} (C : th_Cx p s m args meth c cX12_isDigit RX12 1 (some .boolean) (dC, dI) (th_ty cs) th_E0 A) (u : th_St) (H : Heap) (locs : List Loc) (ls : Array Slot) (hf : M_isDigit_16 K u) (hw : th_wI (dC, dI) (wM cs q) A s.heap u H locs) (hl : lv_has ls 1 []) : W p l e (th_rm 0 0 0) s m args below meth c H locs 0 0 (MQ below (va_Qi K (th_Post (dC, dI) (wM cs q) A) A) args s 0 0 A) (F0 m 16 ls []) := by
  have hx := C.1
  have hb := C.2.1
  unfold M_isDigit_16 at hf
  refine lv_iconst (v := (0 : Int32)) hx hb dX12_isDigit_16 (by decide) ?_
  exact M_isDigit_17_w C (0 : Int32) u _ _ _ hf hw (lv_sub hl [] rfl)
def M_isDigit (a1 : Int32) (u : th_St) (K : Int32 → th_St → Prop) : Prop :=
  ((a1 < (48 : Int32) → M_isDigit_16 K u) ∧ (¬ a1 < (48 : Int32) → (((57 : Int32) < a1 → M_isDigit_16 K u) ∧ (¬ (57 : Int32) < a1 → M_isDigit_17 K (1 : Int32) u))))
set_option maxHeartbeats 4000000 in
set_option maxRecDepth 100000 in
theorem M_isDigit_c {l : Launch} {dC : Nat → ClassId} {dI : Nat → Nat → Nat} {cs : Nat → ClassId} {q : Nat → Nat} {a1 : Int32} {u : th_St} {K : Int32 → th_St → Prop} (hf : M_isDigit a1 u K) : th_Ci l yX12_isDigit cX12_isDigit 1 (some .boolean) 0 0 0 (dC, dI) (th_ty cs) th_E0 (wM cs q) [.int a1] u K := by
  refine th_ofi (by decide) (Nat.le_of_ble_eq_true rfl) th_E0_ok ?_
  intro p e s m below meth c A ls C hw hl
  have C : th_Cx p s m _ meth c cX12_isDigit RX12 1 (some .boolean) (dC, dI) (th_ty cs) th_E0 A := C
  have hl : lv_has ls 1 [(0, .int a1)] := hl
  generalize (List.toArray _ : Array Value) = args at C ⊢
  have hx := C.1
  have hb := C.2.1
  unfold M_isDigit at hf
  refine lv_iload_n hx hb dX12_isDigit_0 rfl (lv_at hl 0 rfl) ?_
  refine lv_bipush (v := (48 : Int32)) hx hb dX12_isDigit_1 (by decide) ?_
  refine lv_icmp_lt (tgt := 16) hx hb dX12_isDigit_3 (by decide) (fun hc => ?_) (fun hc => ?_)
  · replace hf := hf.1 hc
    clear hc
    exact M_isDigit_16_w C  u _ _ _ hf hw (lv_sub hl [] rfl)
  · replace hf := hf.2 hc
    clear hc
    refine lv_iload_n hx hb dX12_isDigit_6 rfl (lv_at hl 0 rfl) ?_
    refine lv_bipush (v := (57 : Int32)) hx hb dX12_isDigit_7 (by decide) ?_
    refine lv_icmp_gt (tgt := 16) hx hb dX12_isDigit_9 (by decide) (fun hc => ?_) (fun hc => ?_)
    · replace hf := hf.1 hc
      clear hc
      exact M_isDigit_16_w C  u _ _ _ hf hw (lv_sub hl [] rfl)
    · replace hf := hf.2 hc
      clear hc
      refine lv_iconst (v := (1 : Int32)) hx hb dX12_isDigit_12 (by decide) ?_
      refine lv_goto (tgt := 17) hx hb dX12_isDigit_13 (by decide) ?_
      exact M_isDigit_17_w C (1 : Int32) u _ _ _ hf hw (lv_sub hl [] rfl)
/-! X12_bad -/
theorem dX12_bad_0 : decode cX12_bad 0 = .ok (.aload_n 0, 1) := by decide +kernel
theorem dX12_bad_1 : decode cX12_bad 1 = .ok (.iload_n 1, 1) := by decide +kernel
theorem dX12_bad_2 : decode cX12_bad 2 = .ok (.putfield 170, 3) := by decide +kernel
theorem dX12_bad_5 : decode cX12_bad 5 = .ok (.aload_n 0, 1) := by decide +kernel
theorem dX12_bad_6 : decode cX12_bad 6 = .ok (.aload_n 0, 1) := by decide +kernel
theorem dX12_bad_7 : decode cX12_bad 7 = .ok (.getfield 192, 3) := by decide +kernel
theorem dX12_bad_10 : decode cX12_bad 10 = .ok (.putfield 186, 3) := by decide +kernel
theorem dX12_bad_13 : decode cX12_bad 13 = .ok (.iconst 0, 1) := by decide +kernel
theorem dX12_bad_14 : decode cX12_bad 14 = .ok (.ireturn, 1) := by decide +kernel
def M_bad (a1 : Int32) (u : th_St) (K : Int32 → th_St → Prop) : Prop :=
  ∀ u_1 : th_St, u_1 = th_si u 28 a1 → ∀ u_2 : th_St, u_2 = th_si u_1 29 (u_1.1 25) → (((0 : Int32) = 0 ∨ (0 : Int32) = 1) ∧ K (0 : Int32) u_2)
set_option maxHeartbeats 4000000 in
set_option maxRecDepth 100000 in
theorem M_bad_c {l : Launch} {dC : Nat → ClassId} {dI : Nat → Nat → Nat} {cs : Nat → ClassId} {q : Nat → Nat} {a1 : Int32} {u : th_St} {K : Int32 → th_St → Prop} (hf : M_bad a1 u K) : th_Ci l yX12_bad cX12_bad 2 (some .boolean) 0 0 0 (dC, dI) (th_ty cs) th_E0 (wM cs q) [.ref (q 0), .int a1] u K := by
  refine th_ofi (by decide) (Nat.le_of_ble_eq_true rfl) th_E0_ok ?_
  intro p e s m below meth c A ls C hw hl
  have C : th_Cx p s m _ meth c cX12_bad RX12 2 (some .boolean) (dC, dI) (th_ty cs) th_E0 A := C
  have hl : lv_has ls 2 [(0, .ref (q 0)), (1, .int a1)] := hl
  generalize (List.toArray _ : Array Value) = args at C ⊢
  have hx := C.1
  have hb := C.2.1
  unfold M_bad at hf
  refine lv_aload_n hx hb dX12_bad_0 rfl (lv_at hl 0 rfl) ?_
  refine lv_iload_n hx hb dX12_bad_1 rfl (lv_at hl 1 rfl) ?_
  refine mp_28 C hw dX12_bad_2 (fun u_1 e9 H locs hw => ?_)
  replace hf := hf u_1 e9
  clear e9
  refine lv_aload_n hx hb dX12_bad_5 rfl (lv_at hl 0 rfl) ?_
  refine lv_aload_n hx hb dX12_bad_6 rfl (lv_at hl 0 rfl) ?_
  refine mg_25 C hw dX12_bad_7 ?_
  refine mp_29 C hw dX12_bad_10 (fun u_2 e9 H locs hw => ?_)
  replace hf := hf u_2 e9
  clear e9
  refine lv_iconst (v := (0 : Int32)) hx hb dX12_bad_13 (by decide) ?_
  exact th_zret C hw hf dX12_bad_14
/-! X12_isWord -/
theorem dX12_isWord_0 : decode cX12_isWord 0 = .ok (.aload_n 0, 1) := by decide +kernel
theorem dX12_isWord_1 : decode cX12_isWord 1 = .ok (.getfield 198, 3) := by decide +kernel
theorem dX12_isWord_4 : decode cX12_isWord 4 = .ok (.iconst 1, 1) := by decide +kernel
theorem dX12_isWord_5 : decode cX12_isWord 5 = .ok (.if_icmp .ne 16, 3) := by decide +kernel
theorem dX12_isWord_8 : decode cX12_isWord 8 = .ok (.aload_n 0, 1) := by decide +kernel
theorem dX12_isWord_9 : decode cX12_isWord 9 = .ok (.getfield 211, 3) := by decide +kernel
theorem dX12_isWord_12 : decode cX12_isWord 12 = .ok (.lload_n 1, 1) := by decide +kernel
theorem dX12_isWord_13 : decode cX12_isWord 13 = .ok (.lcmp, 1) := by decide +kernel
theorem dX12_isWord_14 : decode cX12_isWord 14 = .ok (.ifCond .ne 7, 3) := by decide +kernel
theorem dX12_isWord_17 : decode cX12_isWord 17 = .ok (.iconst 1, 1) := by decide +kernel
theorem dX12_isWord_18 : decode cX12_isWord 18 = .ok (.goto 4, 3) := by decide +kernel
theorem dX12_isWord_21 : decode cX12_isWord 21 = .ok (.iconst 0, 1) := by decide +kernel
theorem dX12_isWord_22 : decode cX12_isWord 22 = .ok (.ireturn, 1) := by decide +kernel
def M_isWord_22 (K : Int32 → th_St → Prop) (z0 : Int32) (u : th_St) : Prop :=
  ((z0 = 0 ∨ z0 = 1) ∧ K z0 u)
set_option maxHeartbeats 4000000 in
set_option maxRecDepth 100000 in
theorem M_isWord_22_w {K : Int32 → th_St → Prop} (C : th_Cx p s m args meth c cX12_isWord RX12 3 (some .boolean) (dC, dI) (th_ty cs) th_E0 A) (z0 : Int32) (u : th_St) (H : Heap) (locs : List Loc) (ls : Array Slot) (hf : M_isWord_22 K z0 u) (hw : th_wI (dC, dI) (wM cs q) A s.heap u H locs) (hl : lv_has ls 3 []) : W p l e (th_rm 0 0 0) s m args below meth c H locs 0 0 (MQ below (va_Qi K (th_Post (dC, dI) (wM cs q) A) A) args s 0 0 A) (F0 m 22 ls [.int z0]) := by
  have hx := C.1
  have hb := C.2.1
  unfold M_isWord_22 at hf
  exact th_zret C hw hf dX12_isWord_22
def M_isWord_21 (K : Int32 → th_St → Prop) (u : th_St) : Prop :=
  M_isWord_22 K (0 : Int32) u
set_option maxHeartbeats 4000000 in
set_option maxRecDepth 100000 in
theorem M_isWord_21_w {K : Int32 → th_St → Prop} (C : th_Cx p s m args meth c cX12_isWord RX12 3 (some .boolean) (dC, dI) (th_ty cs) th_E0 A) (u : th_St) (H : Heap) (locs : List Loc) (ls : Array Slot) (hf : M_isWord_21 K u) (hw : th_wI (dC, dI) (wM cs q) A s.heap u H locs) (hl : lv_has ls 3 []) : W p l e (th_rm 0 0 0) s m args below meth c H locs 0 0 (MQ below (va_Qi K (th_Post (dC, dI) (wM cs q) A) A) args s 0 0 A) (F0 m 21 ls []) := by
  have hx := C.1
  have hb := C.2.1
  unfold M_isWord_21 at hf
  refine lv_iconst (v := (0 : Int32)) hx hb dX12_isWord_21 (by decide) ?_
  exact M_isWord_22_w C (0 : Int32) u _ _ _ hf hw (lv_sub hl [] rfl)
def M_isWord (a1 : Int64) (u : th_St) (K : Int32 → th_St → Prop) : Prop :=
  ((¬ (u.1 24) = (1 : Int32) → M_isWord_21 K u) ∧ ((u.1 24) = (1 : Int32) → ((¬ (lg_cmp (u.2.1 32) a1) = 0 → M_isWord_21 K u) ∧ ((lg_cmp (u.2.1 32) a1) = 0 → M_isWord_22 K (1 : Int32) u))))
set_option maxHeartbeats 4000000 in
set_option maxRecDepth 100000 in
theorem M_isWord_c {l : Launch} {dC : Nat → ClassId} {dI : Nat → Nat → Nat} {cs : Nat → ClassId} {q : Nat → Nat} {a1 : Int64} {u : th_St} {K : Int32 → th_St → Prop} (hf : M_isWord a1 u K) : th_Ci l yX12_isWord cX12_isWord 3 (some .boolean) 0 0 0 (dC, dI) (th_ty cs) th_E0 (wM cs q) [.ref (q 0), .long a1] u K := by
  refine th_ofi (by decide) (Nat.le_of_ble_eq_true rfl) th_E0_ok ?_
  intro p e s m below meth c A ls C hw hl
  have C : th_Cx p s m _ meth c cX12_isWord RX12 3 (some .boolean) (dC, dI) (th_ty cs) th_E0 A := C
  have hl : lv_has ls 3 [(0, .ref (q 0)), (1, .long a1)] := hl
  generalize (List.toArray _ : Array Value) = args at C ⊢
  have hx := C.1
  have hb := C.2.1
  unfold M_isWord at hf
  refine lv_aload_n hx hb dX12_isWord_0 rfl (lv_at hl 0 rfl) ?_
  refine mg_24 C hw dX12_isWord_1 ?_
  refine lv_iconst (v := (1 : Int32)) hx hb dX12_isWord_4 (by decide) ?_
  refine lv_icmp_ne (tgt := 21) hx hb dX12_isWord_5 (by decide) (fun hc => ?_) (fun hc => ?_)
  · replace hf := hf.1 hc
    clear hc
    exact M_isWord_21_w C  u _ _ _ hf hw (lv_sub hl [] rfl)
  · replace hf := hf.2 hc
    clear hc
    refine lv_aload_n hx hb dX12_isWord_8 rfl (lv_at hl 0 rfl) ?_
    refine mg_32 C hw dX12_isWord_9 ?_
    refine lv_lload_n hx hb dX12_isWord_12 rfl (lv_at hl 1 rfl) ?_
    refine W.lcmp hx hb dX12_isWord_13 ?_
    refine lv_if_ne (tgt := 21) hx hb dX12_isWord_14 (by decide) (fun hc => ?_) (fun hc => ?_)
    · replace hf := hf.1 hc
      clear hc
      exact M_isWord_21_w C  u _ _ _ hf hw (lv_sub hl [] rfl)
    · replace hf := hf.2 hc
      clear hc
      refine lv_iconst (v := (1 : Int32)) hx hb dX12_isWord_17 (by decide) ?_
      refine lv_goto (tgt := 22) hx hb dX12_isWord_18 (by decide) ?_
      exact M_isWord_22_w C (1 : Int32) u _ _ _ hf hw (lv_sub hl [] rfl)
/-! X12_isSign -/
theorem dX12_isSign_0 : decode cX12_isSign 0 = .ok (.aload_n 0, 1) := by decide +kernel
theorem dX12_isSign_1 : decode cX12_isSign 1 = .ok (.getfield 198, 3) := by decide +kernel
theorem dX12_isSign_4 : decode cX12_isSign 4 = .ok (.iconst 3, 1) := by decide +kernel
theorem dX12_isSign_5 : decode cX12_isSign 5 = .ok (.if_icmp .ne 15, 3) := by decide +kernel
theorem dX12_isSign_8 : decode cX12_isSign 8 = .ok (.aload_n 0, 1) := by decide +kernel
theorem dX12_isSign_9 : decode cX12_isSign 9 = .ok (.getfield 208, 3) := by decide +kernel
theorem dX12_isSign_12 : decode cX12_isSign 12 = .ok (.iload_n 1, 1) := by decide +kernel
theorem dX12_isSign_13 : decode cX12_isSign 13 = .ok (.if_icmp .ne 7, 3) := by decide +kernel
theorem dX12_isSign_16 : decode cX12_isSign 16 = .ok (.iconst 1, 1) := by decide +kernel
theorem dX12_isSign_17 : decode cX12_isSign 17 = .ok (.goto 4, 3) := by decide +kernel
theorem dX12_isSign_20 : decode cX12_isSign 20 = .ok (.iconst 0, 1) := by decide +kernel
theorem dX12_isSign_21 : decode cX12_isSign 21 = .ok (.ireturn, 1) := by decide +kernel
def M_isSign_21 (K : Int32 → th_St → Prop) (z0 : Int32) (u : th_St) : Prop :=
  ((z0 = 0 ∨ z0 = 1) ∧ K z0 u)
set_option maxHeartbeats 4000000 in
set_option maxRecDepth 100000 in
theorem M_isSign_21_w {K : Int32 → th_St → Prop} (C : th_Cx p s m args meth c cX12_isSign RX12 2 (some .boolean) (dC, dI) (th_ty cs) th_E0 A) (z0 : Int32) (u : th_St) (H : Heap) (locs : List Loc) (ls : Array Slot) (hf : M_isSign_21 K z0 u) (hw : th_wI (dC, dI) (wM cs q) A s.heap u H locs) (hl : lv_has ls 2 []) : W p l e (th_rm 0 0 0) s m args below meth c H locs 0 0 (MQ below (va_Qi K (th_Post (dC, dI) (wM cs q) A) A) args s 0 0 A) (F0 m 21 ls [.int z0]) := by
  have hx := C.1
  have hb := C.2.1
  unfold M_isSign_21 at hf
  exact th_zret C hw hf dX12_isSign_21
def M_isSign_20 (K : Int32 → th_St → Prop) (u : th_St) : Prop :=
  M_isSign_21 K (0 : Int32) u
set_option maxHeartbeats 4000000 in
set_option maxRecDepth 100000 in
theorem M_isSign_20_w {K : Int32 → th_St → Prop} (C : th_Cx p s m args meth c cX12_isSign RX12 2 (some .boolean) (dC, dI) (th_ty cs) th_E0 A) (u : th_St) (H : Heap) (locs : List Loc) (ls : Array Slot) (hf : M_isSign_20 K u) (hw : th_wI (dC, dI) (wM cs q) A s.heap u H locs) (hl : lv_has ls 2 []) : W p l e (th_rm 0 0 0) s m args below meth c H locs 0 0 (MQ below (va_Qi K (th_Post (dC, dI) (wM cs q) A) A) args s 0 0 A) (F0 m 20 ls []) := by
  have hx := C.1
  have hb := C.2.1
  unfold M_isSign_20 at hf
  refine lv_iconst (v := (0 : Int32)) hx hb dX12_isSign_20 (by decide) ?_
  exact M_isSign_21_w C (0 : Int32) u _ _ _ hf hw (lv_sub hl [] rfl)
def M_isSign (a1 : Int32) (u : th_St) (K : Int32 → th_St → Prop) : Prop :=
  ((¬ (u.1 24) = (3 : Int32) → M_isSign_20 K u) ∧ ((u.1 24) = (3 : Int32) → ((¬ (u.1 27) = a1 → M_isSign_20 K u) ∧ ((u.1 27) = a1 → M_isSign_21 K (1 : Int32) u))))
set_option maxHeartbeats 4000000 in
set_option maxRecDepth 100000 in
theorem M_isSign_c {l : Launch} {dC : Nat → ClassId} {dI : Nat → Nat → Nat} {cs : Nat → ClassId} {q : Nat → Nat} {a1 : Int32} {u : th_St} {K : Int32 → th_St → Prop} (hf : M_isSign a1 u K) : th_Ci l yX12_isSign cX12_isSign 2 (some .boolean) 0 0 0 (dC, dI) (th_ty cs) th_E0 (wM cs q) [.ref (q 0), .int a1] u K := by
  refine th_ofi (by decide) (Nat.le_of_ble_eq_true rfl) th_E0_ok ?_
  intro p e s m below meth c A ls C hw hl
  have C : th_Cx p s m _ meth c cX12_isSign RX12 2 (some .boolean) (dC, dI) (th_ty cs) th_E0 A := C
  have hl : lv_has ls 2 [(0, .ref (q 0)), (1, .int a1)] := hl
  generalize (List.toArray _ : Array Value) = args at C ⊢
  have hx := C.1
  have hb := C.2.1
  unfold M_isSign at hf
  refine lv_aload_n hx hb dX12_isSign_0 rfl (lv_at hl 0 rfl) ?_
  refine mg_24 C hw dX12_isSign_1 ?_
  refine lv_iconst (v := (3 : Int32)) hx hb dX12_isSign_4 (by decide) ?_
  refine lv_icmp_ne (tgt := 20) hx hb dX12_isSign_5 (by decide) (fun hc => ?_) (fun hc => ?_)
  · replace hf := hf.1 hc
    clear hc
    exact M_isSign_20_w C  u _ _ _ hf hw (lv_sub hl [] rfl)
  · replace hf := hf.2 hc
    clear hc
    refine lv_aload_n hx hb dX12_isSign_8 rfl (lv_at hl 0 rfl) ?_
    refine mg_27 C hw dX12_isSign_9 ?_
    refine lv_iload_n hx hb dX12_isSign_12 rfl (lv_at hl 1 rfl) ?_
    refine lv_icmp_ne (tgt := 20) hx hb dX12_isSign_13 (by decide) (fun hc => ?_) (fun hc => ?_)
    · replace hf := hf.1 hc
      clear hc
      exact M_isSign_20_w C  u _ _ _ hf hw (lv_sub hl [] rfl)
    · replace hf := hf.2 hc
      clear hc
      refine lv_iconst (v := (1 : Int32)) hx hb dX12_isSign_16 (by decide) ?_
      refine lv_goto (tgt := 21) hx hb dX12_isSign_17 (by decide) ?_
      exact M_isSign_21_w C (1 : Int32) u _ _ _ hf hw (lv_sub hl [] rfl)
/-! X12_atom -/
theorem dX12_atom_0 : decode cX12_atom 0 = .ok (.aload_n 0, 1) := by decide +kernel
theorem dX12_atom_1 : decode cX12_atom 1 = .ok (.getfield 198, 3) := by decide +kernel
theorem dX12_atom_4 : decode cX12_atom 4 = .ok (.iconst 1, 1) := by decide +kernel
theorem dX12_atom_5 : decode cX12_atom 5 = .ok (.if_icmp .eq 5, 3) := by decide +kernel
theorem dX12_atom_8 : decode cX12_atom 8 = .ok (.iconst (-1), 1) := by decide +kernel
theorem dX12_atom_9 : decode cX12_atom 9 = .ok (.ireturn, 1) := by decide +kernel
theorem dX12_atom_10 : decode cX12_atom 10 = .ok (.aload_n 0, 1) := by decide +kernel
theorem dX12_atom_11 : decode cX12_atom 11 = .ok (.getfield 211, 3) := by decide +kernel
theorem dX12_atom_14 : decode cX12_atom 14 = .ok (.ldc2_w 268, 3) := by decide +kernel
theorem dX12_atom_17 : decode cX12_atom 17 = .ok (.lcmp, 1) := by decide +kernel
theorem dX12_atom_18 : decode cX12_atom 18 = .ok (.ifCond .ne 7, 3) := by decide +kernel
theorem dX12_atom_21 : decode cX12_atom 21 = .ok (.iconst 0, 1) := by decide +kernel
theorem dX12_atom_22 : decode cX12_atom 22 = .ok (.goto 64, 3) := by decide +kernel
theorem dX12_atom_25 : decode cX12_atom 25 = .ok (.aload_n 0, 1) := by decide +kernel
theorem dX12_atom_26 : decode cX12_atom 26 = .ok (.getfield 211, 3) := by decide +kernel
theorem dX12_atom_29 : decode cX12_atom 29 = .ok (.ldc2_w 270, 3) := by decide +kernel
theorem dX12_atom_32 : decode cX12_atom 32 = .ok (.lcmp, 1) := by decide +kernel
theorem dX12_atom_33 : decode cX12_atom 33 = .ok (.ifCond .ne 7, 3) := by decide +kernel
theorem dX12_atom_36 : decode cX12_atom 36 = .ok (.iconst 1, 1) := by decide +kernel
theorem dX12_atom_37 : decode cX12_atom 37 = .ok (.goto 49, 3) := by decide +kernel
theorem dX12_atom_40 : decode cX12_atom 40 = .ok (.aload_n 0, 1) := by decide +kernel
theorem dX12_atom_41 : decode cX12_atom 41 = .ok (.getfield 211, 3) := by decide +kernel
theorem dX12_atom_44 : decode cX12_atom 44 = .ok (.ldc2_w 272, 3) := by decide +kernel
theorem dX12_atom_47 : decode cX12_atom 47 = .ok (.lcmp, 1) := by decide +kernel
theorem dX12_atom_48 : decode cX12_atom 48 = .ok (.ifCond .ne 7, 3) := by decide +kernel
theorem dX12_atom_51 : decode cX12_atom 51 = .ok (.iconst 2, 1) := by decide +kernel
theorem dX12_atom_52 : decode cX12_atom 52 = .ok (.goto 34, 3) := by decide +kernel
theorem dX12_atom_55 : decode cX12_atom 55 = .ok (.aload_n 0, 1) := by decide +kernel
theorem dX12_atom_56 : decode cX12_atom 56 = .ok (.getfield 211, 3) := by decide +kernel
theorem dX12_atom_59 : decode cX12_atom 59 = .ok (.ldc2_w 274, 3) := by decide +kernel
theorem dX12_atom_62 : decode cX12_atom 62 = .ok (.lcmp, 1) := by decide +kernel
theorem dX12_atom_63 : decode cX12_atom 63 = .ok (.ifCond .ne 7, 3) := by decide +kernel
theorem dX12_atom_66 : decode cX12_atom 66 = .ok (.iconst 3, 1) := by decide +kernel
theorem dX12_atom_67 : decode cX12_atom 67 = .ok (.goto 19, 3) := by decide +kernel
theorem dX12_atom_70 : decode cX12_atom 70 = .ok (.aload_n 0, 1) := by decide +kernel
theorem dX12_atom_71 : decode cX12_atom 71 = .ok (.getfield 211, 3) := by decide +kernel
theorem dX12_atom_74 : decode cX12_atom 74 = .ok (.ldc2_w 276, 3) := by decide +kernel
theorem dX12_atom_77 : decode cX12_atom 77 = .ok (.lcmp, 1) := by decide +kernel
theorem dX12_atom_78 : decode cX12_atom 78 = .ok (.ifCond .ne 7, 3) := by decide +kernel
theorem dX12_atom_81 : decode cX12_atom 81 = .ok (.iconst 4, 1) := by decide +kernel
theorem dX12_atom_82 : decode cX12_atom 82 = .ok (.goto 4, 3) := by decide +kernel
theorem dX12_atom_85 : decode cX12_atom 85 = .ok (.iconst (-1), 1) := by decide +kernel
theorem dX12_atom_86 : decode cX12_atom 86 = .ok (.ireturn, 1) := by decide +kernel
def M_atom_86 (K : Int32 → th_St → Prop) (z0 : Int32) (u : th_St) : Prop :=
  K z0 u
set_option maxHeartbeats 4000000 in
set_option maxRecDepth 100000 in
theorem M_atom_86_w {K : Int32 → th_St → Prop} (C : th_Cx p s m args meth c cX12_atom RX12 1 (some .int) (dC, dI) (th_ty cs) th_E0 A) (z0 : Int32) (u : th_St) (H : Heap) (locs : List Loc) (ls : Array Slot) (hf : M_atom_86 K z0 u) (hw : th_wI (dC, dI) (wM cs q) A s.heap u H locs) (hl : lv_has ls 1 []) : W p l e (th_rm 0 0 0) s m args below meth c H locs 0 0 (MQ below (va_Qi K (th_Post (dC, dI) (wM cs q) A) A) args s 0 0 A) (F0 m 86 ls [.int z0]) := by
  have hx := C.1
  have hb := C.2.1
  unfold M_atom_86 at hf
  exact th_iret C hw hf dX12_atom_86
def M_atom (u : th_St) (K : Int32 → th_St → Prop) : Prop :=
  (((u.1 24) = (1 : Int32) → ((¬ (lg_cmp (u.2.1 32) (1885692267 : Int64)) = 0 → ((¬ (lg_cmp (u.2.1 32) (7566701 : Int64)) = 0 → ((¬ (lg_cmp (u.2.1 32) (495740088435 : Int64)) = 0 → ((¬ (lg_cmp (u.2.1 32) (1752135026 : Int64)) = 0 → ((¬ (lg_cmp (u.2.1 32) (24948 : Int64)) = 0 → M_atom_86 K (-1 : Int32) u) ∧ ((lg_cmp (u.2.1 32) (24948 : Int64)) = 0 → M_atom_86 K (4 : Int32) u))) ∧ ((lg_cmp (u.2.1 32) (1752135026 : Int64)) = 0 → M_atom_86 K (3 : Int32) u))) ∧ ((lg_cmp (u.2.1 32) (495740088435 : Int64)) = 0 → M_atom_86 K (2 : Int32) u))) ∧ ((lg_cmp (u.2.1 32) (7566701 : Int64)) = 0 → M_atom_86 K (1 : Int32) u))) ∧ ((lg_cmp (u.2.1 32) (1885692267 : Int64)) = 0 → M_atom_86 K (0 : Int32) u))) ∧ (¬ (u.1 24) = (1 : Int32) → K (-1 : Int32) u))
set_option maxHeartbeats 4000000 in
set_option maxRecDepth 100000 in
theorem M_atom_c {l : Launch} {dC : Nat → ClassId} {dI : Nat → Nat → Nat} {cs : Nat → ClassId} {q : Nat → Nat} {u : th_St} {K : Int32 → th_St → Prop} (hf : M_atom u K) : th_Ci l yX12_atom cX12_atom 1 (some .int) 0 0 0 (dC, dI) (th_ty cs) th_E0 (wM cs q) [.ref (q 0)] u K := by
  refine th_ofi (by decide) (Nat.le_of_ble_eq_true rfl) th_E0_ok ?_
  intro p e s m below meth c A ls C hw hl
  have C : th_Cx p s m _ meth c cX12_atom RX12 1 (some .int) (dC, dI) (th_ty cs) th_E0 A := C
  have hl : lv_has ls 1 [(0, .ref (q 0))] := hl
  generalize (List.toArray _ : Array Value) = args at C ⊢
  have hx := C.1
  have hb := C.2.1
  unfold M_atom at hf
  refine lv_aload_n hx hb dX12_atom_0 rfl (lv_at hl 0 rfl) ?_
  refine mg_24 C hw dX12_atom_1 ?_
  refine lv_iconst (v := (1 : Int32)) hx hb dX12_atom_4 (by decide) ?_
  refine lv_icmp_eq (tgt := 10) hx hb dX12_atom_5 (by decide) (fun hc => ?_) (fun hc => ?_)
  · replace hf := hf.1 hc
    clear hc
    refine lv_aload_n hx hb dX12_atom_10 rfl (lv_at hl 0 rfl) ?_
    refine mg_32 C hw dX12_atom_11 ?_
    refine lv_ldc2 hx hb C.2.2.2.1 (C.2.2.2.2.1 _ hwK_X12_268) dX12_atom_14 ?_
    refine W.lcmp hx hb dX12_atom_17 ?_
    refine lv_if_ne (tgt := 25) hx hb dX12_atom_18 (by decide) (fun hc => ?_) (fun hc => ?_)
    · replace hf := hf.1 hc
      clear hc
      refine lv_aload_n hx hb dX12_atom_25 rfl (lv_at hl 0 rfl) ?_
      refine mg_32 C hw dX12_atom_26 ?_
      refine lv_ldc2 hx hb C.2.2.2.1 (C.2.2.2.2.1 _ hwK_X12_270) dX12_atom_29 ?_
      refine W.lcmp hx hb dX12_atom_32 ?_
      refine lv_if_ne (tgt := 40) hx hb dX12_atom_33 (by decide) (fun hc => ?_) (fun hc => ?_)
      · replace hf := hf.1 hc
        clear hc
        refine lv_aload_n hx hb dX12_atom_40 rfl (lv_at hl 0 rfl) ?_
        refine mg_32 C hw dX12_atom_41 ?_
        refine lv_ldc2 hx hb C.2.2.2.1 (C.2.2.2.2.1 _ hwK_X12_272) dX12_atom_44 ?_
        refine W.lcmp hx hb dX12_atom_47 ?_
        refine lv_if_ne (tgt := 55) hx hb dX12_atom_48 (by decide) (fun hc => ?_) (fun hc => ?_)
        · replace hf := hf.1 hc
          clear hc
          refine lv_aload_n hx hb dX12_atom_55 rfl (lv_at hl 0 rfl) ?_
          refine mg_32 C hw dX12_atom_56 ?_
          refine lv_ldc2 hx hb C.2.2.2.1 (C.2.2.2.2.1 _ hwK_X12_274) dX12_atom_59 ?_
          refine W.lcmp hx hb dX12_atom_62 ?_
          refine lv_if_ne (tgt := 70) hx hb dX12_atom_63 (by decide) (fun hc => ?_) (fun hc => ?_)
          · replace hf := hf.1 hc
            clear hc
            refine lv_aload_n hx hb dX12_atom_70 rfl (lv_at hl 0 rfl) ?_
            refine mg_32 C hw dX12_atom_71 ?_
            refine lv_ldc2 hx hb C.2.2.2.1 (C.2.2.2.2.1 _ hwK_X12_276) dX12_atom_74 ?_
            refine W.lcmp hx hb dX12_atom_77 ?_
            refine lv_if_ne (tgt := 85) hx hb dX12_atom_78 (by decide) (fun hc => ?_) (fun hc => ?_)
            · replace hf := hf.1 hc
              clear hc
              refine lv_iconst (v := (-1 : Int32)) hx hb dX12_atom_85 (by decide) ?_
              exact M_atom_86_w C (-1 : Int32) u _ _ _ hf hw (lv_sub hl [] rfl)
            · replace hf := hf.2 hc
              clear hc
              refine lv_iconst (v := (4 : Int32)) hx hb dX12_atom_81 (by decide) ?_
              refine lv_goto (tgt := 86) hx hb dX12_atom_82 (by decide) ?_
              exact M_atom_86_w C (4 : Int32) u _ _ _ hf hw (lv_sub hl [] rfl)
          · replace hf := hf.2 hc
            clear hc
            refine lv_iconst (v := (3 : Int32)) hx hb dX12_atom_66 (by decide) ?_
            refine lv_goto (tgt := 86) hx hb dX12_atom_67 (by decide) ?_
            exact M_atom_86_w C (3 : Int32) u _ _ _ hf hw (lv_sub hl [] rfl)
        · replace hf := hf.2 hc
          clear hc
          refine lv_iconst (v := (2 : Int32)) hx hb dX12_atom_51 (by decide) ?_
          refine lv_goto (tgt := 86) hx hb dX12_atom_52 (by decide) ?_
          exact M_atom_86_w C (2 : Int32) u _ _ _ hf hw (lv_sub hl [] rfl)
      · replace hf := hf.2 hc
        clear hc
        refine lv_iconst (v := (1 : Int32)) hx hb dX12_atom_36 (by decide) ?_
        refine lv_goto (tgt := 86) hx hb dX12_atom_37 (by decide) ?_
        exact M_atom_86_w C (1 : Int32) u _ _ _ hf hw (lv_sub hl [] rfl)
    · replace hf := hf.2 hc
      clear hc
      refine lv_iconst (v := (0 : Int32)) hx hb dX12_atom_21 (by decide) ?_
      refine lv_goto (tgt := 86) hx hb dX12_atom_22 (by decide) ?_
      exact M_atom_86_w C (0 : Int32) u _ _ _ hf hw (lv_sub hl [] rfl)
  · replace hf := hf.2 hc
    clear hc
    refine lv_iconst (v := (-1 : Int32)) hx hb dX12_atom_8 (by decide) ?_
    exact th_iret C hw hf dX12_atom_9
/-! X12_write -/
theorem dX12_write_0 : decode cX12_write 0 = .ok (.aload_n 0, 1) := by decide +kernel
theorem dX12_write_1 : decode cX12_write 1 = .ok (.getfield 69, 3) := by decide +kernel
theorem dX12_write_4 : decode cX12_write 4 = .ok (.sipush 200, 3) := by decide +kernel
theorem dX12_write_7 : decode cX12_write 7 = .ok (.aload_n 0, 1) := by decide +kernel
theorem dX12_write_8 : decode cX12_write 8 = .ok (.getfield 173, 3) := by decide +kernel
theorem dX12_write_11 : decode cX12_write 11 = .ok (.iadd, 1) := by decide +kernel
theorem dX12_write_12 : decode cX12_write 12 = .ok (.iload_n 1, 1) := by decide +kernel
theorem dX12_write_13 : decode cX12_write 13 = .ok (.iastore, 1) := by decide +kernel
theorem dX12_write_14 : decode cX12_write 14 = .ok (.aload_n 0, 1) := by decide +kernel
theorem dX12_write_15 : decode cX12_write 15 = .ok (.getfield 72, 3) := by decide +kernel
theorem dX12_write_18 : decode cX12_write 18 = .ok (.sipush 200, 3) := by decide +kernel
theorem dX12_write_21 : decode cX12_write 21 = .ok (.aload_n 0, 1) := by decide +kernel
theorem dX12_write_22 : decode cX12_write 22 = .ok (.getfield 173, 3) := by decide +kernel
theorem dX12_write_25 : decode cX12_write 25 = .ok (.iadd, 1) := by decide +kernel
theorem dX12_write_26 : decode cX12_write 26 = .ok (.iload_n 2, 1) := by decide +kernel
theorem dX12_write_27 : decode cX12_write 27 = .ok (.iastore, 1) := by decide +kernel
theorem dX12_write_28 : decode cX12_write 28 = .ok (.aload_n 0, 1) := by decide +kernel
theorem dX12_write_29 : decode cX12_write 29 = .ok (.getfield 75, 3) := by decide +kernel
theorem dX12_write_32 : decode cX12_write 32 = .ok (.sipush 200, 3) := by decide +kernel
theorem dX12_write_35 : decode cX12_write 35 = .ok (.aload_n 0, 1) := by decide +kernel
theorem dX12_write_36 : decode cX12_write 36 = .ok (.getfield 173, 3) := by decide +kernel
theorem dX12_write_39 : decode cX12_write 39 = .ok (.iadd, 1) := by decide +kernel
theorem dX12_write_40 : decode cX12_write 40 = .ok (.iload_n 3, 1) := by decide +kernel
theorem dX12_write_41 : decode cX12_write 41 = .ok (.iastore, 1) := by decide +kernel
theorem dX12_write_42 : decode cX12_write 42 = .ok (.aload_n 0, 1) := by decide +kernel
theorem dX12_write_43 : decode cX12_write 43 = .ok (.dup, 1) := by decide +kernel
theorem dX12_write_44 : decode cX12_write 44 = .ok (.getfield 173, 3) := by decide +kernel
theorem dX12_write_47 : decode cX12_write 47 = .ok (.iconst 1, 1) := by decide +kernel
theorem dX12_write_48 : decode cX12_write 48 = .ok (.iadd, 1) := by decide +kernel
theorem dX12_write_49 : decode cX12_write 49 = .ok (.putfield 173, 3) := by decide +kernel
theorem dX12_write_52 : decode cX12_write 52 = .ok (.return_, 1) := by decide +kernel
def M_write (a1 : Int32) (a2 : Int32) (a3 : Int32) (u : th_St) (K : th_St → Prop) : Prop :=
  (vp_in ((200 : Int32) + (u.1 21)) 400 ∧ ∀ u_1 : th_St, u_1 = th_sa u 16 (upd (u.2.2.1 16) (((200 : Int32) + (u.1 21))).toNatClampNeg a1) → (vp_in ((200 : Int32) + (u_1.1 21)) 400 ∧ ∀ u_2 : th_St, u_2 = th_sa u_1 17 (upd (u_1.2.2.1 17) (((200 : Int32) + (u_1.1 21))).toNatClampNeg a2) → (vp_in ((200 : Int32) + (u_2.1 21)) 400 ∧ ∀ u_3 : th_St, u_3 = th_sa u_2 18 (upd (u_2.2.2.1 18) (((200 : Int32) + (u_2.1 21))).toNatClampNeg a3) → ∀ u_4 : th_St, u_4 = th_si u_3 21 ((u_3.1 21) + (1 : Int32)) → K u_4)))
set_option maxHeartbeats 4000000 in
set_option maxRecDepth 100000 in
theorem M_write_c {l : Launch} {dC : Nat → ClassId} {dI : Nat → Nat → Nat} {cs : Nat → ClassId} {q : Nat → Nat} {a1 : Int32} {a2 : Int32} {a3 : Int32} {u : th_St} {K : th_St → Prop} (hf : M_write a1 a2 a3 u K) : th_Cv l yX12_write cX12_write 4 (none) 0 0 0 (dC, dI) (th_ty cs) th_E0 (wM cs q) [.ref (q 0), .int a1, .int a2, .int a3] u K := by
  refine th_ofv (by decide) (Nat.le_of_ble_eq_true rfl) th_E0_ok ?_
  intro p e s m below meth c A ls C hw hl
  have C : th_Cx p s m _ meth c cX12_write RX12 4 (none) (dC, dI) (th_ty cs) th_E0 A := C
  have hl : lv_has ls 4 [(0, .ref (q 0)), (1, .int a1), (2, .int a2), (3, .int a3)] := hl
  generalize (List.toArray _ : Array Value) = args at C ⊢
  have hx := C.1
  have hb := C.2.1
  unfold M_write at hf
  refine lv_aload_n hx hb dX12_write_0 rfl (lv_at hl 0 rfl) ?_
  refine mg_16 C hw dX12_write_1 ?_
  refine lv_sipush (v := (200 : Int32)) hx hb dX12_write_4 (by decide) ?_
  refine lv_aload_n hx hb dX12_write_7 rfl (lv_at hl 0 rfl) ?_
  refine mg_21 C hw dX12_write_8 ?_
  refine lv_iadd hx hb dX12_write_11 ?_
  refine lv_iload_n hx hb dX12_write_12 rfl (lv_at hl 1 rfl) ?_
  refine ms_16 C hw hf.1 dX12_write_13 (fun u_1 e9 H locs hw => ?_)
  replace hf := hf.2 u_1 e9
  clear e9
  refine lv_aload_n hx hb dX12_write_14 rfl (lv_at hl 0 rfl) ?_
  refine mg_17 C hw dX12_write_15 ?_
  refine lv_sipush (v := (200 : Int32)) hx hb dX12_write_18 (by decide) ?_
  refine lv_aload_n hx hb dX12_write_21 rfl (lv_at hl 0 rfl) ?_
  refine mg_21 C hw dX12_write_22 ?_
  refine lv_iadd hx hb dX12_write_25 ?_
  refine lv_iload_n hx hb dX12_write_26 rfl (lv_at hl 2 rfl) ?_
  refine ms_17 C hw hf.1 dX12_write_27 (fun u_2 e9 H locs hw => ?_)
  replace hf := hf.2 u_2 e9
  clear e9
  refine lv_aload_n hx hb dX12_write_28 rfl (lv_at hl 0 rfl) ?_
  refine mg_18 C hw dX12_write_29 ?_
  refine lv_sipush (v := (200 : Int32)) hx hb dX12_write_32 (by decide) ?_
  refine lv_aload_n hx hb dX12_write_35 rfl (lv_at hl 0 rfl) ?_
  refine mg_21 C hw dX12_write_36 ?_
  refine lv_iadd hx hb dX12_write_39 ?_
  refine lv_iload_n hx hb dX12_write_40 rfl (lv_at hl 3 rfl) ?_
  refine ms_18 C hw hf.1 dX12_write_41 (fun u_3 e9 H locs hw => ?_)
  replace hf := hf.2 u_3 e9
  clear e9
  refine lv_aload_n hx hb dX12_write_42 rfl (lv_at hl 0 rfl) ?_
  refine lv_dup hx hb dX12_write_43 rfl ?_
  refine mg_21 C hw dX12_write_44 ?_
  refine lv_iconst (v := (1 : Int32)) hx hb dX12_write_47 (by decide) ?_
  refine lv_iadd hx hb dX12_write_48 ?_
  refine mp_21 C hw dX12_write_49 (fun u_4 e9 H locs hw => ?_)
  replace hf := hf u_4 e9
  clear e9
  exact th_vret C hw hf dX12_write_52
/-! X12_binds -/
theorem dX12_binds_0 : decode cX12_binds 0 = .ok (.iload_n 0, 1) := by decide +kernel
theorem dX12_binds_1 : decode cX12_binds 1 = .ok (.bipush 10, 2) := by decide +kernel
theorem dX12_binds_3 : decode cX12_binds 3 = .ok (.if_icmp .ne 7, 3) := by decide +kernel
theorem dX12_binds_6 : decode cX12_binds 6 = .ok (.iconst 3, 1) := by decide +kernel
theorem dX12_binds_7 : decode cX12_binds 7 = .ok (.goto 14, 3) := by decide +kernel
theorem dX12_binds_10 : decode cX12_binds 10 = .ok (.iload_n 0, 1) := by decide +kernel
theorem dX12_binds_11 : decode cX12_binds 11 = .ok (.bipush 11, 2) := by decide +kernel
theorem dX12_binds_13 : decode cX12_binds 13 = .ok (.if_icmp .ne 7, 3) := by decide +kernel
theorem dX12_binds_16 : decode cX12_binds 16 = .ok (.iconst 2, 1) := by decide +kernel
theorem dX12_binds_17 : decode cX12_binds 17 = .ok (.goto 4, 3) := by decide +kernel
theorem dX12_binds_20 : decode cX12_binds 20 = .ok (.iconst 1, 1) := by decide +kernel
theorem dX12_binds_21 : decode cX12_binds 21 = .ok (.ireturn, 1) := by decide +kernel
def M_binds_21 (K : Int32 → th_St → Prop) (z0 : Int32) (u : th_St) : Prop :=
  K z0 u
set_option maxHeartbeats 4000000 in
set_option maxRecDepth 100000 in
theorem M_binds_21_w {K : Int32 → th_St → Prop} (C : th_Cx p s m args meth c cX12_binds RX12 1 (some .int) (dC, dI) (th_ty cs) th_E0 A) (z0 : Int32) (u : th_St) (H : Heap) (locs : List Loc) (ls : Array Slot) (hf : M_binds_21 K z0 u) (hw : th_wI (dC, dI) (wM cs q) A s.heap u H locs) (hl : lv_has ls 1 []) : W p l e (th_rm 0 0 0) s m args below meth c H locs 0 0 (MQ below (va_Qi K (th_Post (dC, dI) (wM cs q) A) A) args s 0 0 A) (F0 m 21 ls [.int z0]) := by
  have hx := C.1
  have hb := C.2.1
  unfold M_binds_21 at hf
  exact th_iret C hw hf dX12_binds_21
def M_binds (a1 : Int32) (u : th_St) (K : Int32 → th_St → Prop) : Prop :=
  ((¬ a1 = (10 : Int32) → ((¬ a1 = (11 : Int32) → M_binds_21 K (1 : Int32) u) ∧ (a1 = (11 : Int32) → M_binds_21 K (2 : Int32) u))) ∧ (a1 = (10 : Int32) → M_binds_21 K (3 : Int32) u))
set_option maxHeartbeats 4000000 in
set_option maxRecDepth 100000 in
theorem M_binds_c {l : Launch} {dC : Nat → ClassId} {dI : Nat → Nat → Nat} {cs : Nat → ClassId} {q : Nat → Nat} {a1 : Int32} {u : th_St} {K : Int32 → th_St → Prop} (hf : M_binds a1 u K) : th_Ci l yX12_binds cX12_binds 1 (some .int) 0 0 0 (dC, dI) (th_ty cs) th_E0 (wM cs q) [.int a1] u K := by
  refine th_ofi (by decide) (Nat.le_of_ble_eq_true rfl) th_E0_ok ?_
  intro p e s m below meth c A ls C hw hl
  have C : th_Cx p s m _ meth c cX12_binds RX12 1 (some .int) (dC, dI) (th_ty cs) th_E0 A := C
  have hl : lv_has ls 1 [(0, .int a1)] := hl
  generalize (List.toArray _ : Array Value) = args at C ⊢
  have hx := C.1
  have hb := C.2.1
  unfold M_binds at hf
  refine lv_iload_n hx hb dX12_binds_0 rfl (lv_at hl 0 rfl) ?_
  refine lv_bipush (v := (10 : Int32)) hx hb dX12_binds_1 (by decide) ?_
  refine lv_icmp_ne (tgt := 10) hx hb dX12_binds_3 (by decide) (fun hc => ?_) (fun hc => ?_)
  · replace hf := hf.1 hc
    clear hc
    refine lv_iload_n hx hb dX12_binds_10 rfl (lv_at hl 0 rfl) ?_
    refine lv_bipush (v := (11 : Int32)) hx hb dX12_binds_11 (by decide) ?_
    refine lv_icmp_ne (tgt := 20) hx hb dX12_binds_13 (by decide) (fun hc => ?_) (fun hc => ?_)
    · replace hf := hf.1 hc
      clear hc
      refine lv_iconst (v := (1 : Int32)) hx hb dX12_binds_20 (by decide) ?_
      exact M_binds_21_w C (1 : Int32) u _ _ _ hf hw (lv_sub hl [] rfl)
    · replace hf := hf.2 hc
      clear hc
      refine lv_iconst (v := (2 : Int32)) hx hb dX12_binds_16 (by decide) ?_
      refine lv_goto (tgt := 21) hx hb dX12_binds_17 (by decide) ?_
      exact M_binds_21_w C (2 : Int32) u _ _ _ hf hw (lv_sub hl [] rfl)
  · replace hf := hf.2 hc
    clear hc
    refine lv_iconst (v := (3 : Int32)) hx hb dX12_binds_6 (by decide) ?_
    refine lv_goto (tgt := 21) hx hb dX12_binds_7 (by decide) ?_
    exact M_binds_21_w C (3 : Int32) u _ _ _ hf hw (lv_sub hl [] rfl)
/-! X12_open -/
theorem dX12_open_0 : decode cX12_open 0 = .ok (.iconst 0, 1) := by decide +kernel
theorem dX12_open_1 : decode cX12_open 1 = .ok (.istore_n 1, 1) := by decide +kernel
theorem dX12_open_2 : decode cX12_open 2 = .ok (.iconst 0, 1) := by decide +kernel
theorem dX12_open_3 : decode cX12_open 3 = .ok (.istore_n 2, 1) := by decide +kernel
theorem dX12_open_4 : decode cX12_open 4 = .ok (.iload_n 2, 1) := by decide +kernel
theorem dX12_open_5 : decode cX12_open 5 = .ok (.aload_n 0, 1) := by decide +kernel
theorem dX12_open_6 : decode cX12_open 6 = .ok (.getfield 278, 3) := by decide +kernel
theorem dX12_open_9 : decode cX12_open 9 = .ok (.if_icmp .ge 39, 3) := by decide +kernel
theorem dX12_open_12 : decode cX12_open 12 = .ok (.iload_n 1, 1) := by decide +kernel
theorem dX12_open_13 : decode cX12_open 13 = .ok (.aload_n 0, 1) := by decide +kernel
theorem dX12_open_14 : decode cX12_open 14 = .ok (.getfield 81, 3) := by decide +kernel
theorem dX12_open_17 : decode cX12_open 17 = .ok (.iload_n 2, 1) := by decide +kernel
theorem dX12_open_18 : decode cX12_open 18 = .ok (.iaload, 1) := by decide +kernel
theorem dX12_open_19 : decode cX12_open 19 = .ok (.bipush 10, 2) := by decide +kernel
theorem dX12_open_21 : decode cX12_open 21 = .ok (.if_icmp .eq 14, 3) := by decide +kernel
theorem dX12_open_24 : decode cX12_open 24 = .ok (.aload_n 0, 1) := by decide +kernel
theorem dX12_open_25 : decode cX12_open 25 = .ok (.getfield 81, 3) := by decide +kernel
theorem dX12_open_28 : decode cX12_open 28 = .ok (.iload_n 2, 1) := by decide +kernel
theorem dX12_open_29 : decode cX12_open 29 = .ok (.iaload, 1) := by decide +kernel
theorem dX12_open_30 : decode cX12_open 30 = .ok (.bipush 13, 2) := by decide +kernel
theorem dX12_open_32 : decode cX12_open 32 = .ok (.if_icmp .ne 7, 3) := by decide +kernel
theorem dX12_open_35 : decode cX12_open 35 = .ok (.iconst 1, 1) := by decide +kernel
theorem dX12_open_36 : decode cX12_open 36 = .ok (.goto 4, 3) := by decide +kernel
theorem dX12_open_39 : decode cX12_open 39 = .ok (.iconst 0, 1) := by decide +kernel
theorem dX12_open_40 : decode cX12_open 40 = .ok (.iadd, 1) := by decide +kernel
theorem dX12_open_41 : decode cX12_open 41 = .ok (.istore_n 1, 1) := by decide +kernel
theorem dX12_open_42 : decode cX12_open 42 = .ok (.iinc 2 1, 3) := by decide +kernel
theorem dX12_open_45 : decode cX12_open 45 = .ok (.goto (-41), 3) := by decide +kernel
theorem dX12_open_48 : decode cX12_open 48 = .ok (.iload_n 1, 1) := by decide +kernel
theorem dX12_open_49 : decode cX12_open 49 = .ok (.ireturn, 1) := by decide +kernel
def M_open_40 (K : Int32 → th_St → Prop) (k4 : Int32 → Int32 → th_St → Prop) (x2 : Int32) (z0 : Int32) (z1 : Int32) (u : th_St) : Prop :=
  ∀ y_1 : Int32, y_1 = (z1 + z0) → ∀ x2_2 : Int32, x2_2 = x2 + (1 : Int32) → k4 y_1 x2_2 u
set_option maxHeartbeats 4000000 in
set_option maxRecDepth 100000 in
theorem M_open_40_w {K : Int32 → th_St → Prop} {k4 : Int32 → Int32 → th_St → Prop} (C : th_Cx p s m args meth c cX12_open RX12 3 (some .int) (dC, dI) (th_ty cs) th_E0 A) (hk4 : ∀ (x1 : Int32) (x2 : Int32) (u : th_St) (H : Heap) (locs : List Loc) (ls : Array Slot), k4 x1 x2 u → th_wI (dC, dI) (wM cs q) A s.heap u H locs → lv_has ls 3 [(0, .ref (q 0)), (1, .int x1), (2, .int x2)] → W p l e (th_rm 0 0 0) s m args below meth c H locs 0 0 (MQ below (va_Qi K (th_Post (dC, dI) (wM cs q) A) A) args s 0 0 A) (F0 m 4 ls [])) (x2 : Int32) (z0 : Int32) (z1 : Int32) (u : th_St) (H : Heap) (locs : List Loc) (ls : Array Slot) (hf : M_open_40 K k4 x2 z0 z1 u) (hw : th_wI (dC, dI) (wM cs q) A s.heap u H locs) (hl : lv_has ls 3 [(0, .ref (q 0)), (2, .int x2)]) : W p l e (th_rm 0 0 0) s m args below meth c H locs 0 0 (MQ below (va_Qi K (th_Post (dC, dI) (wM cs q) A) A) args s 0 0 A) (F0 m 40 ls [.int z0, .int z1]) := by
  have hx := C.1
  have hb := C.2.1
  unfold M_open_40 at hf
  refine lv_iadd hx hb dX12_open_40 ?_
  refine lv_topi (fun y_1 e9 => ?_)
  replace hf := hf y_1 e9
  clear e9
  refine lv_istore_n (lv' := [(1, .int y_1), (0, .ref (q 0)), (2, .int x2)]) hx hb dX12_open_41 rfl hl (by decide) rfl (fun ls hl => ?_)
  obtain ⟨x2_2, e9⟩ : ∃ y : Int32, y = x2 + (1 : Int32) := ⟨_, rfl⟩
  replace hf := hf x2_2 e9
  refine lv_iinc (v := x2_2) (lv' := [(2, .int x2_2), (1, .int y_1), (0, .ref (q 0))]) hx hb dX12_open_42 hl (k := 2) rfl (by rw [e9]; rfl) (by decide) rfl (fun ls hl => ?_)
  clear e9
  refine lv_goto (tgt := 4) hx hb dX12_open_45 (by decide) ?_
  exact hk4 y_1 x2_2 u _ _ _ hf hw (lv_sub hl [2, 1, 0] rfl)
def M_open_35 (K : Int32 → th_St → Prop) (k4 : Int32 → Int32 → th_St → Prop) (x2 : Int32) (z0 : Int32) (u : th_St) : Prop :=
  M_open_40 K k4 x2 (1 : Int32) z0 u
set_option maxHeartbeats 4000000 in
set_option maxRecDepth 100000 in
theorem M_open_35_w {K : Int32 → th_St → Prop} {k4 : Int32 → Int32 → th_St → Prop} (C : th_Cx p s m args meth c cX12_open RX12 3 (some .int) (dC, dI) (th_ty cs) th_E0 A) (hk4 : ∀ (x1 : Int32) (x2 : Int32) (u : th_St) (H : Heap) (locs : List Loc) (ls : Array Slot), k4 x1 x2 u → th_wI (dC, dI) (wM cs q) A s.heap u H locs → lv_has ls 3 [(0, .ref (q 0)), (1, .int x1), (2, .int x2)] → W p l e (th_rm 0 0 0) s m args below meth c H locs 0 0 (MQ below (va_Qi K (th_Post (dC, dI) (wM cs q) A) A) args s 0 0 A) (F0 m 4 ls [])) (x2 : Int32) (z0 : Int32) (u : th_St) (H : Heap) (locs : List Loc) (ls : Array Slot) (hf : M_open_35 K k4 x2 z0 u) (hw : th_wI (dC, dI) (wM cs q) A s.heap u H locs) (hl : lv_has ls 3 [(0, .ref (q 0)), (2, .int x2)]) : W p l e (th_rm 0 0 0) s m args below meth c H locs 0 0 (MQ below (va_Qi K (th_Post (dC, dI) (wM cs q) A) A) args s 0 0 A) (F0 m 35 ls [.int z0]) := by
  have hx := C.1
  have hb := C.2.1
  unfold M_open_35 at hf
  refine lv_iconst (v := (1 : Int32)) hx hb dX12_open_35 (by decide) ?_
  refine lv_goto (tgt := 40) hx hb dX12_open_36 (by decide) ?_
  exact M_open_40_w C hk4 x2 (1 : Int32) z0 u _ _ _ hf hw (lv_sub hl [0, 1] rfl)
def M_open_4 (K : Int32 → th_St → Prop) (k4 : Int32 → Int32 → th_St → Prop) (x1 : Int32) (x2 : Int32) (u : th_St) : Prop :=
  (((u.1 22) ≤ x2 → K x1 u) ∧ (¬ (u.1 22) ≤ x2 → (vp_in x2 100 ∧ ∀ y_1 : Int32, y_1 = u.2.2.1 20 (x2).toNatClampNeg → ((y_1 = (10 : Int32) → M_open_35 K k4 x2 x1 u) ∧ (¬ y_1 = (10 : Int32) → (vp_in x2 100 ∧ ∀ y_2 : Int32, y_2 = u.2.2.1 20 (x2).toNatClampNeg → ((¬ y_2 = (13 : Int32) → M_open_40 K k4 x2 (0 : Int32) x1 u) ∧ (y_2 = (13 : Int32) → M_open_35 K k4 x2 x1 u))))))))
set_option maxHeartbeats 4000000 in
set_option maxRecDepth 100000 in
theorem M_open_4_w {K : Int32 → th_St → Prop} {k4 : Int32 → Int32 → th_St → Prop} (C : th_Cx p s m args meth c cX12_open RX12 3 (some .int) (dC, dI) (th_ty cs) th_E0 A) (hk4 : ∀ (x1 : Int32) (x2 : Int32) (u : th_St) (H : Heap) (locs : List Loc) (ls : Array Slot), k4 x1 x2 u → th_wI (dC, dI) (wM cs q) A s.heap u H locs → lv_has ls 3 [(0, .ref (q 0)), (1, .int x1), (2, .int x2)] → W p l e (th_rm 0 0 0) s m args below meth c H locs 0 0 (MQ below (va_Qi K (th_Post (dC, dI) (wM cs q) A) A) args s 0 0 A) (F0 m 4 ls [])) (x1 : Int32) (x2 : Int32) (u : th_St) (H : Heap) (locs : List Loc) (ls : Array Slot) (hf : M_open_4 K k4 x1 x2 u) (hw : th_wI (dC, dI) (wM cs q) A s.heap u H locs) (hl : lv_has ls 3 [(0, .ref (q 0)), (1, .int x1), (2, .int x2)]) : W p l e (th_rm 0 0 0) s m args below meth c H locs 0 0 (MQ below (va_Qi K (th_Post (dC, dI) (wM cs q) A) A) args s 0 0 A) (F0 m 4 ls []) := by
  have hx := C.1
  have hb := C.2.1
  unfold M_open_4 at hf
  refine lv_iload_n hx hb dX12_open_4 rfl (lv_at hl 2 rfl) ?_
  refine lv_aload_n hx hb dX12_open_5 rfl (lv_at hl 0 rfl) ?_
  refine mg_22 C hw dX12_open_6 ?_
  refine lv_icmp_ge (tgt := 48) hx hb dX12_open_9 (by decide) (fun hc => ?_) (fun hc => ?_)
  · replace hf := hf.1 hc
    clear hc
    refine lv_iload_n hx hb dX12_open_48 rfl (lv_at hl 1 rfl) ?_
    exact th_iret C hw hf dX12_open_49
  · replace hf := hf.2 hc
    clear hc
    refine lv_iload_n hx hb dX12_open_12 rfl (lv_at hl 1 rfl) ?_
    refine lv_aload_n hx hb dX12_open_13 rfl (lv_at hl 0 rfl) ?_
    refine mg_20 C hw dX12_open_14 ?_
    refine lv_iload_n hx hb dX12_open_17 rfl (lv_at hl 2 rfl) ?_
    refine ml_20 C hw hf.1 dX12_open_18 (fun y_1 e9 => ?_)
    replace hf := hf.2 y_1 e9
    clear e9
    refine lv_bipush (v := (10 : Int32)) hx hb dX12_open_19 (by decide) ?_
    refine lv_icmp_eq (tgt := 35) hx hb dX12_open_21 (by decide) (fun hc => ?_) (fun hc => ?_)
    · replace hf := hf.1 hc
      clear hc
      exact M_open_35_w C hk4 x2 x1 u _ _ _ hf hw (lv_sub hl [0, 2] rfl)
    · replace hf := hf.2 hc
      clear hc
      refine lv_aload_n hx hb dX12_open_24 rfl (lv_at hl 0 rfl) ?_
      refine mg_20 C hw dX12_open_25 ?_
      refine lv_iload_n hx hb dX12_open_28 rfl (lv_at hl 2 rfl) ?_
      refine ml_20 C hw hf.1 dX12_open_29 (fun y_2 e9 => ?_)
      replace hf := hf.2 y_2 e9
      clear e9
      refine lv_bipush (v := (13 : Int32)) hx hb dX12_open_30 (by decide) ?_
      refine lv_icmp_ne (tgt := 39) hx hb dX12_open_32 (by decide) (fun hc => ?_) (fun hc => ?_)
      · replace hf := hf.1 hc
        clear hc
        refine lv_iconst (v := (0 : Int32)) hx hb dX12_open_39 (by decide) ?_
        exact M_open_40_w C hk4 x2 (0 : Int32) x1 u _ _ _ hf hw (lv_sub hl [0, 2] rfl)
      · replace hf := hf.2 hc
        clear hc
        exact M_open_35_w C hk4 x2 x1 u _ _ _ hf hw (lv_sub hl [0, 2] rfl)
def M_open_4_lp (K : Int32 → th_St → Prop) : Nat → Int32 → Int32 → th_St → Prop
  | 0, _, _, _ => False
  | n + 1, x1, x2, u => M_open_4 K (M_open_4_lp K n) x1 x2 u
set_option maxHeartbeats 4000000 in
set_option maxRecDepth 100000 in
theorem M_open_4_lw {K : Int32 → th_St → Prop} (C : th_Cx p s m args meth c cX12_open RX12 3 (some .int) (dC, dI) (th_ty cs) th_E0 A) (n : Nat) : ∀ (x1 : Int32) (x2 : Int32) (u : th_St) (H : Heap) (locs : List Loc) (ls : Array Slot), M_open_4_lp K n x1 x2 u → th_wI (dC, dI) (wM cs q) A s.heap u H locs → lv_has ls 3 [(0, .ref (q 0)), (1, .int x1), (2, .int x2)] → W p l e (th_rm 0 0 0) s m args below meth c H locs 0 0 (MQ below (va_Qi K (th_Post (dC, dI) (wM cs q) A) A) args s 0 0 A) (F0 m 4 ls []) := by
  induction n with
  | zero => intro x1 x2 u H locs ls hf; exact hf.elim
  | succ n ih =>
    intro x1 x2 u H locs ls hf hw hl
    exact M_open_4_w C ih x1 x2 u H locs ls hf hw hl
def M_open (u : th_St) (K : Int32 → th_St → Prop) : Prop :=
  ∃ n, M_open_4_lp K n (0 : Int32) (0 : Int32) u
set_option maxHeartbeats 4000000 in
set_option maxRecDepth 100000 in
theorem M_open_c {l : Launch} {dC : Nat → ClassId} {dI : Nat → Nat → Nat} {cs : Nat → ClassId} {q : Nat → Nat} {u : th_St} {K : Int32 → th_St → Prop} (hf : M_open u K) : th_Ci l yX12_open cX12_open 3 (some .int) 0 0 0 (dC, dI) (th_ty cs) th_E0 (wM cs q) [.ref (q 0)] u K := by
  refine th_ofi (by decide) (Nat.le_of_ble_eq_true rfl) th_E0_ok ?_
  intro p e s m below meth c A ls C hw hl
  have C : th_Cx p s m _ meth c cX12_open RX12 3 (some .int) (dC, dI) (th_ty cs) th_E0 A := C
  have hl : lv_has ls 3 [(0, .ref (q 0))] := hl
  generalize (List.toArray _ : Array Value) = args at C ⊢
  have hx := C.1
  have hb := C.2.1
  unfold M_open at hf
  refine lv_iconst (v := (0 : Int32)) hx hb dX12_open_0 (by decide) ?_
  refine lv_istore_n (lv' := [(1, .int (0 : Int32)), (0, .ref (q 0))]) hx hb dX12_open_1 rfl hl (by decide) rfl (fun ls hl => ?_)
  refine lv_iconst (v := (0 : Int32)) hx hb dX12_open_2 (by decide) ?_
  refine lv_istore_n (lv' := [(2, .int (0 : Int32)), (1, .int (0 : Int32)), (0, .ref (q 0))]) hx hb dX12_open_3 rfl hl (by decide) rfl (fun ls hl => ?_)
  obtain ⟨n, hf⟩ := hf
  exact M_open_4_lw C n (0 : Int32) (0 : Int32) u _ _ _ hf hw (lv_sub hl [2, 1, 0] rfl)
/-! X12_isOpen -/
theorem dX12_isOpen_0 : decode cX12_isOpen 0 = .ok (.iconst 0, 1) := by decide +kernel
theorem dX12_isOpen_1 : decode cX12_isOpen 1 = .ok (.istore_n 1, 1) := by decide +kernel
theorem dX12_isOpen_2 : decode cX12_isOpen 2 = .ok (.iload_n 1, 1) := by decide +kernel
theorem dX12_isOpen_3 : decode cX12_isOpen 3 = .ok (.aload_n 0, 1) := by decide +kernel
theorem dX12_isOpen_4 : decode cX12_isOpen 4 = .ok (.getfield 278, 3) := by decide +kernel
theorem dX12_isOpen_7 : decode cX12_isOpen 7 = .ok (.if_icmp .ge 22, 3) := by decide +kernel
theorem dX12_isOpen_10 : decode cX12_isOpen 10 = .ok (.aload_n 0, 1) := by decide +kernel
theorem dX12_isOpen_11 : decode cX12_isOpen 11 = .ok (.getfield 81, 3) := by decide +kernel
theorem dX12_isOpen_14 : decode cX12_isOpen 14 = .ok (.iload_n 1, 1) := by decide +kernel
theorem dX12_isOpen_15 : decode cX12_isOpen 15 = .ok (.iaload, 1) := by decide +kernel
theorem dX12_isOpen_16 : decode cX12_isOpen 16 = .ok (.bipush 13, 2) := by decide +kernel
theorem dX12_isOpen_18 : decode cX12_isOpen 18 = .ok (.if_icmp .ne 5, 3) := by decide +kernel
theorem dX12_isOpen_21 : decode cX12_isOpen 21 = .ok (.iconst 1, 1) := by decide +kernel
theorem dX12_isOpen_22 : decode cX12_isOpen 22 = .ok (.ireturn, 1) := by decide +kernel
theorem dX12_isOpen_23 : decode cX12_isOpen 23 = .ok (.iinc 1 1, 3) := by decide +kernel
theorem dX12_isOpen_26 : decode cX12_isOpen 26 = .ok (.goto (-24), 3) := by decide +kernel
theorem dX12_isOpen_29 : decode cX12_isOpen 29 = .ok (.iconst 0, 1) := by decide +kernel
theorem dX12_isOpen_30 : decode cX12_isOpen 30 = .ok (.ireturn, 1) := by decide +kernel
def M_isOpen_2 (K : Int32 → th_St → Prop) (k2 : Int32 → th_St → Prop) (x1 : Int32) (u : th_St) : Prop :=
  (((u.1 22) ≤ x1 → (((0 : Int32) = 0 ∨ (0 : Int32) = 1) ∧ K (0 : Int32) u)) ∧ (¬ (u.1 22) ≤ x1 → (vp_in x1 100 ∧ ∀ y_1 : Int32, y_1 = u.2.2.1 20 (x1).toNatClampNeg → ((¬ y_1 = (13 : Int32) → ∀ x1_2 : Int32, x1_2 = x1 + (1 : Int32) → k2 x1_2 u) ∧ (y_1 = (13 : Int32) → (((1 : Int32) = 0 ∨ (1 : Int32) = 1) ∧ K (1 : Int32) u))))))
set_option maxHeartbeats 4000000 in
set_option maxRecDepth 100000 in
theorem M_isOpen_2_w {K : Int32 → th_St → Prop} {k2 : Int32 → th_St → Prop} (C : th_Cx p s m args meth c cX12_isOpen RX12 2 (some .boolean) (dC, dI) (th_ty cs) th_E0 A) (hk2 : ∀ (x1 : Int32) (u : th_St) (H : Heap) (locs : List Loc) (ls : Array Slot), k2 x1 u → th_wI (dC, dI) (wM cs q) A s.heap u H locs → lv_has ls 2 [(0, .ref (q 0)), (1, .int x1)] → W p l e (th_rm 0 0 0) s m args below meth c H locs 0 0 (MQ below (va_Qi K (th_Post (dC, dI) (wM cs q) A) A) args s 0 0 A) (F0 m 2 ls [])) (x1 : Int32) (u : th_St) (H : Heap) (locs : List Loc) (ls : Array Slot) (hf : M_isOpen_2 K k2 x1 u) (hw : th_wI (dC, dI) (wM cs q) A s.heap u H locs) (hl : lv_has ls 2 [(0, .ref (q 0)), (1, .int x1)]) : W p l e (th_rm 0 0 0) s m args below meth c H locs 0 0 (MQ below (va_Qi K (th_Post (dC, dI) (wM cs q) A) A) args s 0 0 A) (F0 m 2 ls []) := by
  have hx := C.1
  have hb := C.2.1
  unfold M_isOpen_2 at hf
  refine lv_iload_n hx hb dX12_isOpen_2 rfl (lv_at hl 1 rfl) ?_
  refine lv_aload_n hx hb dX12_isOpen_3 rfl (lv_at hl 0 rfl) ?_
  refine mg_22 C hw dX12_isOpen_4 ?_
  refine lv_icmp_ge (tgt := 29) hx hb dX12_isOpen_7 (by decide) (fun hc => ?_) (fun hc => ?_)
  · replace hf := hf.1 hc
    clear hc
    refine lv_iconst (v := (0 : Int32)) hx hb dX12_isOpen_29 (by decide) ?_
    exact th_zret C hw hf dX12_isOpen_30
  · replace hf := hf.2 hc
    clear hc
    refine lv_aload_n hx hb dX12_isOpen_10 rfl (lv_at hl 0 rfl) ?_
    refine mg_20 C hw dX12_isOpen_11 ?_
    refine lv_iload_n hx hb dX12_isOpen_14 rfl (lv_at hl 1 rfl) ?_
    refine ml_20 C hw hf.1 dX12_isOpen_15 (fun y_1 e9 => ?_)
    replace hf := hf.2 y_1 e9
    clear e9
    refine lv_bipush (v := (13 : Int32)) hx hb dX12_isOpen_16 (by decide) ?_
    refine lv_icmp_ne (tgt := 23) hx hb dX12_isOpen_18 (by decide) (fun hc => ?_) (fun hc => ?_)
    · replace hf := hf.1 hc
      clear hc
      obtain ⟨x1_2, e9⟩ : ∃ y : Int32, y = x1 + (1 : Int32) := ⟨_, rfl⟩
      replace hf := hf x1_2 e9
      refine lv_iinc (v := x1_2) (lv' := [(1, .int x1_2), (0, .ref (q 0))]) hx hb dX12_isOpen_23 hl (k := 1) rfl (by rw [e9]; rfl) (by decide) rfl (fun ls hl => ?_)
      clear e9
      refine lv_goto (tgt := 2) hx hb dX12_isOpen_26 (by decide) ?_
      exact hk2 x1_2 u _ _ _ hf hw (lv_sub hl [1, 0] rfl)
    · replace hf := hf.2 hc
      clear hc
      refine lv_iconst (v := (1 : Int32)) hx hb dX12_isOpen_21 (by decide) ?_
      exact th_zret C hw hf dX12_isOpen_22
def M_isOpen_2_lp (K : Int32 → th_St → Prop) : Nat → Int32 → th_St → Prop
  | 0, _, _ => False
  | n + 1, x1, u => M_isOpen_2 K (M_isOpen_2_lp K n) x1 u
set_option maxHeartbeats 4000000 in
set_option maxRecDepth 100000 in
theorem M_isOpen_2_lw {K : Int32 → th_St → Prop} (C : th_Cx p s m args meth c cX12_isOpen RX12 2 (some .boolean) (dC, dI) (th_ty cs) th_E0 A) (n : Nat) : ∀ (x1 : Int32) (u : th_St) (H : Heap) (locs : List Loc) (ls : Array Slot), M_isOpen_2_lp K n x1 u → th_wI (dC, dI) (wM cs q) A s.heap u H locs → lv_has ls 2 [(0, .ref (q 0)), (1, .int x1)] → W p l e (th_rm 0 0 0) s m args below meth c H locs 0 0 (MQ below (va_Qi K (th_Post (dC, dI) (wM cs q) A) A) args s 0 0 A) (F0 m 2 ls []) := by
  induction n with
  | zero => intro x1 u H locs ls hf; exact hf.elim
  | succ n ih =>
    intro x1 u H locs ls hf hw hl
    exact M_isOpen_2_w C ih x1 u H locs ls hf hw hl
def M_isOpen (u : th_St) (K : Int32 → th_St → Prop) : Prop :=
  ∃ n, M_isOpen_2_lp K n (0 : Int32) u
set_option maxHeartbeats 4000000 in
set_option maxRecDepth 100000 in
theorem M_isOpen_c {l : Launch} {dC : Nat → ClassId} {dI : Nat → Nat → Nat} {cs : Nat → ClassId} {q : Nat → Nat} {u : th_St} {K : Int32 → th_St → Prop} (hf : M_isOpen u K) : th_Ci l yX12_isOpen cX12_isOpen 2 (some .boolean) 0 0 0 (dC, dI) (th_ty cs) th_E0 (wM cs q) [.ref (q 0)] u K := by
  refine th_ofi (by decide) (Nat.le_of_ble_eq_true rfl) th_E0_ok ?_
  intro p e s m below meth c A ls C hw hl
  have C : th_Cx p s m _ meth c cX12_isOpen RX12 2 (some .boolean) (dC, dI) (th_ty cs) th_E0 A := C
  have hl : lv_has ls 2 [(0, .ref (q 0))] := hl
  generalize (List.toArray _ : Array Value) = args at C ⊢
  have hx := C.1
  have hb := C.2.1
  unfold M_isOpen at hf
  refine lv_iconst (v := (0 : Int32)) hx hb dX12_isOpen_0 (by decide) ?_
  refine lv_istore_n (lv' := [(1, .int (0 : Int32)), (0, .ref (q 0))]) hx hb dX12_isOpen_1 rfl hl (by decide) rfl (fun ls hl => ?_)
  obtain ⟨n, hf⟩ := hf
  exact M_isOpen_2_lw C n (0 : Int32) u _ _ _ hf hw (lv_sub hl [1, 0] rfl)
/-! X12_rowOf -/
theorem dX12_rowOf_0 : decode cX12_rowOf 0 = .ok (.iload_n 1, 1) := by decide +kernel
theorem dX12_rowOf_1 : decode cX12_rowOf 1 = .ok (.istore_n 3, 1) := by decide +kernel
theorem dX12_rowOf_2 : decode cX12_rowOf 2 = .ok (.bipush 40, 2) := by decide +kernel
theorem dX12_rowOf_4 : decode cX12_rowOf 4 = .ok (.istore 4, 2) := by decide +kernel
theorem dX12_rowOf_6 : decode cX12_rowOf 6 = .ok (.iload 4, 2) := by decide +kernel
theorem dX12_rowOf_8 : decode cX12_rowOf 8 = .ok (.bipush 40, 2) := by decide +kernel
theorem dX12_rowOf_10 : decode cX12_rowOf 10 = .ok (.aload_n 0, 1) := by decide +kernel
theorem dX12_rowOf_11 : decode cX12_rowOf 11 = .ok (.getfield 317, 3) := by decide +kernel
theorem dX12_rowOf_14 : decode cX12_rowOf 14 = .ok (.iadd, 1) := by decide +kernel
theorem dX12_rowOf_15 : decode cX12_rowOf 15 = .ok (.if_icmp .ge 34, 3) := by decide +kernel
theorem dX12_rowOf_18 : decode cX12_rowOf 18 = .ok (.aload_n 0, 1) := by decide +kernel
theorem dX12_rowOf_19 : decode cX12_rowOf 19 = .ok (.getfield 90, 3) := by decide +kernel
theorem dX12_rowOf_22 : decode cX12_rowOf 22 = .ok (.iload 4, 2) := by decide +kernel
theorem dX12_rowOf_24 : decode cX12_rowOf 24 = .ok (.iaload, 1) := by decide +kernel
theorem dX12_rowOf_25 : decode cX12_rowOf 25 = .ok (.iload_n 1, 1) := by decide +kernel
theorem dX12_rowOf_26 : decode cX12_rowOf 26 = .ok (.if_icmp .ne 17, 3) := by decide +kernel
theorem dX12_rowOf_29 : decode cX12_rowOf 29 = .ok (.aload_n 0, 1) := by decide +kernel
theorem dX12_rowOf_30 : decode cX12_rowOf 30 = .ok (.getfield 93, 3) := by decide +kernel
theorem dX12_rowOf_33 : decode cX12_rowOf 33 = .ok (.iload 4, 2) := by decide +kernel
theorem dX12_rowOf_35 : decode cX12_rowOf 35 = .ok (.iaload, 1) := by decide +kernel
theorem dX12_rowOf_36 : decode cX12_rowOf 36 = .ok (.iload_n 2, 1) := by decide +kernel
theorem dX12_rowOf_37 : decode cX12_rowOf 37 = .ok (.if_icmp .gt 6, 3) := by decide +kernel
theorem dX12_rowOf_40 : decode cX12_rowOf 40 = .ok (.iload 4, 2) := by decide +kernel
theorem dX12_rowOf_42 : decode cX12_rowOf 42 = .ok (.istore_n 3, 1) := by decide +kernel
theorem dX12_rowOf_43 : decode cX12_rowOf 43 = .ok (.iinc 4 1, 3) := by decide +kernel
theorem dX12_rowOf_46 : decode cX12_rowOf 46 = .ok (.goto (-40), 3) := by decide +kernel
theorem dX12_rowOf_49 : decode cX12_rowOf 49 = .ok (.iload_n 3, 1) := by decide +kernel
theorem dX12_rowOf_50 : decode cX12_rowOf 50 = .ok (.ireturn, 1) := by decide +kernel
def M_rowOf_43 (K : Int32 → th_St → Prop) (k6 : Int32 → Int32 → Int32 → Int32 → th_St → Prop) (x1 : Int32) (x2 : Int32) (x3 : Int32) (x4 : Int32) (u : th_St) : Prop :=
  ∀ x4_1 : Int32, x4_1 = x4 + (1 : Int32) → k6 x1 x2 x3 x4_1 u
set_option maxHeartbeats 4000000 in
set_option maxRecDepth 100000 in
theorem M_rowOf_43_w {K : Int32 → th_St → Prop} {k6 : Int32 → Int32 → Int32 → Int32 → th_St → Prop} (C : th_Cx p s m args meth c cX12_rowOf RX12 5 (some .int) (dC, dI) (th_ty cs) th_E0 A) (hk6 : ∀ (x1 : Int32) (x2 : Int32) (x3 : Int32) (x4 : Int32) (u : th_St) (H : Heap) (locs : List Loc) (ls : Array Slot), k6 x1 x2 x3 x4 u → th_wI (dC, dI) (wM cs q) A s.heap u H locs → lv_has ls 5 [(0, .ref (q 0)), (1, .int x1), (2, .int x2), (3, .int x3), (4, .int x4)] → W p l e (th_rm 0 0 0) s m args below meth c H locs 0 0 (MQ below (va_Qi K (th_Post (dC, dI) (wM cs q) A) A) args s 0 0 A) (F0 m 6 ls [])) (x1 : Int32) (x2 : Int32) (x3 : Int32) (x4 : Int32) (u : th_St) (H : Heap) (locs : List Loc) (ls : Array Slot) (hf : M_rowOf_43 K k6 x1 x2 x3 x4 u) (hw : th_wI (dC, dI) (wM cs q) A s.heap u H locs) (hl : lv_has ls 5 [(0, .ref (q 0)), (1, .int x1), (2, .int x2), (3, .int x3), (4, .int x4)]) : W p l e (th_rm 0 0 0) s m args below meth c H locs 0 0 (MQ below (va_Qi K (th_Post (dC, dI) (wM cs q) A) A) args s 0 0 A) (F0 m 43 ls []) := by
  have hx := C.1
  have hb := C.2.1
  unfold M_rowOf_43 at hf
  obtain ⟨x4_1, e9⟩ : ∃ y : Int32, y = x4 + (1 : Int32) := ⟨_, rfl⟩
  replace hf := hf x4_1 e9
  refine lv_iinc (v := x4_1) (lv' := [(4, .int x4_1), (0, .ref (q 0)), (1, .int x1), (2, .int x2), (3, .int x3)]) hx hb dX12_rowOf_43 hl (k := 4) rfl (by rw [e9]; rfl) (by decide) rfl (fun ls hl => ?_)
  clear e9
  refine lv_goto (tgt := 6) hx hb dX12_rowOf_46 (by decide) ?_
  exact hk6 x1 x2 x3 x4_1 u _ _ _ hf hw (lv_sub hl [1, 2, 3, 4, 0] rfl)
def M_rowOf_6 (K : Int32 → th_St → Prop) (k6 : Int32 → Int32 → Int32 → Int32 → th_St → Prop) (x1 : Int32) (x2 : Int32) (x3 : Int32) (x4 : Int32) (u : th_St) : Prop :=
  ((((40 : Int32) + (u.1 31)) ≤ x4 → K x3 u) ∧ (¬ ((40 : Int32) + (u.1 31)) ≤ x4 → (vp_in x4 100 ∧ ∀ y_1 : Int32, y_1 = u.2.2.1 36 (x4).toNatClampNeg → ((¬ y_1 = x1 → M_rowOf_43 K k6 x1 x2 x3 x4 u) ∧ (y_1 = x1 → (vp_in x4 100 ∧ ∀ y_2 : Int32, y_2 = u.2.2.1 37 (x4).toNatClampNeg → ((x2 < y_2 → M_rowOf_43 K k6 x1 x2 x3 x4 u) ∧ (¬ x2 < y_2 → M_rowOf_43 K k6 x1 x2 x4 x4 u))))))))
set_option maxHeartbeats 4000000 in
set_option maxRecDepth 100000 in
theorem M_rowOf_6_w {K : Int32 → th_St → Prop} {k6 : Int32 → Int32 → Int32 → Int32 → th_St → Prop} (C : th_Cx p s m args meth c cX12_rowOf RX12 5 (some .int) (dC, dI) (th_ty cs) th_E0 A) (hk6 : ∀ (x1 : Int32) (x2 : Int32) (x3 : Int32) (x4 : Int32) (u : th_St) (H : Heap) (locs : List Loc) (ls : Array Slot), k6 x1 x2 x3 x4 u → th_wI (dC, dI) (wM cs q) A s.heap u H locs → lv_has ls 5 [(0, .ref (q 0)), (1, .int x1), (2, .int x2), (3, .int x3), (4, .int x4)] → W p l e (th_rm 0 0 0) s m args below meth c H locs 0 0 (MQ below (va_Qi K (th_Post (dC, dI) (wM cs q) A) A) args s 0 0 A) (F0 m 6 ls [])) (x1 : Int32) (x2 : Int32) (x3 : Int32) (x4 : Int32) (u : th_St) (H : Heap) (locs : List Loc) (ls : Array Slot) (hf : M_rowOf_6 K k6 x1 x2 x3 x4 u) (hw : th_wI (dC, dI) (wM cs q) A s.heap u H locs) (hl : lv_has ls 5 [(0, .ref (q 0)), (1, .int x1), (2, .int x2), (3, .int x3), (4, .int x4)]) : W p l e (th_rm 0 0 0) s m args below meth c H locs 0 0 (MQ below (va_Qi K (th_Post (dC, dI) (wM cs q) A) A) args s 0 0 A) (F0 m 6 ls []) := by
  have hx := C.1
  have hb := C.2.1
  unfold M_rowOf_6 at hf
  refine lv_iload hx hb dX12_rowOf_6 (lv_at hl 4 rfl) ?_
  refine lv_bipush (v := (40 : Int32)) hx hb dX12_rowOf_8 (by decide) ?_
  refine lv_aload_n hx hb dX12_rowOf_10 rfl (lv_at hl 0 rfl) ?_
  refine mg_31 C hw dX12_rowOf_11 ?_
  refine lv_iadd hx hb dX12_rowOf_14 ?_
  refine lv_icmp_ge (tgt := 49) hx hb dX12_rowOf_15 (by decide) (fun hc => ?_) (fun hc => ?_)
  · replace hf := hf.1 hc
    clear hc
    refine lv_iload_n hx hb dX12_rowOf_49 rfl (lv_at hl 3 rfl) ?_
    exact th_iret C hw hf dX12_rowOf_50
  · replace hf := hf.2 hc
    clear hc
    refine lv_aload_n hx hb dX12_rowOf_18 rfl (lv_at hl 0 rfl) ?_
    refine mg_36 C hw dX12_rowOf_19 ?_
    refine lv_iload hx hb dX12_rowOf_22 (lv_at hl 4 rfl) ?_
    refine ml_36 C hw hf.1 dX12_rowOf_24 (fun y_1 e9 => ?_)
    replace hf := hf.2 y_1 e9
    clear e9
    refine lv_iload_n hx hb dX12_rowOf_25 rfl (lv_at hl 1 rfl) ?_
    refine lv_icmp_ne (tgt := 43) hx hb dX12_rowOf_26 (by decide) (fun hc => ?_) (fun hc => ?_)
    · replace hf := hf.1 hc
      clear hc
      exact M_rowOf_43_w C hk6 x1 x2 x3 x4 u _ _ _ hf hw (lv_sub hl [0, 1, 2, 3, 4] rfl)
    · replace hf := hf.2 hc
      clear hc
      refine lv_aload_n hx hb dX12_rowOf_29 rfl (lv_at hl 0 rfl) ?_
      refine mg_37 C hw dX12_rowOf_30 ?_
      refine lv_iload hx hb dX12_rowOf_33 (lv_at hl 4 rfl) ?_
      refine ml_37 C hw hf.1 dX12_rowOf_35 (fun y_2 e9 => ?_)
      replace hf := hf.2 y_2 e9
      clear e9
      refine lv_iload_n hx hb dX12_rowOf_36 rfl (lv_at hl 2 rfl) ?_
      refine lv_icmp_gt (tgt := 43) hx hb dX12_rowOf_37 (by decide) (fun hc => ?_) (fun hc => ?_)
      · replace hf := hf.1 hc
        clear hc
        exact M_rowOf_43_w C hk6 x1 x2 x3 x4 u _ _ _ hf hw (lv_sub hl [0, 1, 2, 3, 4] rfl)
      · replace hf := hf.2 hc
        clear hc
        refine lv_iload hx hb dX12_rowOf_40 (lv_at hl 4 rfl) ?_
        refine lv_istore_n (lv' := [(3, .int x4), (0, .ref (q 0)), (1, .int x1), (2, .int x2), (4, .int x4)]) hx hb dX12_rowOf_42 rfl hl (by decide) rfl (fun ls hl => ?_)
        exact M_rowOf_43_w C hk6 x1 x2 x4 x4 u _ _ _ hf hw (lv_sub hl [1, 2, 3, 0, 4] rfl)
def M_rowOf_6_lp (K : Int32 → th_St → Prop) : Nat → Int32 → Int32 → Int32 → Int32 → th_St → Prop
  | 0, _, _, _, _, _ => False
  | n + 1, x1, x2, x3, x4, u => M_rowOf_6 K (M_rowOf_6_lp K n) x1 x2 x3 x4 u
set_option maxHeartbeats 4000000 in
set_option maxRecDepth 100000 in
theorem M_rowOf_6_lw {K : Int32 → th_St → Prop} (C : th_Cx p s m args meth c cX12_rowOf RX12 5 (some .int) (dC, dI) (th_ty cs) th_E0 A) (n : Nat) : ∀ (x1 : Int32) (x2 : Int32) (x3 : Int32) (x4 : Int32) (u : th_St) (H : Heap) (locs : List Loc) (ls : Array Slot), M_rowOf_6_lp K n x1 x2 x3 x4 u → th_wI (dC, dI) (wM cs q) A s.heap u H locs → lv_has ls 5 [(0, .ref (q 0)), (1, .int x1), (2, .int x2), (3, .int x3), (4, .int x4)] → W p l e (th_rm 0 0 0) s m args below meth c H locs 0 0 (MQ below (va_Qi K (th_Post (dC, dI) (wM cs q) A) A) args s 0 0 A) (F0 m 6 ls []) := by
  induction n with
  | zero => intro x1 x2 x3 x4 u H locs ls hf; exact hf.elim
  | succ n ih =>
    intro x1 x2 x3 x4 u H locs ls hf hw hl
    exact M_rowOf_6_w C ih x1 x2 x3 x4 u H locs ls hf hw hl
def M_rowOf (a1 : Int32) (a2 : Int32) (u : th_St) (K : Int32 → th_St → Prop) : Prop :=
  ∃ n, M_rowOf_6_lp K n a1 a2 a1 (40 : Int32) u
set_option maxHeartbeats 4000000 in
set_option maxRecDepth 100000 in
theorem M_rowOf_c {l : Launch} {dC : Nat → ClassId} {dI : Nat → Nat → Nat} {cs : Nat → ClassId} {q : Nat → Nat} {a1 : Int32} {a2 : Int32} {u : th_St} {K : Int32 → th_St → Prop} (hf : M_rowOf a1 a2 u K) : th_Ci l yX12_rowOf cX12_rowOf 5 (some .int) 0 0 0 (dC, dI) (th_ty cs) th_E0 (wM cs q) [.ref (q 0), .int a1, .int a2] u K := by
  refine th_ofi (by decide) (Nat.le_of_ble_eq_true rfl) th_E0_ok ?_
  intro p e s m below meth c A ls C hw hl
  have C : th_Cx p s m _ meth c cX12_rowOf RX12 5 (some .int) (dC, dI) (th_ty cs) th_E0 A := C
  have hl : lv_has ls 5 [(0, .ref (q 0)), (1, .int a1), (2, .int a2)] := hl
  generalize (List.toArray _ : Array Value) = args at C ⊢
  have hx := C.1
  have hb := C.2.1
  unfold M_rowOf at hf
  refine lv_iload_n hx hb dX12_rowOf_0 rfl (lv_at hl 1 rfl) ?_
  refine lv_istore_n (lv' := [(3, .int a1), (0, .ref (q 0)), (1, .int a1), (2, .int a2)]) hx hb dX12_rowOf_1 rfl hl (by decide) rfl (fun ls hl => ?_)
  refine lv_bipush (v := (40 : Int32)) hx hb dX12_rowOf_2 (by decide) ?_
  refine lv_istore (lv' := [(4, .int (40 : Int32)), (3, .int a1), (0, .ref (q 0)), (1, .int a1), (2, .int a2)]) hx hb dX12_rowOf_4 hl (by decide) rfl (fun ls hl => ?_)
  obtain ⟨n, hf⟩ := hf
  exact M_rowOf_6_lw C n a1 a2 a1 (40 : Int32) u _ _ _ hf hw (lv_sub hl [2, 3, 4, 1, 0] rfl)
/-! X12_change -/
theorem dX12_change_0 : decode cX12_change 0 = .ok (.aload_n 0, 1) := by decide +kernel
theorem dX12_change_1 : decode cX12_change 1 = .ok (.getfield 96, 3) := by decide +kernel
theorem dX12_change_4 : decode cX12_change 4 = .ok (.bipush 48, 2) := by decide +kernel
theorem dX12_change_6 : decode cX12_change 6 = .ok (.iload_n 2, 1) := by decide +kernel
theorem dX12_change_7 : decode cX12_change 7 = .ok (.iconst 1, 1) := by decide +kernel
theorem dX12_change_8 : decode cX12_change 8 = .ok (.iadd, 1) := by decide +kernel
theorem dX12_change_9 : decode cX12_change 9 = .ok (.imul, 1) := by decide +kernel
theorem dX12_change_10 : decode cX12_change 10 = .ok (.iload_n 1, 1) := by decide +kernel
theorem dX12_change_11 : decode cX12_change 11 = .ok (.iadd, 1) := by decide +kernel
theorem dX12_change_12 : decode cX12_change 12 = .ok (.iaload, 1) := by decide +kernel
theorem dX12_change_13 : decode cX12_change 13 = .ok (.aload_n 0, 1) := by decide +kernel
theorem dX12_change_14 : decode cX12_change 14 = .ok (.getfield 96, 3) := by decide +kernel
theorem dX12_change_17 : decode cX12_change 17 = .ok (.bipush 48, 2) := by decide +kernel
theorem dX12_change_19 : decode cX12_change 19 = .ok (.iload_n 2, 1) := by decide +kernel
theorem dX12_change_20 : decode cX12_change 20 = .ok (.imul, 1) := by decide +kernel
theorem dX12_change_21 : decode cX12_change 21 = .ok (.iload_n 1, 1) := by decide +kernel
theorem dX12_change_22 : decode cX12_change 22 = .ok (.iadd, 1) := by decide +kernel
theorem dX12_change_23 : decode cX12_change 23 = .ok (.iaload, 1) := by decide +kernel
theorem dX12_change_24 : decode cX12_change 24 = .ok (.isub, 1) := by decide +kernel
theorem dX12_change_25 : decode cX12_change 25 = .ok (.ireturn, 1) := by decide +kernel
def M_change (a1 : Int32) (a2 : Int32) (u : th_St) (K : Int32 → th_St → Prop) : Prop :=
  (vp_in (((48 : Int32) * (a2 + (1 : Int32))) + a1) 1968 ∧ ∀ y_1 : Int32, y_1 = u.2.2.1 38 ((((48 : Int32) * (a2 + (1 : Int32))) + a1)).toNatClampNeg → (vp_in (((48 : Int32) * a2) + a1) 1968 ∧ ∀ y_2 : Int32, y_2 = u.2.2.1 38 ((((48 : Int32) * a2) + a1)).toNatClampNeg → K (y_1 - y_2) u))
set_option maxHeartbeats 4000000 in
set_option maxRecDepth 100000 in
theorem M_change_c {l : Launch} {dC : Nat → ClassId} {dI : Nat → Nat → Nat} {cs : Nat → ClassId} {q : Nat → Nat} {a1 : Int32} {a2 : Int32} {u : th_St} {K : Int32 → th_St → Prop} (hf : M_change a1 a2 u K) : th_Ci l yX12_change cX12_change 3 (some .int) 0 0 0 (dC, dI) (th_ty cs) th_E0 (wM cs q) [.ref (q 0), .int a1, .int a2] u K := by
  refine th_ofi (by decide) (Nat.le_of_ble_eq_true rfl) th_E0_ok ?_
  intro p e s m below meth c A ls C hw hl
  have C : th_Cx p s m _ meth c cX12_change RX12 3 (some .int) (dC, dI) (th_ty cs) th_E0 A := C
  have hl : lv_has ls 3 [(0, .ref (q 0)), (1, .int a1), (2, .int a2)] := hl
  generalize (List.toArray _ : Array Value) = args at C ⊢
  have hx := C.1
  have hb := C.2.1
  unfold M_change at hf
  refine lv_aload_n hx hb dX12_change_0 rfl (lv_at hl 0 rfl) ?_
  refine mg_38 C hw dX12_change_1 ?_
  refine lv_bipush (v := (48 : Int32)) hx hb dX12_change_4 (by decide) ?_
  refine lv_iload_n hx hb dX12_change_6 rfl (lv_at hl 2 rfl) ?_
  refine lv_iconst (v := (1 : Int32)) hx hb dX12_change_7 (by decide) ?_
  refine lv_iadd hx hb dX12_change_8 ?_
  refine lv_imul hx hb dX12_change_9 ?_
  refine lv_iload_n hx hb dX12_change_10 rfl (lv_at hl 1 rfl) ?_
  refine lv_iadd hx hb dX12_change_11 ?_
  refine ml_38 C hw hf.1 dX12_change_12 (fun y_1 e9 => ?_)
  replace hf := hf.2 y_1 e9
  clear e9
  refine lv_aload_n hx hb dX12_change_13 rfl (lv_at hl 0 rfl) ?_
  refine mg_38 C hw dX12_change_14 ?_
  refine lv_bipush (v := (48 : Int32)) hx hb dX12_change_17 (by decide) ?_
  refine lv_iload_n hx hb dX12_change_19 rfl (lv_at hl 2 rfl) ?_
  refine lv_imul hx hb dX12_change_20 ?_
  refine lv_iload_n hx hb dX12_change_21 rfl (lv_at hl 1 rfl) ?_
  refine lv_iadd hx hb dX12_change_22 ?_
  refine ml_38 C hw hf.1 dX12_change_23 (fun y_2 e9 => ?_)
  replace hf := hf.2 y_2 e9
  clear e9
  refine lv_isub hx hb dX12_change_24 ?_
  exact th_iret C hw hf dX12_change_25
/-! X12_may -/
theorem dX12_may_0 : decode cX12_may 0 = .ok (.aload_n 0, 1) := by decide +kernel
theorem dX12_may_1 : decode cX12_may 1 = .ok (.getfield 113, 3) := by decide +kernel
theorem dX12_may_4 : decode cX12_may 4 = .ok (.iload_n 1, 1) := by decide +kernel
theorem dX12_may_5 : decode cX12_may 5 = .ok (.iload_n 2, 1) := by decide +kernel
theorem dX12_may_6 : decode cX12_may 6 = .ok (.aload_n 0, 1) := by decide +kernel
theorem dX12_may_7 : decode cX12_may 7 = .ok (.getfield 113, 3) := by decide +kernel
theorem dX12_may_10 : decode cX12_may 10 = .ok (.iload_n 1, 1) := by decide +kernel
theorem dX12_may_11 : decode cX12_may 11 = .ok (.iaload, 1) := by decide +kernel
theorem dX12_may_12 : decode cX12_may 12 = .ok (.if_icmp .ge 7, 3) := by decide +kernel
theorem dX12_may_15 : decode cX12_may 15 = .ok (.iload_n 2, 1) := by decide +kernel
theorem dX12_may_16 : decode cX12_may 16 = .ok (.goto 9, 3) := by decide +kernel
theorem dX12_may_19 : decode cX12_may 19 = .ok (.aload_n 0, 1) := by decide +kernel
theorem dX12_may_20 : decode cX12_may 20 = .ok (.getfield 113, 3) := by decide +kernel
theorem dX12_may_23 : decode cX12_may 23 = .ok (.iload_n 1, 1) := by decide +kernel
theorem dX12_may_24 : decode cX12_may 24 = .ok (.iaload, 1) := by decide +kernel
theorem dX12_may_25 : decode cX12_may 25 = .ok (.iastore, 1) := by decide +kernel
theorem dX12_may_26 : decode cX12_may 26 = .ok (.aload_n 0, 1) := by decide +kernel
theorem dX12_may_27 : decode cX12_may 27 = .ok (.getfield 116, 3) := by decide +kernel
theorem dX12_may_30 : decode cX12_may 30 = .ok (.iload_n 1, 1) := by decide +kernel
theorem dX12_may_31 : decode cX12_may 31 = .ok (.iload_n 2, 1) := by decide +kernel
theorem dX12_may_32 : decode cX12_may 32 = .ok (.aload_n 0, 1) := by decide +kernel
theorem dX12_may_33 : decode cX12_may 33 = .ok (.getfield 116, 3) := by decide +kernel
theorem dX12_may_36 : decode cX12_may 36 = .ok (.iload_n 1, 1) := by decide +kernel
theorem dX12_may_37 : decode cX12_may 37 = .ok (.iaload, 1) := by decide +kernel
theorem dX12_may_38 : decode cX12_may 38 = .ok (.if_icmp .le 7, 3) := by decide +kernel
theorem dX12_may_41 : decode cX12_may 41 = .ok (.iload_n 2, 1) := by decide +kernel
theorem dX12_may_42 : decode cX12_may 42 = .ok (.goto 9, 3) := by decide +kernel
theorem dX12_may_45 : decode cX12_may 45 = .ok (.aload_n 0, 1) := by decide +kernel
theorem dX12_may_46 : decode cX12_may 46 = .ok (.getfield 116, 3) := by decide +kernel
theorem dX12_may_49 : decode cX12_may 49 = .ok (.iload_n 1, 1) := by decide +kernel
theorem dX12_may_50 : decode cX12_may 50 = .ok (.iaload, 1) := by decide +kernel
theorem dX12_may_51 : decode cX12_may 51 = .ok (.iastore, 1) := by decide +kernel
theorem dX12_may_52 : decode cX12_may 52 = .ok (.return_, 1) := by decide +kernel
def M_may_51 (K : th_St → Prop) (z0 : Int32) (z1 : Int32) (u : th_St) : Prop :=
  (vp_in z1 48 ∧ ∀ u_1 : th_St, u_1 = th_sa u 47 (upd (u.2.2.1 47) (z1).toNatClampNeg z0) → K u_1)
set_option maxHeartbeats 4000000 in
set_option maxRecDepth 100000 in
theorem M_may_51_w {K : th_St → Prop} (C : th_Cx p s m args meth c cX12_may RX12 3 (none) (dC, dI) (th_ty cs) th_E0 A) (z0 : Int32) (z1 : Int32) (u : th_St) (H : Heap) (locs : List Loc) (ls : Array Slot) (hf : M_may_51 K z0 z1 u) (hw : th_wI (dC, dI) (wM cs q) A s.heap u H locs) (hl : lv_has ls 3 []) : W p l e (th_rm 0 0 0) s m args below meth c H locs 0 0 (MQ below (va_Qv K (th_Post (dC, dI) (wM cs q) A) A) args s 0 0 A) (F0 m 51 ls [.int z0, .int z1, .ref (q 47)]) := by
  have hx := C.1
  have hb := C.2.1
  unfold M_may_51 at hf
  refine ms_47 C hw hf.1 dX12_may_51 (fun u_1 e9 H locs hw => ?_)
  replace hf := hf.2 u_1 e9
  clear e9
  exact th_vret C hw hf dX12_may_52
def M_may_25 (K : th_St → Prop) (x1 : Int32) (x2 : Int32) (z0 : Int32) (z1 : Int32) (u : th_St) : Prop :=
  (vp_in z1 48 ∧ ∀ u_1 : th_St, u_1 = th_sa u 46 (upd (u.2.2.1 46) (z1).toNatClampNeg z0) → (vp_in x1 48 ∧ ∀ y_2 : Int32, y_2 = u_1.2.2.1 47 (x1).toNatClampNeg → ((x2 ≤ y_2 → (vp_in x1 48 ∧ ∀ y_3 : Int32, y_3 = u_1.2.2.1 47 (x1).toNatClampNeg → M_may_51 K y_3 x1 u_1)) ∧ (¬ x2 ≤ y_2 → M_may_51 K x2 x1 u_1))))
set_option maxHeartbeats 4000000 in
set_option maxRecDepth 100000 in
theorem M_may_25_w {K : th_St → Prop} (C : th_Cx p s m args meth c cX12_may RX12 3 (none) (dC, dI) (th_ty cs) th_E0 A) (x1 : Int32) (x2 : Int32) (z0 : Int32) (z1 : Int32) (u : th_St) (H : Heap) (locs : List Loc) (ls : Array Slot) (hf : M_may_25 K x1 x2 z0 z1 u) (hw : th_wI (dC, dI) (wM cs q) A s.heap u H locs) (hl : lv_has ls 3 [(0, .ref (q 0)), (1, .int x1), (2, .int x2)]) : W p l e (th_rm 0 0 0) s m args below meth c H locs 0 0 (MQ below (va_Qv K (th_Post (dC, dI) (wM cs q) A) A) args s 0 0 A) (F0 m 25 ls [.int z0, .int z1, .ref (q 46)]) := by
  have hx := C.1
  have hb := C.2.1
  unfold M_may_25 at hf
  refine ms_46 C hw hf.1 dX12_may_25 (fun u_1 e9 H locs hw => ?_)
  replace hf := hf.2 u_1 e9
  clear e9
  refine lv_aload_n hx hb dX12_may_26 rfl (lv_at hl 0 rfl) ?_
  refine mg_47 C hw dX12_may_27 ?_
  refine lv_iload_n hx hb dX12_may_30 rfl (lv_at hl 1 rfl) ?_
  refine lv_iload_n hx hb dX12_may_31 rfl (lv_at hl 2 rfl) ?_
  refine lv_aload_n hx hb dX12_may_32 rfl (lv_at hl 0 rfl) ?_
  refine mg_47 C hw dX12_may_33 ?_
  refine lv_iload_n hx hb dX12_may_36 rfl (lv_at hl 1 rfl) ?_
  refine ml_47 C hw hf.1 dX12_may_37 (fun y_2 e9 => ?_)
  replace hf := hf.2 y_2 e9
  clear e9
  refine lv_icmp_le (tgt := 45) hx hb dX12_may_38 (by decide) (fun hc => ?_) (fun hc => ?_)
  · replace hf := hf.1 hc
    clear hc
    refine lv_aload_n hx hb dX12_may_45 rfl (lv_at hl 0 rfl) ?_
    refine mg_47 C hw dX12_may_46 ?_
    refine lv_iload_n hx hb dX12_may_49 rfl (lv_at hl 1 rfl) ?_
    refine ml_47 C hw hf.1 dX12_may_50 (fun y_3 e9 => ?_)
    replace hf := hf.2 y_3 e9
    clear e9
    exact M_may_51_w C y_3 x1 u_1 _ _ _ hf hw (lv_sub hl [] rfl)
  · replace hf := hf.2 hc
    clear hc
    refine lv_iload_n hx hb dX12_may_41 rfl (lv_at hl 2 rfl) ?_
    refine lv_goto (tgt := 51) hx hb dX12_may_42 (by decide) ?_
    exact M_may_51_w C x2 x1 u_1 _ _ _ hf hw (lv_sub hl [] rfl)
def M_may (a1 : Int32) (a2 : Int32) (u : th_St) (K : th_St → Prop) : Prop :=
  (vp_in a1 48 ∧ ∀ y_1 : Int32, y_1 = u.2.2.1 46 (a1).toNatClampNeg → ((y_1 ≤ a2 → (vp_in a1 48 ∧ ∀ y_2 : Int32, y_2 = u.2.2.1 46 (a1).toNatClampNeg → M_may_25 K a1 a2 y_2 a1 u)) ∧ (¬ y_1 ≤ a2 → M_may_25 K a1 a2 a2 a1 u)))
set_option maxHeartbeats 4000000 in
set_option maxRecDepth 100000 in
theorem M_may_c {l : Launch} {dC : Nat → ClassId} {dI : Nat → Nat → Nat} {cs : Nat → ClassId} {q : Nat → Nat} {a1 : Int32} {a2 : Int32} {u : th_St} {K : th_St → Prop} (hf : M_may a1 a2 u K) : th_Cv l yX12_may cX12_may 3 (none) 0 0 0 (dC, dI) (th_ty cs) th_E0 (wM cs q) [.ref (q 0), .int a1, .int a2] u K := by
  refine th_ofv (by decide) (Nat.le_of_ble_eq_true rfl) th_E0_ok ?_
  intro p e s m below meth c A ls C hw hl
  have C : th_Cx p s m _ meth c cX12_may RX12 3 (none) (dC, dI) (th_ty cs) th_E0 A := C
  have hl : lv_has ls 3 [(0, .ref (q 0)), (1, .int a1), (2, .int a2)] := hl
  generalize (List.toArray _ : Array Value) = args at C ⊢
  have hx := C.1
  have hb := C.2.1
  unfold M_may at hf
  refine lv_aload_n hx hb dX12_may_0 rfl (lv_at hl 0 rfl) ?_
  refine mg_46 C hw dX12_may_1 ?_
  refine lv_iload_n hx hb dX12_may_4 rfl (lv_at hl 1 rfl) ?_
  refine lv_iload_n hx hb dX12_may_5 rfl (lv_at hl 2 rfl) ?_
  refine lv_aload_n hx hb dX12_may_6 rfl (lv_at hl 0 rfl) ?_
  refine mg_46 C hw dX12_may_7 ?_
  refine lv_iload_n hx hb dX12_may_10 rfl (lv_at hl 1 rfl) ?_
  refine ml_46 C hw hf.1 dX12_may_11 (fun y_1 e9 => ?_)
  replace hf := hf.2 y_1 e9
  clear e9
  refine lv_icmp_ge (tgt := 19) hx hb dX12_may_12 (by decide) (fun hc => ?_) (fun hc => ?_)
  · replace hf := hf.1 hc
    clear hc
    refine lv_aload_n hx hb dX12_may_19 rfl (lv_at hl 0 rfl) ?_
    refine mg_46 C hw dX12_may_20 ?_
    refine lv_iload_n hx hb dX12_may_23 rfl (lv_at hl 1 rfl) ?_
    refine ml_46 C hw hf.1 dX12_may_24 (fun y_2 e9 => ?_)
    replace hf := hf.2 y_2 e9
    clear e9
    exact M_may_25_w C a1 a2 y_2 a1 u _ _ _ hf hw (lv_sub hl [0, 1, 2] rfl)
  · replace hf := hf.2 hc
    clear hc
    refine lv_iload_n hx hb dX12_may_15 rfl (lv_at hl 2 rfl) ?_
    refine lv_goto (tgt := 25) hx hb dX12_may_16 (by decide) ?_
    exact M_may_25_w C a1 a2 a2 a1 u _ _ _ hf hw (lv_sub hl [0, 1, 2] rfl)
/-! X12_common -/
theorem dX12_common_0 : decode cX12_common 0 = .ok (.lload_n 0, 1) := by decide +kernel
theorem dX12_common_1 : decode cX12_common 1 = .ok (.lstore 4, 2) := by decide +kernel
theorem dX12_common_3 : decode cX12_common 3 = .ok (.lload_n 2, 1) := by decide +kernel
theorem dX12_common_4 : decode cX12_common 4 = .ok (.lstore 6, 2) := by decide +kernel
theorem dX12_common_6 : decode cX12_common 6 = .ok (.lload 6, 2) := by decide +kernel
theorem dX12_common_8 : decode cX12_common 8 = .ok (.lconst 0, 1) := by decide +kernel
theorem dX12_common_9 : decode cX12_common 9 = .ok (.lcmp, 1) := by decide +kernel
theorem dX12_common_10 : decode cX12_common 10 = .ok (.ifCond .eq 21, 3) := by decide +kernel
theorem dX12_common_13 : decode cX12_common 13 = .ok (.lload 4, 2) := by decide +kernel
theorem dX12_common_15 : decode cX12_common 15 = .ok (.lload 6, 2) := by decide +kernel
theorem dX12_common_17 : decode cX12_common 17 = .ok (.lrem, 1) := by decide +kernel
theorem dX12_common_18 : decode cX12_common 18 = .ok (.lstore 8, 2) := by decide +kernel
theorem dX12_common_20 : decode cX12_common 20 = .ok (.lload 6, 2) := by decide +kernel
theorem dX12_common_22 : decode cX12_common 22 = .ok (.lstore 4, 2) := by decide +kernel
theorem dX12_common_24 : decode cX12_common 24 = .ok (.lload 8, 2) := by decide +kernel
theorem dX12_common_26 : decode cX12_common 26 = .ok (.lstore 6, 2) := by decide +kernel
theorem dX12_common_28 : decode cX12_common 28 = .ok (.goto (-22), 3) := by decide +kernel
theorem dX12_common_31 : decode cX12_common 31 = .ok (.lload 4, 2) := by decide +kernel
theorem dX12_common_33 : decode cX12_common 33 = .ok (.lreturn, 1) := by decide +kernel
def M_common_6 (K : Int64 → th_St → Prop) (k6 : Int64 → Int64 → th_St → Prop) (x4 : Int64) (x6 : Int64) (u : th_St) : Prop :=
  (((lg_cmp x6 (0 : Int64)) = 0 → K x4 u) ∧ (¬ (lg_cmp x6 (0 : Int64)) = 0 → (¬ x6 = 0 ∧ ∀ y_1 : Int64, y_1 = (x4 - x4 / x6 * x6) → k6 x6 y_1 u)))
set_option maxHeartbeats 4000000 in
set_option maxRecDepth 100000 in
theorem M_common_6_w {K : Int64 → th_St → Prop} {k6 : Int64 → Int64 → th_St → Prop} (C : th_Cx p s m args meth c cX12_common RX12 10 (some .long) (dC, dI) (th_ty cs) th_E0 A) (hk6 : ∀ (x4 : Int64) (x6 : Int64) (u : th_St) (H : Heap) (locs : List Loc) (ls : Array Slot), k6 x4 x6 u → th_wI (dC, dI) (wM cs q) A s.heap u H locs → lv_has ls 10 [(4, .long x4), (6, .long x6)] → W p l e (th_rm 0 0 0) s m args below meth c H locs 0 0 (MQ below (va_Ql K (th_Post (dC, dI) (wM cs q) A) A) args s 0 0 A) (F0 m 6 ls [])) (x4 : Int64) (x6 : Int64) (u : th_St) (H : Heap) (locs : List Loc) (ls : Array Slot) (hf : M_common_6 K k6 x4 x6 u) (hw : th_wI (dC, dI) (wM cs q) A s.heap u H locs) (hl : lv_has ls 10 [(4, .long x4), (6, .long x6)]) : W p l e (th_rm 0 0 0) s m args below meth c H locs 0 0 (MQ below (va_Ql K (th_Post (dC, dI) (wM cs q) A) A) args s 0 0 A) (F0 m 6 ls []) := by
  have hx := C.1
  have hb := C.2.1
  unfold M_common_6 at hf
  refine lv_lload hx hb dX12_common_6 (lv_at hl 1 rfl) ?_
  refine lv_lconst (v := (0 : Int64)) hx hb dX12_common_8 (by decide) ?_
  refine W.lcmp hx hb dX12_common_9 ?_
  refine lv_if_eq (tgt := 31) hx hb dX12_common_10 (by decide) (fun hc => ?_) (fun hc => ?_)
  · replace hf := hf.1 hc
    clear hc
    refine lv_lload hx hb dX12_common_31 (lv_at hl 0 rfl) ?_
    exact th_lret C hw hf dX12_common_33
  · replace hf := hf.2 hc
    clear hc
    refine lv_lload hx hb dX12_common_13 (lv_at hl 0 rfl) ?_
    refine lv_lload hx hb dX12_common_15 (lv_at hl 1 rfl) ?_
    refine lv_lrem hx hb dX12_common_17 hf.1 ?_
    replace hf := hf.2
    refine lv_topl (fun y_1 e9 => ?_)
    replace hf := hf y_1 e9
    clear e9
    refine lv_lstore (lv' := [(8, .long y_1), (4, .long x4), (6, .long x6)]) hx hb dX12_common_18 hl (by decide) rfl (fun ls hl => ?_)
    refine lv_lload hx hb dX12_common_20 (lv_at hl 2 rfl) ?_
    refine lv_lstore (lv' := [(4, .long x6), (8, .long y_1), (6, .long x6)]) hx hb dX12_common_22 hl (by decide) rfl (fun ls hl => ?_)
    refine lv_lload hx hb dX12_common_24 (lv_at hl 1 rfl) ?_
    refine lv_lstore (lv' := [(6, .long y_1), (4, .long x6), (8, .long y_1)]) hx hb dX12_common_26 hl (by decide) rfl (fun ls hl => ?_)
    refine lv_goto (tgt := 6) hx hb dX12_common_28 (by decide) ?_
    exact hk6 x6 y_1 u _ _ _ hf hw (lv_sub hl [1, 0] rfl)
def M_common_6_lp (K : Int64 → th_St → Prop) : Nat → Int64 → Int64 → th_St → Prop
  | 0, _, _, _ => False
  | n + 1, x4, x6, u => M_common_6 K (M_common_6_lp K n) x4 x6 u
set_option maxHeartbeats 4000000 in
set_option maxRecDepth 100000 in
theorem M_common_6_lw {K : Int64 → th_St → Prop} (C : th_Cx p s m args meth c cX12_common RX12 10 (some .long) (dC, dI) (th_ty cs) th_E0 A) (n : Nat) : ∀ (x4 : Int64) (x6 : Int64) (u : th_St) (H : Heap) (locs : List Loc) (ls : Array Slot), M_common_6_lp K n x4 x6 u → th_wI (dC, dI) (wM cs q) A s.heap u H locs → lv_has ls 10 [(4, .long x4), (6, .long x6)] → W p l e (th_rm 0 0 0) s m args below meth c H locs 0 0 (MQ below (va_Ql K (th_Post (dC, dI) (wM cs q) A) A) args s 0 0 A) (F0 m 6 ls []) := by
  induction n with
  | zero => intro x4 x6 u H locs ls hf; exact hf.elim
  | succ n ih =>
    intro x4 x6 u H locs ls hf hw hl
    exact M_common_6_w C ih x4 x6 u H locs ls hf hw hl
def M_common (a1 : Int64) (a2 : Int64) (u : th_St) (K : Int64 → th_St → Prop) : Prop :=
  ∃ n, M_common_6_lp K n a1 a2 u
set_option maxHeartbeats 4000000 in
set_option maxRecDepth 100000 in
theorem M_common_c {l : Launch} {dC : Nat → ClassId} {dI : Nat → Nat → Nat} {cs : Nat → ClassId} {q : Nat → Nat} {a1 : Int64} {a2 : Int64} {u : th_St} {K : Int64 → th_St → Prop} (hf : M_common a1 a2 u K) : th_Cl l yX12_common cX12_common 10 (some .long) 0 0 0 (dC, dI) (th_ty cs) th_E0 (wM cs q) [.long a1, .long a2] u K := by
  refine th_ofl (by decide) (Nat.le_of_ble_eq_true rfl) th_E0_ok ?_
  intro p e s m below meth c A ls C hw hl
  have C : th_Cx p s m _ meth c cX12_common RX12 10 (some .long) (dC, dI) (th_ty cs) th_E0 A := C
  have hl : lv_has ls 10 [(0, .long a1), (2, .long a2)] := hl
  generalize (List.toArray _ : Array Value) = args at C ⊢
  have hx := C.1
  have hb := C.2.1
  unfold M_common at hf
  refine lv_lload_n hx hb dX12_common_0 rfl (lv_at hl 0 rfl) ?_
  refine lv_lstore (lv' := [(4, .long a1), (0, .long a1), (2, .long a2)]) hx hb dX12_common_1 hl (by decide) rfl (fun ls hl => ?_)
  refine lv_lload_n hx hb dX12_common_3 rfl (lv_at hl 2 rfl) ?_
  refine lv_lstore (lv' := [(6, .long a2), (4, .long a1), (0, .long a1), (2, .long a2)]) hx hb dX12_common_4 hl (by decide) rfl (fun ls hl => ?_)
  obtain ⟨n, hf⟩ := hf
  exact M_common_6_lw C n a1 a2 u _ _ _ hf hw (lv_sub hl [1, 0] rfl)
end

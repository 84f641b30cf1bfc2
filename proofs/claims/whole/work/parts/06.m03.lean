section
variable {p : Program} {l : Launch} {e : Env} {s : State} {m : MethodId} {args : Array Value} {below : List Frame} {meth : Method} {c : Code} {dC : Nat → ClassId} {dI : Nat → Nat → Nat} {cs : Nat → ClassId} {q : Nat → Nat} {A : Nat → Prop}
/-! X12_event -/
theorem dX12_event_0 : decode cX12_event 0 = .ok (.aload_n 0, 1) := by decide +kernel
theorem dX12_event_1 : decode cX12_event 1 = .ok (.iconst 0, 1) := by decide +kernel
theorem dX12_event_2 : decode cX12_event 2 = .ok (.putfield 1, 3) := by decide +kernel
theorem dX12_event_5 : decode cX12_event 5 = .ok (.iload_n 1, 1) := by decide +kernel
theorem dX12_event_6 : decode cX12_event 6 = .ok (.iconst 0, 1) := by decide +kernel
theorem dX12_event_7 : decode cX12_event 7 = .ok (.aload_n 0, 1) := by decide +kernel
theorem dX12_event_8 : decode cX12_event 8 = .ok (.getfield 383, 3) := by decide +kernel
theorem dX12_event_11 : decode cX12_event 11 = .ok (.iconst 1, 1) := by decide +kernel
theorem dX12_event_12 : decode cX12_event 12 = .ok (.isub, 1) := by decide +kernel
theorem dX12_event_13 : decode cX12_event 13 = .ok (.invokestatic 24, 3) := by decide +kernel
theorem dX12_event_16 : decode cX12_event 16 = .ok (.ifCond .ne 5, 3) := by decide +kernel
theorem dX12_event_19 : decode cX12_event 19 = .ok (.iconst (-1), 1) := by decide +kernel
theorem dX12_event_20 : decode cX12_event 20 = .ok (.ireturn, 1) := by decide +kernel
theorem dX12_event_21 : decode cX12_event 21 = .ok (.iload_n 2, 1) := by decide +kernel
theorem dX12_event_22 : decode cX12_event 22 = .ok (.ifCond .ne 12, 3) := by decide +kernel
theorem dX12_event_25 : decode cX12_event 25 = .ok (.aload_n 0, 1) := by decide +kernel
theorem dX12_event_26 : decode cX12_event 26 = .ok (.getfield 131, 3) := by decide +kernel
theorem dX12_event_29 : decode cX12_event 29 = .ok (.iload_n 1, 1) := by decide +kernel
theorem dX12_event_30 : decode cX12_event 30 = .ok (.iaload, 1) := by decide +kernel
theorem dX12_event_31 : decode cX12_event 31 = .ok (.goto 32, 3) := by decide +kernel
theorem dX12_event_34 : decode cX12_event 34 = .ok (.iload_n 2, 1) := by decide +kernel
theorem dX12_event_35 : decode cX12_event 35 = .ok (.iconst 1, 1) := by decide +kernel
theorem dX12_event_36 : decode cX12_event 36 = .ok (.if_icmp .ne 12, 3) := by decide +kernel
theorem dX12_event_39 : decode cX12_event 39 = .ok (.aload_n 0, 1) := by decide +kernel
theorem dX12_event_40 : decode cX12_event 40 = .ok (.getfield 134, 3) := by decide +kernel
theorem dX12_event_43 : decode cX12_event 43 = .ok (.iload_n 1, 1) := by decide +kernel
theorem dX12_event_44 : decode cX12_event 44 = .ok (.iaload, 1) := by decide +kernel
theorem dX12_event_45 : decode cX12_event 45 = .ok (.goto 18, 3) := by decide +kernel
theorem dX12_event_48 : decode cX12_event 48 = .ok (.iload_n 2, 1) := by decide +kernel
theorem dX12_event_49 : decode cX12_event 49 = .ok (.iconst 2, 1) := by decide +kernel
theorem dX12_event_50 : decode cX12_event 50 = .ok (.if_icmp .ne 12, 3) := by decide +kernel
theorem dX12_event_53 : decode cX12_event 53 = .ok (.aload_n 0, 1) := by decide +kernel
theorem dX12_event_54 : decode cX12_event 54 = .ok (.getfield 137, 3) := by decide +kernel
theorem dX12_event_57 : decode cX12_event 57 = .ok (.iload_n 1, 1) := by decide +kernel
theorem dX12_event_58 : decode cX12_event 58 = .ok (.iaload, 1) := by decide +kernel
theorem dX12_event_59 : decode cX12_event 59 = .ok (.goto 4, 3) := by decide +kernel
theorem dX12_event_62 : decode cX12_event 62 = .ok (.iconst (-1), 1) := by decide +kernel
theorem dX12_event_63 : decode cX12_event 63 = .ok (.ireturn, 1) := by decide +kernel
def M_event_63 (K : Int32 → th_St → Prop) (z0 : Int32) (u : th_St) : Prop :=
  K z0 u
set_option maxHeartbeats 4000000 in
set_option maxRecDepth 100000 in
theorem M_event_63_w {K : Int32 → th_St → Prop} (C : th_Cx p s m args meth c cX12_event RX12 3 (some .int) (dC, dI) (th_ty cs) th_E0 A) (z0 : Int32) (u : th_St) (H : Heap) (locs : List Loc) (ls : Array Slot) (hf : M_event_63 K z0 u) (hw : th_wI (dC, dI) (wM cs q) A s.heap u H locs) (hl : lv_has ls 3 []) : W p l e (th_rm 1 0 0) s m args below meth c H locs 0 0 (MQ below (va_Qi K (th_Post (dC, dI) (wM cs q) A) A) args s 0 0 A) (F0 m 63 ls [.int z0]) := by
  have hx := C.1
  have hb := C.2.1
  unfold M_event_63 at hf
  exact th_iret C hw hf dX12_event_63
def M_event (a1 : Int32) (a2 : Int32) (u : th_St) (K : Int32 → th_St → Prop) : Prop :=
  ∀ u_1 : th_St, u_1 = th_si u 0 (0 : Int32) → M_isIn a1 (0 : Int32) ((u_1.1 56) - (1 : Int32)) u_1 (fun r_3 u_2 => ((¬ r_3 = 0 → ((¬ a2 = 0 → ((¬ a2 = (1 : Int32) → ((¬ a2 = (2 : Int32) → M_event_63 K (-1 : Int32) u_2) ∧ (a2 = (2 : Int32) → (vp_in a1 48 ∧ ∀ y_4 : Int32, y_4 = u_2.2.2.1 55 (a1).toNatClampNeg → M_event_63 K y_4 u_2)))) ∧ (a2 = (1 : Int32) → (vp_in a1 48 ∧ ∀ y_5 : Int32, y_5 = u_2.2.2.1 54 (a1).toNatClampNeg → M_event_63 K y_5 u_2)))) ∧ (a2 = 0 → (vp_in a1 48 ∧ ∀ y_6 : Int32, y_6 = u_2.2.2.1 53 (a1).toNatClampNeg → M_event_63 K y_6 u_2)))) ∧ (r_3 = 0 → K (-1 : Int32) u_2)))
set_option maxHeartbeats 4000000 in
set_option maxRecDepth 100000 in
theorem M_event_c {l : Launch} {dC : Nat → ClassId} {dI : Nat → Nat → Nat} {cs : Nat → ClassId} {q : Nat → Nat} {a1 : Int32} {a2 : Int32} {u : th_St} {K : Int32 → th_St → Prop} (hf : M_event a1 a2 u K) : th_Ci l yX12_event cX12_event 3 (some .int) 1 0 0 (dC, dI) (th_ty cs) th_E0 (wM cs q) [.ref (q 0), .int a1, .int a2] u K := by
  refine th_ofi (by decide) (Nat.le_of_ble_eq_true rfl) th_E0_ok ?_
  intro p e s m below meth c A ls C hw hl
  have C : th_Cx p s m _ meth c cX12_event RX12 3 (some .int) (dC, dI) (th_ty cs) th_E0 A := C
  have hl : lv_has ls 3 [(0, .ref (q 0)), (1, .int a1), (2, .int a2)] := hl
  generalize (List.toArray _ : Array Value) = args at C ⊢
  have hx := C.1
  have hb := C.2.1
  unfold M_event at hf
  refine lv_aload_n hx hb dX12_event_0 rfl (lv_at hl 0 rfl) ?_
  refine lv_iconst (v := (0 : Int32)) hx hb dX12_event_1 (by decide) ?_
  refine mp_0 C hw dX12_event_2 (fun u_1 e9 H locs hw => ?_)
  replace hf := hf u_1 e9
  clear e9
  refine lv_iload_n hx hb dX12_event_5 rfl (lv_at hl 1 rfl) ?_
  refine lv_iconst (v := (0 : Int32)) hx hb dX12_event_6 (by decide) ?_
  refine lv_aload_n hx hb dX12_event_7 rfl (lv_at hl 0 rfl) ?_
  refine mg_56 C hw dX12_event_8 ?_
  refine lv_iconst (v := (1 : Int32)) hx hb dX12_event_11 (by decide) ?_
  refine lv_isub hx hb dX12_event_12 ?_
  refine th_callSi (As := [.int a1, .int (0 : Int32), .int ((u_1.1 56) - (1 : Int32))]) (rest := []) C lkX12_24 (M_isIn_c hf) hw rfl rfl ⟨Nat.le_of_ble_eq_true rfl, Nat.le_of_ble_eq_true rfl⟩ hl.1 (Nat.le_of_ble_eq_true rfl) ⟨Nat.le_refl _, Nat.le_refl _⟩ dX12_event_13 (fun r_3 u_2 H locs hf hw => ?_)
  refine lv_if_ne (tgt := 21) hx hb dX12_event_16 (by decide) (fun hc => ?_) (fun hc => ?_)
  · replace hf := hf.1 hc
    clear hc
    refine lv_iload_n hx hb dX12_event_21 rfl (lv_at hl 2 rfl) ?_
    refine lv_if_ne (tgt := 34) hx hb dX12_event_22 (by decide) (fun hc => ?_) (fun hc => ?_)
    · replace hf := hf.1 hc
      clear hc
      refine lv_iload_n hx hb dX12_event_34 rfl (lv_at hl 2 rfl) ?_
      refine lv_iconst (v := (1 : Int32)) hx hb dX12_event_35 (by decide) ?_
      refine lv_icmp_ne (tgt := 48) hx hb dX12_event_36 (by decide) (fun hc => ?_) (fun hc => ?_)
      · replace hf := hf.1 hc
        clear hc
        refine lv_iload_n hx hb dX12_event_48 rfl (lv_at hl 2 rfl) ?_
        refine lv_iconst (v := (2 : Int32)) hx hb dX12_event_49 (by decide) ?_
        refine lv_icmp_ne (tgt := 62) hx hb dX12_event_50 (by decide) (fun hc => ?_) (fun hc => ?_)
        · replace hf := hf.1 hc
          clear hc
          refine lv_iconst (v := (-1 : Int32)) hx hb dX12_event_62 (by decide) ?_
          exact M_event_63_w C (-1 : Int32) u_2 _ _ _ hf hw (lv_sub hl [] rfl)
        · replace hf := hf.2 hc
          clear hc
          refine lv_aload_n hx hb dX12_event_53 rfl (lv_at hl 0 rfl) ?_
          refine mg_55 C hw dX12_event_54 ?_
          refine lv_iload_n hx hb dX12_event_57 rfl (lv_at hl 1 rfl) ?_
          refine ml_55 C hw hf.1 dX12_event_58 (fun y_4 e9 => ?_)
          replace hf := hf.2 y_4 e9
          clear e9
          refine lv_goto (tgt := 63) hx hb dX12_event_59 (by decide) ?_
          exact M_event_63_w C y_4 u_2 _ _ _ hf hw (lv_sub hl [] rfl)
      · replace hf := hf.2 hc
        clear hc
        refine lv_aload_n hx hb dX12_event_39 rfl (lv_at hl 0 rfl) ?_
        refine mg_54 C hw dX12_event_40 ?_
        refine lv_iload_n hx hb dX12_event_43 rfl (lv_at hl 1 rfl) ?_
        refine ml_54 C hw hf.1 dX12_event_44 (fun y_5 e9 => ?_)
        replace hf := hf.2 y_5 e9
        clear e9
        refine lv_goto (tgt := 63) hx hb dX12_event_45 (by decide) ?_
        exact M_event_63_w C y_5 u_2 _ _ _ hf hw (lv_sub hl [] rfl)
    · replace hf := hf.2 hc
      clear hc
      refine lv_aload_n hx hb dX12_event_25 rfl (lv_at hl 0 rfl) ?_
      refine mg_53 C hw dX12_event_26 ?_
      refine lv_iload_n hx hb dX12_event_29 rfl (lv_at hl 1 rfl) ?_
      refine ml_53 C hw hf.1 dX12_event_30 (fun y_6 e9 => ?_)
      replace hf := hf.2 y_6 e9
      clear e9
      refine lv_goto (tgt := 63) hx hb dX12_event_31 (by decide) ?_
      exact M_event_63_w C y_6 u_2 _ _ _ hf hw (lv_sub hl [] rfl)
  · replace hf := hf.2 hc
    clear hc
    refine lv_iconst (v := (-1 : Int32)) hx hb dX12_event_19 (by decide) ?_
    exact th_iret C hw hf dX12_event_20
/-! X12_walked -/
theorem dX12_walked_0 : decode cX12_walked 0 = .ok (.aload_n 0, 1) := by decide +kernel
theorem dX12_walked_1 : decode cX12_walked 1 = .ok (.iconst 0, 1) := by decide +kernel
theorem dX12_walked_2 : decode cX12_walked 2 = .ok (.putfield 1, 3) := by decide +kernel
theorem dX12_walked_5 : decode cX12_walked 5 = .ok (.iload_n 1, 1) := by decide +kernel
theorem dX12_walked_6 : decode cX12_walked 6 = .ok (.iconst 0, 1) := by decide +kernel
theorem dX12_walked_7 : decode cX12_walked 7 = .ok (.aload_n 0, 1) := by decide +kernel
theorem dX12_walked_8 : decode cX12_walked 8 = .ok (.getfield 389, 3) := by decide +kernel
theorem dX12_walked_11 : decode cX12_walked 11 = .ok (.iconst 1, 1) := by decide +kernel
theorem dX12_walked_12 : decode cX12_walked 12 = .ok (.isub, 1) := by decide +kernel
theorem dX12_walked_13 : decode cX12_walked 13 = .ok (.invokestatic 24, 3) := by decide +kernel
theorem dX12_walked_16 : decode cX12_walked 16 = .ok (.ifCond .eq 12, 3) := by decide +kernel
theorem dX12_walked_19 : decode cX12_walked 19 = .ok (.aload_n 0, 1) := by decide +kernel
theorem dX12_walked_20 : decode cX12_walked 20 = .ok (.getfield 143, 3) := by decide +kernel
theorem dX12_walked_23 : decode cX12_walked 23 = .ok (.iload_n 1, 1) := by decide +kernel
theorem dX12_walked_24 : decode cX12_walked 24 = .ok (.iaload, 1) := by decide +kernel
theorem dX12_walked_25 : decode cX12_walked 25 = .ok (.goto 4, 3) := by decide +kernel
theorem dX12_walked_28 : decode cX12_walked 28 = .ok (.iconst (-1), 1) := by decide +kernel
theorem dX12_walked_29 : decode cX12_walked 29 = .ok (.ireturn, 1) := by decide +kernel
def M_walked_29 (K : Int32 → th_St → Prop) (z0 : Int32) (u : th_St) : Prop :=
  K z0 u
set_option maxHeartbeats 4000000 in
set_option maxRecDepth 100000 in
theorem M_walked_29_w {K : Int32 → th_St → Prop} (C : th_Cx p s m args meth c cX12_walked RX12 2 (some .int) (dC, dI) (th_ty cs) th_E0 A) (z0 : Int32) (u : th_St) (H : Heap) (locs : List Loc) (ls : Array Slot) (hf : M_walked_29 K z0 u) (hw : th_wI (dC, dI) (wM cs q) A s.heap u H locs) (hl : lv_has ls 2 []) : W p l e (th_rm 1 0 0) s m args below meth c H locs 0 0 (MQ below (va_Qi K (th_Post (dC, dI) (wM cs q) A) A) args s 0 0 A) (F0 m 29 ls [.int z0]) := by
  have hx := C.1
  have hb := C.2.1
  unfold M_walked_29 at hf
  exact th_iret C hw hf dX12_walked_29
def M_walked (a1 : Int32) (u : th_St) (K : Int32 → th_St → Prop) : Prop :=
  ∀ u_1 : th_St, u_1 = th_si u 0 (0 : Int32) → M_isIn a1 (0 : Int32) ((u_1.1 59) - (1 : Int32)) u_1 (fun r_3 u_2 => ((r_3 = 0 → M_walked_29 K (-1 : Int32) u_2) ∧ (¬ r_3 = 0 → (vp_in a1 40 ∧ ∀ y_4 : Int32, y_4 = u_2.2.2.1 58 (a1).toNatClampNeg → M_walked_29 K y_4 u_2))))
set_option maxHeartbeats 4000000 in
set_option maxRecDepth 100000 in
theorem M_walked_c {l : Launch} {dC : Nat → ClassId} {dI : Nat → Nat → Nat} {cs : Nat → ClassId} {q : Nat → Nat} {a1 : Int32} {u : th_St} {K : Int32 → th_St → Prop} (hf : M_walked a1 u K) : th_Ci l yX12_walked cX12_walked 2 (some .int) 1 0 0 (dC, dI) (th_ty cs) th_E0 (wM cs q) [.ref (q 0), .int a1] u K := by
  refine th_ofi (by decide) (Nat.le_of_ble_eq_true rfl) th_E0_ok ?_
  intro p e s m below meth c A ls C hw hl
  have C : th_Cx p s m _ meth c cX12_walked RX12 2 (some .int) (dC, dI) (th_ty cs) th_E0 A := C
  have hl : lv_has ls 2 [(0, .ref (q 0)), (1, .int a1)] := hl
  generalize (List.toArray _ : Array Value) = args at C ⊢
  have hx := C.1
  have hb := C.2.1
  unfold M_walked at hf
  refine lv_aload_n hx hb dX12_walked_0 rfl (lv_at hl 0 rfl) ?_
  refine lv_iconst (v := (0 : Int32)) hx hb dX12_walked_1 (by decide) ?_
  refine mp_0 C hw dX12_walked_2 (fun u_1 e9 H locs hw => ?_)
  replace hf := hf u_1 e9
  clear e9
  refine lv_iload_n hx hb dX12_walked_5 rfl (lv_at hl 1 rfl) ?_
  refine lv_iconst (v := (0 : Int32)) hx hb dX12_walked_6 (by decide) ?_
  refine lv_aload_n hx hb dX12_walked_7 rfl (lv_at hl 0 rfl) ?_
  refine mg_59 C hw dX12_walked_8 ?_
  refine lv_iconst (v := (1 : Int32)) hx hb dX12_walked_11 (by decide) ?_
  refine lv_isub hx hb dX12_walked_12 ?_
  refine th_callSi (As := [.int a1, .int (0 : Int32), .int ((u_1.1 59) - (1 : Int32))]) (rest := []) C lkX12_24 (M_isIn_c hf) hw rfl rfl ⟨Nat.le_of_ble_eq_true rfl, Nat.le_of_ble_eq_true rfl⟩ hl.1 (Nat.le_of_ble_eq_true rfl) ⟨Nat.le_refl _, Nat.le_refl _⟩ dX12_walked_13 (fun r_3 u_2 H locs hf hw => ?_)
  refine lv_if_eq (tgt := 28) hx hb dX12_walked_16 (by decide) (fun hc => ?_) (fun hc => ?_)
  · replace hf := hf.1 hc
    clear hc
    refine lv_iconst (v := (-1 : Int32)) hx hb dX12_walked_28 (by decide) ?_
    exact M_walked_29_w C (-1 : Int32) u_2 _ _ _ hf hw (lv_sub hl [] rfl)
  · replace hf := hf.2 hc
    clear hc
    refine lv_aload_n hx hb dX12_walked_19 rfl (lv_at hl 0 rfl) ?_
    refine mg_58 C hw dX12_walked_20 ?_
    refine lv_iload_n hx hb dX12_walked_23 rfl (lv_at hl 1 rfl) ?_
    refine ml_58 C hw hf.1 dX12_walked_24 (fun y_4 e9 => ?_)
    replace hf := hf.2 y_4 e9
    clear e9
    refine lv_goto (tgt := 29) hx hb dX12_walked_25 (by decide) ?_
    exact M_walked_29_w C y_4 u_2 _ _ _ hf hw (lv_sub hl [] rfl)
/-! X12_differs -/
theorem dX12_differs_0 : decode cX12_differs 0 = .ok (.aload_n 0, 1) := by decide +kernel
theorem dX12_differs_1 : decode cX12_differs 1 = .ok (.getfield 14, 3) := by decide +kernel
theorem dX12_differs_4 : decode cX12_differs 4 = .ok (.iload_n 1, 1) := by decide +kernel
theorem dX12_differs_5 : decode cX12_differs 5 = .ok (.baload, 1) := by decide +kernel
theorem dX12_differs_6 : decode cX12_differs 6 = .ok (.sipush 255, 3) := by decide +kernel
theorem dX12_differs_9 : decode cX12_differs 9 = .ok (.iand, 1) := by decide +kernel
theorem dX12_differs_10 : decode cX12_differs 10 = .ok (.aload_n 0, 1) := by decide +kernel
theorem dX12_differs_11 : decode cX12_differs 11 = .ok (.getfield 14, 3) := by decide +kernel
theorem dX12_differs_14 : decode cX12_differs 14 = .ok (.iload_n 2, 1) := by decide +kernel
theorem dX12_differs_15 : decode cX12_differs 15 = .ok (.baload, 1) := by decide +kernel
theorem dX12_differs_16 : decode cX12_differs 16 = .ok (.sipush 255, 3) := by decide +kernel
theorem dX12_differs_19 : decode cX12_differs 19 = .ok (.iand, 1) := by decide +kernel
theorem dX12_differs_20 : decode cX12_differs 20 = .ok (.isub, 1) := by decide +kernel
theorem dX12_differs_21 : decode cX12_differs 21 = .ok (.invokestatic 334, 3) := by decide +kernel
theorem dX12_differs_24 : decode cX12_differs 24 = .ok (.ireturn, 1) := by decide +kernel
def M_differs (a1 : Int32) (a2 : Int32) (u : th_St) (K : Int32 → th_St → Prop) : Prop :=
  (vp_in a1 440 ∧ ∀ y_1 : Int32, y_1 = u.2.2.1 1 (a1).toNatClampNeg → (vp_in a2 440 ∧ ∀ y_2 : Int32, y_2 = u.2.2.1 1 (a2).toNatClampNeg → M_plain ((y_1 &&& (255 : Int32)) - (y_2 &&& (255 : Int32))) u (fun r_4 u_3 => K r_4 u_3)))
set_option maxHeartbeats 4000000 in
set_option maxRecDepth 100000 in
theorem M_differs_c {l : Launch} {dC : Nat → ClassId} {dI : Nat → Nat → Nat} {cs : Nat → ClassId} {q : Nat → Nat} {a1 : Int32} {a2 : Int32} {u : th_St} {K : Int32 → th_St → Prop} (hf : M_differs a1 a2 u K) : th_Ci l yX12_differs cX12_differs 3 (some .int) 1 0 0 (dC, dI) (th_ty cs) th_E0 (wM cs q) [.ref (q 0), .int a1, .int a2] u K := by
  refine th_ofi (by decide) (Nat.le_of_ble_eq_true rfl) th_E0_ok ?_
  intro p e s m below meth c A ls C hw hl
  have C : th_Cx p s m _ meth c cX12_differs RX12 3 (some .int) (dC, dI) (th_ty cs) th_E0 A := C
  have hl : lv_has ls 3 [(0, .ref (q 0)), (1, .int a1), (2, .int a2)] := hl
  generalize (List.toArray _ : Array Value) = args at C ⊢
  have hx := C.1
  have hb := C.2.1
  unfold M_differs at hf
  refine lv_aload_n hx hb dX12_differs_0 rfl (lv_at hl 0 rfl) ?_
  refine mg_1 C hw dX12_differs_1 ?_
  refine lv_iload_n hx hb dX12_differs_4 rfl (lv_at hl 1 rfl) ?_
  refine ml_1 C hw hf.1 dX12_differs_5 (fun y_1 e9 => ?_)
  replace hf := hf.2 y_1 e9
  clear e9
  refine lv_sipush (v := (255 : Int32)) hx hb dX12_differs_6 (by decide) ?_
  refine lv_iand hx hb dX12_differs_9 ?_
  refine lv_aload_n hx hb dX12_differs_10 rfl (lv_at hl 0 rfl) ?_
  refine mg_1 C hw dX12_differs_11 ?_
  refine lv_iload_n hx hb dX12_differs_14 rfl (lv_at hl 2 rfl) ?_
  refine ml_1 C hw hf.1 dX12_differs_15 (fun y_2 e9 => ?_)
  replace hf := hf.2 y_2 e9
  clear e9
  refine lv_sipush (v := (255 : Int32)) hx hb dX12_differs_16 (by decide) ?_
  refine lv_iand hx hb dX12_differs_19 ?_
  refine lv_isub hx hb dX12_differs_20 ?_
  refine th_callSi (As := [.int ((y_1 &&& (255 : Int32)) - (y_2 &&& (255 : Int32)))]) (rest := []) C lkX12_334 (M_plain_c hf) hw rfl rfl ⟨Nat.le_of_ble_eq_true rfl, Nat.le_of_ble_eq_true rfl⟩ hl.1 (Nat.le_of_ble_eq_true rfl) ⟨Nat.le_refl _, Nat.le_refl _⟩ dX12_differs_21 (fun r_4 u_3 H locs hf hw => ?_)
  exact th_iret C hw hf dX12_differs_24
/-! X12_paired -/
theorem dX12_paired_0 : decode cX12_paired 0 = .ok (.aload_n 0, 1) := by decide +kernel
theorem dX12_paired_1 : decode cX12_paired 1 = .ok (.iconst 0, 1) := by decide +kernel
theorem dX12_paired_2 : decode cX12_paired 2 = .ok (.putfield 1, 3) := by decide +kernel
theorem dX12_paired_5 : decode cX12_paired 5 = .ok (.iload_n 1, 1) := by decide +kernel
theorem dX12_paired_6 : decode cX12_paired 6 = .ok (.iconst 0, 1) := by decide +kernel
theorem dX12_paired_7 : decode cX12_paired 7 = .ok (.aload_n 0, 1) := by decide +kernel
theorem dX12_paired_8 : decode cX12_paired 8 = .ok (.getfield 396, 3) := by decide +kernel
theorem dX12_paired_11 : decode cX12_paired 11 = .ok (.iconst 1, 1) := by decide +kernel
theorem dX12_paired_12 : decode cX12_paired 12 = .ok (.isub, 1) := by decide +kernel
theorem dX12_paired_13 : decode cX12_paired 13 = .ok (.invokestatic 24, 3) := by decide +kernel
theorem dX12_paired_16 : decode cX12_paired 16 = .ok (.ifCond .eq 12, 3) := by decide +kernel
theorem dX12_paired_19 : decode cX12_paired 19 = .ok (.aload_n 0, 1) := by decide +kernel
theorem dX12_paired_20 : decode cX12_paired 20 = .ok (.getfield 149, 3) := by decide +kernel
theorem dX12_paired_23 : decode cX12_paired 23 = .ok (.iload_n 1, 1) := by decide +kernel
theorem dX12_paired_24 : decode cX12_paired 24 = .ok (.iaload, 1) := by decide +kernel
theorem dX12_paired_25 : decode cX12_paired 25 = .ok (.goto 4, 3) := by decide +kernel
theorem dX12_paired_28 : decode cX12_paired 28 = .ok (.iconst (-1), 1) := by decide +kernel
theorem dX12_paired_29 : decode cX12_paired 29 = .ok (.ireturn, 1) := by decide +kernel
def M_paired_29 (K : Int32 → th_St → Prop) (z0 : Int32) (u : th_St) : Prop :=
  K z0 u
set_option maxHeartbeats 4000000 in
set_option maxRecDepth 100000 in
theorem M_paired_29_w {K : Int32 → th_St → Prop} (C : th_Cx p s m args meth c cX12_paired RX12 2 (some .int) (dC, dI) (th_ty cs) th_E0 A) (z0 : Int32) (u : th_St) (H : Heap) (locs : List Loc) (ls : Array Slot) (hf : M_paired_29 K z0 u) (hw : th_wI (dC, dI) (wM cs q) A s.heap u H locs) (hl : lv_has ls 2 []) : W p l e (th_rm 1 0 0) s m args below meth c H locs 0 0 (MQ below (va_Qi K (th_Post (dC, dI) (wM cs q) A) A) args s 0 0 A) (F0 m 29 ls [.int z0]) := by
  have hx := C.1
  have hb := C.2.1
  unfold M_paired_29 at hf
  exact th_iret C hw hf dX12_paired_29
def M_paired (a1 : Int32) (u : th_St) (K : Int32 → th_St → Prop) : Prop :=
  ∀ u_1 : th_St, u_1 = th_si u 0 (0 : Int32) → M_isIn a1 (0 : Int32) ((u_1.1 62) - (1 : Int32)) u_1 (fun r_3 u_2 => ((r_3 = 0 → M_paired_29 K (-1 : Int32) u_2) ∧ (¬ r_3 = 0 → (vp_in a1 48 ∧ ∀ y_4 : Int32, y_4 = u_2.2.2.1 61 (a1).toNatClampNeg → M_paired_29 K y_4 u_2))))
set_option maxHeartbeats 4000000 in
set_option maxRecDepth 100000 in
theorem M_paired_c {l : Launch} {dC : Nat → ClassId} {dI : Nat → Nat → Nat} {cs : Nat → ClassId} {q : Nat → Nat} {a1 : Int32} {u : th_St} {K : Int32 → th_St → Prop} (hf : M_paired a1 u K) : th_Ci l yX12_paired cX12_paired 2 (some .int) 1 0 0 (dC, dI) (th_ty cs) th_E0 (wM cs q) [.ref (q 0), .int a1] u K := by
  refine th_ofi (by decide) (Nat.le_of_ble_eq_true rfl) th_E0_ok ?_
  intro p e s m below meth c A ls C hw hl
  have C : th_Cx p s m _ meth c cX12_paired RX12 2 (some .int) (dC, dI) (th_ty cs) th_E0 A := C
  have hl : lv_has ls 2 [(0, .ref (q 0)), (1, .int a1)] := hl
  generalize (List.toArray _ : Array Value) = args at C ⊢
  have hx := C.1
  have hb := C.2.1
  unfold M_paired at hf
  refine lv_aload_n hx hb dX12_paired_0 rfl (lv_at hl 0 rfl) ?_
  refine lv_iconst (v := (0 : Int32)) hx hb dX12_paired_1 (by decide) ?_
  refine mp_0 C hw dX12_paired_2 (fun u_1 e9 H locs hw => ?_)
  replace hf := hf u_1 e9
  clear e9
  refine lv_iload_n hx hb dX12_paired_5 rfl (lv_at hl 1 rfl) ?_
  refine lv_iconst (v := (0 : Int32)) hx hb dX12_paired_6 (by decide) ?_
  refine lv_aload_n hx hb dX12_paired_7 rfl (lv_at hl 0 rfl) ?_
  refine mg_62 C hw dX12_paired_8 ?_
  refine lv_iconst (v := (1 : Int32)) hx hb dX12_paired_11 (by decide) ?_
  refine lv_isub hx hb dX12_paired_12 ?_
  refine th_callSi (As := [.int a1, .int (0 : Int32), .int ((u_1.1 62) - (1 : Int32))]) (rest := []) C lkX12_24 (M_isIn_c hf) hw rfl rfl ⟨Nat.le_of_ble_eq_true rfl, Nat.le_of_ble_eq_true rfl⟩ hl.1 (Nat.le_of_ble_eq_true rfl) ⟨Nat.le_refl _, Nat.le_refl _⟩ dX12_paired_13 (fun r_3 u_2 H locs hf hw => ?_)
  refine lv_if_eq (tgt := 28) hx hb dX12_paired_16 (by decide) (fun hc => ?_) (fun hc => ?_)
  · replace hf := hf.1 hc
    clear hc
    refine lv_iconst (v := (-1 : Int32)) hx hb dX12_paired_28 (by decide) ?_
    exact M_paired_29_w C (-1 : Int32) u_2 _ _ _ hf hw (lv_sub hl [] rfl)
  · replace hf := hf.2 hc
    clear hc
    refine lv_aload_n hx hb dX12_paired_19 rfl (lv_at hl 0 rfl) ?_
    refine mg_61 C hw dX12_paired_20 ?_
    refine lv_iload_n hx hb dX12_paired_23 rfl (lv_at hl 1 rfl) ?_
    refine ml_61 C hw hf.1 dX12_paired_24 (fun y_4 e9 => ?_)
    replace hf := hf.2 y_4 e9
    clear e9
    refine lv_goto (tgt := 29) hx hb dX12_paired_25 (by decide) ?_
    exact M_paired_29_w C y_4 u_2 _ _ _ hf hw (lv_sub hl [] rfl)
/-! X12_falseShare -/
theorem dX12_falseShare_0 : decode cX12_falseShare 0 = .ok (.aload_n 0, 1) := by decide +kernel
theorem dX12_falseShare_1 : decode cX12_falseShare 1 = .ok (.iload_n 1, 1) := by decide +kernel
theorem dX12_falseShare_2 : decode cX12_falseShare 2 = .ok (.iconst 1, 1) := by decide +kernel
theorem dX12_falseShare_3 : decode cX12_falseShare 3 = .ok (.bipush 12, 2) := by decide +kernel
theorem dX12_falseShare_5 : decode cX12_falseShare 5 = .ok (.invokestatic 24, 3) := by decide +kernel
theorem dX12_falseShare_8 : decode cX12_falseShare 8 = .ok (.ifCond .eq 12, 3) := by decide +kernel
theorem dX12_falseShare_11 : decode cX12_falseShare 11 = .ok (.iload_n 3, 1) := by decide +kernel
theorem dX12_falseShare_12 : decode cX12_falseShare 12 = .ok (.iconst 0, 1) := by decide +kernel
theorem dX12_falseShare_13 : decode cX12_falseShare 13 = .ok (.iconst 1, 1) := by decide +kernel
theorem dX12_falseShare_14 : decode cX12_falseShare 14 = .ok (.invokestatic 24, 3) := by decide +kernel
theorem dX12_falseShare_17 : decode cX12_falseShare 17 = .ok (.ifCond .ne 7, 3) := by decide +kernel
theorem dX12_falseShare_20 : decode cX12_falseShare 20 = .ok (.iconst 1, 1) := by decide +kernel
theorem dX12_falseShare_21 : decode cX12_falseShare 21 = .ok (.goto 4, 3) := by decide +kernel
theorem dX12_falseShare_24 : decode cX12_falseShare 24 = .ok (.iconst 0, 1) := by decide +kernel
theorem dX12_falseShare_25 : decode cX12_falseShare 25 = .ok (.invokevirtual 343, 3) := by decide +kernel
theorem dX12_falseShare_28 : decode cX12_falseShare 28 = .ok (.ifCond .eq 5, 3) := by decide +kernel
theorem dX12_falseShare_31 : decode cX12_falseShare 31 = .ok (.lconst 0, 1) := by decide +kernel
theorem dX12_falseShare_32 : decode cX12_falseShare 32 = .ok (.lreturn, 1) := by decide +kernel
theorem dX12_falseShare_33 : decode cX12_falseShare 33 = .ok (.aload_n 0, 1) := by decide +kernel
theorem dX12_falseShare_34 : decode cX12_falseShare 34 = .ok (.getfield 63, 3) := by decide +kernel
theorem dX12_falseShare_37 : decode cX12_falseShare 37 = .ok (.iconst 0, 1) := by decide +kernel
theorem dX12_falseShare_38 : decode cX12_falseShare 38 = .ok (.iaload, 1) := by decide +kernel
theorem dX12_falseShare_39 : decode cX12_falseShare 39 = .ok (.istore 4, 2) := by decide +kernel
theorem dX12_falseShare_41 : decode cX12_falseShare 41 = .ok (.iconst 0, 1) := by decide +kernel
theorem dX12_falseShare_42 : decode cX12_falseShare 42 = .ok (.istore 5, 2) := by decide +kernel
theorem dX12_falseShare_44 : decode cX12_falseShare 44 = .ok (.iload 5, 2) := by decide +kernel
theorem dX12_falseShare_46 : decode cX12_falseShare 46 = .ok (.sipush 240, 3) := by decide +kernel
theorem dX12_falseShare_49 : decode cX12_falseShare 49 = .ok (.if_icmp .ge 17, 3) := by decide +kernel
theorem dX12_falseShare_52 : decode cX12_falseShare 52 = .ok (.aload_n 0, 1) := by decide +kernel
theorem dX12_falseShare_53 : decode cX12_falseShare 53 = .ok (.getfield 152, 3) := by decide +kernel
theorem dX12_falseShare_56 : decode cX12_falseShare 56 = .ok (.iload 5, 2) := by decide +kernel
theorem dX12_falseShare_58 : decode cX12_falseShare 58 = .ok (.lconst 0, 1) := by decide +kernel
theorem dX12_falseShare_59 : decode cX12_falseShare 59 = .ok (.lastore, 1) := by decide +kernel
theorem dX12_falseShare_60 : decode cX12_falseShare 60 = .ok (.iinc 5 1, 3) := by decide +kernel
theorem dX12_falseShare_63 : decode cX12_falseShare 63 = .ok (.goto (-19), 3) := by decide +kernel
theorem dX12_falseShare_66 : decode cX12_falseShare 66 = .ok (.aload_n 0, 1) := by decide +kernel
theorem dX12_falseShare_67 : decode cX12_falseShare 67 = .ok (.getfield 152, 3) := by decide +kernel
theorem dX12_falseShare_70 : decode cX12_falseShare 70 = .ok (.iconst 0, 1) := by decide +kernel
theorem dX12_falseShare_71 : decode cX12_falseShare 71 = .ok (.lconst 1, 1) := by decide +kernel
theorem dX12_falseShare_72 : decode cX12_falseShare 72 = .ok (.lastore, 1) := by decide +kernel
theorem dX12_falseShare_73 : decode cX12_falseShare 73 = .ok (.iconst 0, 1) := by decide +kernel
theorem dX12_falseShare_74 : decode cX12_falseShare 74 = .ok (.istore 5, 2) := by decide +kernel
theorem dX12_falseShare_76 : decode cX12_falseShare 76 = .ok (.iload 5, 2) := by decide +kernel
theorem dX12_falseShare_78 : decode cX12_falseShare 78 = .ok (.iload_n 1, 1) := by decide +kernel
theorem dX12_falseShare_79 : decode cX12_falseShare 79 = .ok (.if_icmp .ge 77, 3) := by decide +kernel
theorem dX12_falseShare_82 : decode cX12_falseShare 82 = .ok (.sipush 239, 3) := by decide +kernel
theorem dX12_falseShare_85 : decode cX12_falseShare 85 = .ok (.istore 6, 2) := by decide +kernel
theorem dX12_falseShare_87 : decode cX12_falseShare 87 = .ok (.iload 6, 2) := by decide +kernel
theorem dX12_falseShare_89 : decode cX12_falseShare 89 = .ok (.ifCond .lt 61, 3) := by decide +kernel
theorem dX12_falseShare_92 : decode cX12_falseShare 92 = .ok (.lconst 0, 1) := by decide +kernel
theorem dX12_falseShare_93 : decode cX12_falseShare 93 = .ok (.lstore 7, 2) := by decide +kernel
theorem dX12_falseShare_95 : decode cX12_falseShare 95 = .ok (.iconst 0, 1) := by decide +kernel
theorem dX12_falseShare_96 : decode cX12_falseShare 96 = .ok (.istore 9, 2) := by decide +kernel
theorem dX12_falseShare_98 : decode cX12_falseShare 98 = .ok (.iload 9, 2) := by decide +kernel
theorem dX12_falseShare_100 : decode cX12_falseShare 100 = .ok (.iconst 2, 1) := by decide +kernel
theorem dX12_falseShare_101 : decode cX12_falseShare 101 = .ok (.iload 4, 2) := by decide +kernel
theorem dX12_falseShare_103 : decode cX12_falseShare 103 = .ok (.imul, 1) := by decide +kernel
theorem dX12_falseShare_104 : decode cX12_falseShare 104 = .ok (.if_icmp .gt 31, 3) := by decide +kernel
theorem dX12_falseShare_107 : decode cX12_falseShare 107 = .ok (.iload 9, 2) := by decide +kernel
theorem dX12_falseShare_109 : decode cX12_falseShare 109 = .ok (.iload 6, 2) := by decide +kernel
theorem dX12_falseShare_111 : decode cX12_falseShare 111 = .ok (.if_icmp .gt 24, 3) := by decide +kernel
theorem dX12_falseShare_114 : decode cX12_falseShare 114 = .ok (.lload 7, 2) := by decide +kernel
theorem dX12_falseShare_116 : decode cX12_falseShare 116 = .ok (.aload_n 0, 1) := by decide +kernel
theorem dX12_falseShare_117 : decode cX12_falseShare 117 = .ok (.getfield 152, 3) := by decide +kernel
theorem dX12_falseShare_120 : decode cX12_falseShare 120 = .ok (.iload 6, 2) := by decide +kernel
theorem dX12_falseShare_122 : decode cX12_falseShare 122 = .ok (.iload 9, 2) := by decide +kernel
theorem dX12_falseShare_124 : decode cX12_falseShare 124 = .ok (.isub, 1) := by decide +kernel
theorem dX12_falseShare_125 : decode cX12_falseShare 125 = .ok (.laload, 1) := by decide +kernel
theorem dX12_falseShare_126 : decode cX12_falseShare 126 = .ok (.ladd, 1) := by decide +kernel
theorem dX12_falseShare_127 : decode cX12_falseShare 127 = .ok (.lstore 7, 2) := by decide +kernel
theorem dX12_falseShare_129 : decode cX12_falseShare 129 = .ok (.iinc 9 1, 3) := by decide +kernel
theorem dX12_falseShare_132 : decode cX12_falseShare 132 = .ok (.goto (-34), 3) := by decide +kernel
theorem dX12_falseShare_135 : decode cX12_falseShare 135 = .ok (.aload_n 0, 1) := by decide +kernel
theorem dX12_falseShare_136 : decode cX12_falseShare 136 = .ok (.getfield 152, 3) := by decide +kernel
theorem dX12_falseShare_139 : decode cX12_falseShare 139 = .ok (.iload 6, 2) := by decide +kernel
theorem dX12_falseShare_141 : decode cX12_falseShare 141 = .ok (.lload 7, 2) := by decide +kernel
theorem dX12_falseShare_143 : decode cX12_falseShare 143 = .ok (.lastore, 1) := by decide +kernel
theorem dX12_falseShare_144 : decode cX12_falseShare 144 = .ok (.iinc 6 (-1), 3) := by decide +kernel
theorem dX12_falseShare_147 : decode cX12_falseShare 147 = .ok (.goto (-60), 3) := by decide +kernel
theorem dX12_falseShare_150 : decode cX12_falseShare 150 = .ok (.iinc 5 1, 3) := by decide +kernel
theorem dX12_falseShare_153 : decode cX12_falseShare 153 = .ok (.goto (-77), 3) := by decide +kernel
theorem dX12_falseShare_156 : decode cX12_falseShare 156 = .ok (.lconst 0, 1) := by decide +kernel
theorem dX12_falseShare_157 : decode cX12_falseShare 157 = .ok (.lstore 5, 2) := by decide +kernel
theorem dX12_falseShare_159 : decode cX12_falseShare 159 = .ok (.lconst 0, 1) := by decide +kernel
theorem dX12_falseShare_160 : decode cX12_falseShare 160 = .ok (.lstore 7, 2) := by decide +kernel
theorem dX12_falseShare_162 : decode cX12_falseShare 162 = .ok (.iconst 0, 1) := by decide +kernel
theorem dX12_falseShare_163 : decode cX12_falseShare 163 = .ok (.istore 9, 2) := by decide +kernel
theorem dX12_falseShare_165 : decode cX12_falseShare 165 = .ok (.iload 9, 2) := by decide +kernel
theorem dX12_falseShare_167 : decode cX12_falseShare 167 = .ok (.sipush 240, 3) := by decide +kernel
theorem dX12_falseShare_170 : decode cX12_falseShare 170 = .ok (.if_icmp .ge 48, 3) := by decide +kernel
theorem dX12_falseShare_173 : decode cX12_falseShare 173 = .ok (.lload 5, 2) := by decide +kernel
theorem dX12_falseShare_175 : decode cX12_falseShare 175 = .ok (.aload_n 0, 1) := by decide +kernel
theorem dX12_falseShare_176 : decode cX12_falseShare 176 = .ok (.getfield 152, 3) := by decide +kernel
theorem dX12_falseShare_179 : decode cX12_falseShare 179 = .ok (.iload 9, 2) := by decide +kernel
theorem dX12_falseShare_181 : decode cX12_falseShare 181 = .ok (.laload, 1) := by decide +kernel
theorem dX12_falseShare_182 : decode cX12_falseShare 182 = .ok (.ladd, 1) := by decide +kernel
theorem dX12_falseShare_183 : decode cX12_falseShare 183 = .ok (.lstore 5, 2) := by decide +kernel
theorem dX12_falseShare_185 : decode cX12_falseShare 185 = .ok (.lload 7, 2) := by decide +kernel
theorem dX12_falseShare_187 : decode cX12_falseShare 187 = .ok (.iload 9, 2) := by decide +kernel
theorem dX12_falseShare_189 : decode cX12_falseShare 189 = .ok (.iload_n 1, 1) := by decide +kernel
theorem dX12_falseShare_190 : decode cX12_falseShare 190 = .ok (.iload 4, 2) := by decide +kernel
theorem dX12_falseShare_192 : decode cX12_falseShare 192 = .ok (.imul, 1) := by decide +kernel
theorem dX12_falseShare_193 : decode cX12_falseShare 193 = .ok (.isub, 1) := by decide +kernel
theorem dX12_falseShare_194 : decode cX12_falseShare 194 = .ok (.iload_n 2, 1) := by decide +kernel
theorem dX12_falseShare_195 : decode cX12_falseShare 195 = .ok (.if_icmp .le 13, 3) := by decide +kernel
theorem dX12_falseShare_198 : decode cX12_falseShare 198 = .ok (.aload_n 0, 1) := by decide +kernel
theorem dX12_falseShare_199 : decode cX12_falseShare 199 = .ok (.getfield 152, 3) := by decide +kernel
theorem dX12_falseShare_202 : decode cX12_falseShare 202 = .ok (.iload 9, 2) := by decide +kernel
theorem dX12_falseShare_204 : decode cX12_falseShare 204 = .ok (.laload, 1) := by decide +kernel
theorem dX12_falseShare_205 : decode cX12_falseShare 205 = .ok (.goto 4, 3) := by decide +kernel
theorem dX12_falseShare_208 : decode cX12_falseShare 208 = .ok (.lconst 0, 1) := by decide +kernel
theorem dX12_falseShare_209 : decode cX12_falseShare 209 = .ok (.ladd, 1) := by decide +kernel
theorem dX12_falseShare_210 : decode cX12_falseShare 210 = .ok (.lstore 7, 2) := by decide +kernel
theorem dX12_falseShare_212 : decode cX12_falseShare 212 = .ok (.iinc 9 1, 3) := by decide +kernel
theorem dX12_falseShare_215 : decode cX12_falseShare 215 = .ok (.goto (-50), 3) := by decide +kernel
theorem dX12_falseShare_218 : decode cX12_falseShare 218 = .ok (.lload 7, 2) := by decide +kernel
theorem dX12_falseShare_220 : decode cX12_falseShare 220 = .ok (.lconst 0, 1) := by decide +kernel
theorem dX12_falseShare_221 : decode cX12_falseShare 221 = .ok (.lcmp, 1) := by decide +kernel
theorem dX12_falseShare_222 : decode cX12_falseShare 222 = .ok (.ifCond .ne 13, 3) := by decide +kernel
theorem dX12_falseShare_225 : decode cX12_falseShare 225 = .ok (.iload_n 3, 1) := by decide +kernel
theorem dX12_falseShare_226 : decode cX12_falseShare 226 = .ok (.ifCond .ne 7, 3) := by decide +kernel
theorem dX12_falseShare_229 : decode cX12_falseShare 229 = .ok (.lconst 0, 1) := by decide +kernel
theorem dX12_falseShare_230 : decode cX12_falseShare 230 = .ok (.goto 4, 3) := by decide +kernel
theorem dX12_falseShare_233 : decode cX12_falseShare 233 = .ok (.lconst 1, 1) := by decide +kernel
theorem dX12_falseShare_234 : decode cX12_falseShare 234 = .ok (.lreturn, 1) := by decide +kernel
theorem dX12_falseShare_235 : decode cX12_falseShare 235 = .ok (.iload_n 3, 1) := by decide +kernel
theorem dX12_falseShare_236 : decode cX12_falseShare 236 = .ok (.ifCond .ne 16, 3) := by decide +kernel
theorem dX12_falseShare_239 : decode cX12_falseShare 239 = .ok (.lload 7, 2) := by decide +kernel
theorem dX12_falseShare_241 : decode cX12_falseShare 241 = .ok (.lload 7, 2) := by decide +kernel
theorem dX12_falseShare_243 : decode cX12_falseShare 243 = .ok (.lload 5, 2) := by decide +kernel
theorem dX12_falseShare_245 : decode cX12_falseShare 245 = .ok (.invokestatic 399, 3) := by decide +kernel
theorem dX12_falseShare_248 : decode cX12_falseShare 248 = .ok (.ldiv, 1) := by decide +kernel
theorem dX12_falseShare_249 : decode cX12_falseShare 249 = .ok (.goto 13, 3) := by decide +kernel
theorem dX12_falseShare_252 : decode cX12_falseShare 252 = .ok (.lload 5, 2) := by decide +kernel
theorem dX12_falseShare_254 : decode cX12_falseShare 254 = .ok (.lload 7, 2) := by decide +kernel
theorem dX12_falseShare_256 : decode cX12_falseShare 256 = .ok (.lload 5, 2) := by decide +kernel
theorem dX12_falseShare_258 : decode cX12_falseShare 258 = .ok (.invokestatic 399, 3) := by decide +kernel
theorem dX12_falseShare_261 : decode cX12_falseShare 261 = .ok (.ldiv, 1) := by decide +kernel
theorem dX12_falseShare_262 : decode cX12_falseShare 262 = .ok (.lreturn, 1) := by decide +kernel
def M_falseShare_135 (K : Int64 → th_St → Prop) (k76 : Int32 → Int32 → Int32 → Int32 → Int32 → th_St → Prop) (k87 : Int32 → Int32 → Int32 → Int32 → Int32 → Int32 → th_St → Prop) (x1 : Int32) (x2 : Int32) (x3 : Int32) (x4 : Int32) (x5 : Int32) (x6 : Int32) (x7 : Int64) (u : th_St) : Prop :=
  (vp_in x6 240 ∧ ∀ u_1 : th_St, u_1 = th_sl u 63 (vp_updL (u.2.2.2 63) (x6).toNatClampNeg x7) → ∀ x6_2 : Int32, x6_2 = x6 + (-1 : Int32) → k87 x1 x2 x3 x4 x5 x6_2 u_1)
set_option maxHeartbeats 4000000 in
set_option maxRecDepth 100000 in
theorem M_falseShare_135_w {K : Int64 → th_St → Prop} {k76 : Int32 → Int32 → Int32 → Int32 → Int32 → th_St → Prop} {k87 : Int32 → Int32 → Int32 → Int32 → Int32 → Int32 → th_St → Prop} (C : th_Cx p s m args meth c cX12_falseShare RX12 10 (some .long) (dC, dI) (th_ty cs) th_E0 A) (hk76 : ∀ (x1 : Int32) (x2 : Int32) (x3 : Int32) (x4 : Int32) (x5 : Int32) (u : th_St) (H : Heap) (locs : List Loc) (ls : Array Slot), k76 x1 x2 x3 x4 x5 u → th_wI (dC, dI) (wM cs q) A s.heap u H locs → lv_has ls 10 [(0, .ref (q 0)), (1, .int x1), (2, .int x2), (3, .int x3), (4, .int x4), (5, .int x5)] → W p l e (th_rm 1 0 0) s m args below meth c H locs 0 0 (MQ below (va_Ql K (th_Post (dC, dI) (wM cs q) A) A) args s 0 0 A) (F0 m 76 ls [])) (hk87 : ∀ (x1 : Int32) (x2 : Int32) (x3 : Int32) (x4 : Int32) (x5 : Int32) (x6 : Int32) (u : th_St) (H : Heap) (locs : List Loc) (ls : Array Slot), k87 x1 x2 x3 x4 x5 x6 u → th_wI (dC, dI) (wM cs q) A s.heap u H locs → lv_has ls 10 [(0, .ref (q 0)), (1, .int x1), (2, .int x2), (3, .int x3), (4, .int x4), (5, .int x5), (6, .int x6)] → W p l e (th_rm 1 0 0) s m args below meth c H locs 0 0 (MQ below (va_Ql K (th_Post (dC, dI) (wM cs q) A) A) args s 0 0 A) (F0 m 87 ls [])) (x1 : Int32) (x2 : Int32) (x3 : Int32) (x4 : Int32) (x5 : Int32) (x6 : Int32) (x7 : Int64) (u : th_St) (H : Heap) (locs : List Loc) (ls : Array Slot) (hf : M_falseShare_135 K k76 k87 x1 x2 x3 x4 x5 x6 x7 u) (hw : th_wI (dC, dI) (wM cs q) A s.heap u H locs) (hl : lv_has ls 10 [(0, .ref (q 0)), (1, .int x1), (2, .int x2), (3, .int x3), (4, .int x4), (5, .int x5), (6, .int x6), (7, .long x7)]) : W p l e (th_rm 1 0 0) s m args below meth c H locs 0 0 (MQ below (va_Ql K (th_Post (dC, dI) (wM cs q) A) A) args s 0 0 A) (F0 m 135 ls []) := by
  have hx := C.1
  have hb := C.2.1
  unfold M_falseShare_135 at hf
  refine lv_aload_n hx hb dX12_falseShare_135 rfl (lv_at hl 0 rfl) ?_
  refine mg_63 C hw dX12_falseShare_136 ?_
  refine lv_iload hx hb dX12_falseShare_139 (lv_at hl 6 rfl) ?_
  refine lv_lload hx hb dX12_falseShare_141 (lv_at hl 7 rfl) ?_
  refine ms_63 C hw hf.1 dX12_falseShare_143 (fun u_1 e9 H locs hw => ?_)
  replace hf := hf.2 u_1 e9
  clear e9
  obtain ⟨x6_2, e9⟩ : ∃ y : Int32, y = x6 + (-1 : Int32) := ⟨_, rfl⟩
  replace hf := hf x6_2 e9
  refine lv_iinc (v := x6_2) (lv' := [(6, .int x6_2), (0, .ref (q 0)), (1, .int x1), (2, .int x2), (3, .int x3), (4, .int x4), (5, .int x5), (7, .long x7)]) hx hb dX12_falseShare_144 hl (k := 6) rfl (by rw [e9]; rfl) (by decide) rfl (fun ls hl => ?_)
  clear e9
  refine lv_goto (tgt := 87) hx hb dX12_falseShare_147 (by decide) ?_
  exact hk87 x1 x2 x3 x4 x5 x6_2 u_1 _ _ _ hf hw (lv_sub hl [1, 2, 3, 4, 5, 6, 0] rfl)
def M_falseShare_98 (K : Int64 → th_St → Prop) (k76 : Int32 → Int32 → Int32 → Int32 → Int32 → th_St → Prop) (k87 : Int32 → Int32 → Int32 → Int32 → Int32 → Int32 → th_St → Prop) (k98 : Int32 → Int32 → Int32 → Int32 → Int32 → Int32 → Int64 → Int32 → th_St → Prop) (x1 : Int32) (x2 : Int32) (x3 : Int32) (x4 : Int32) (x5 : Int32) (x6 : Int32) (x7 : Int64) (x9 : Int32) (u : th_St) : Prop :=
  ((((2 : Int32) * x4) < x9 → M_falseShare_135 K k76 k87 x1 x2 x3 x4 x5 x6 x7 u) ∧ (¬ ((2 : Int32) * x4) < x9 → ((x6 < x9 → M_falseShare_135 K k76 k87 x1 x2 x3 x4 x5 x6 x7 u) ∧ (¬ x6 < x9 → (vp_in (x6 - x9) 240 ∧ ∀ y_1 : Int64, y_1 = u.2.2.2 63 ((x6 - x9)).toNatClampNeg → ∀ y_2 : Int64, y_2 = (x7 + y_1) → ∀ x9_3 : Int32, x9_3 = x9 + (1 : Int32) → k98 x1 x2 x3 x4 x5 x6 y_2 x9_3 u)))))
set_option maxHeartbeats 4000000 in
set_option maxRecDepth 100000 in
theorem M_falseShare_98_w {K : Int64 → th_St → Prop} {k76 : Int32 → Int32 → Int32 → Int32 → Int32 → th_St → Prop} {k87 : Int32 → Int32 → Int32 → Int32 → Int32 → Int32 → th_St → Prop} {k98 : Int32 → Int32 → Int32 → Int32 → Int32 → Int32 → Int64 → Int32 → th_St → Prop} (C : th_Cx p s m args meth c cX12_falseShare RX12 10 (some .long) (dC, dI) (th_ty cs) th_E0 A) (hk76 : ∀ (x1 : Int32) (x2 : Int32) (x3 : Int32) (x4 : Int32) (x5 : Int32) (u : th_St) (H : Heap) (locs : List Loc) (ls : Array Slot), k76 x1 x2 x3 x4 x5 u → th_wI (dC, dI) (wM cs q) A s.heap u H locs → lv_has ls 10 [(0, .ref (q 0)), (1, .int x1), (2, .int x2), (3, .int x3), (4, .int x4), (5, .int x5)] → W p l e (th_rm 1 0 0) s m args below meth c H locs 0 0 (MQ below (va_Ql K (th_Post (dC, dI) (wM cs q) A) A) args s 0 0 A) (F0 m 76 ls [])) (hk87 : ∀ (x1 : Int32) (x2 : Int32) (x3 : Int32) (x4 : Int32) (x5 : Int32) (x6 : Int32) (u : th_St) (H : Heap) (locs : List Loc) (ls : Array Slot), k87 x1 x2 x3 x4 x5 x6 u → th_wI (dC, dI) (wM cs q) A s.heap u H locs → lv_has ls 10 [(0, .ref (q 0)), (1, .int x1), (2, .int x2), (3, .int x3), (4, .int x4), (5, .int x5), (6, .int x6)] → W p l e (th_rm 1 0 0) s m args below meth c H locs 0 0 (MQ below (va_Ql K (th_Post (dC, dI) (wM cs q) A) A) args s 0 0 A) (F0 m 87 ls [])) (hk98 : ∀ (x1 : Int32) (x2 : Int32) (x3 : Int32) (x4 : Int32) (x5 : Int32) (x6 : Int32) (x7 : Int64) (x9 : Int32) (u : th_St) (H : Heap) (locs : List Loc) (ls : Array Slot), k98 x1 x2 x3 x4 x5 x6 x7 x9 u → th_wI (dC, dI) (wM cs q) A s.heap u H locs → lv_has ls 10 [(0, .ref (q 0)), (1, .int x1), (2, .int x2), (3, .int x3), (4, .int x4), (5, .int x5), (6, .int x6), (7, .long x7), (9, .int x9)] → W p l e (th_rm 1 0 0) s m args below meth c H locs 0 0 (MQ below (va_Ql K (th_Post (dC, dI) (wM cs q) A) A) args s 0 0 A) (F0 m 98 ls [])) (x1 : Int32) (x2 : Int32) (x3 : Int32) (x4 : Int32) (x5 : Int32) (x6 : Int32) (x7 : Int64) (x9 : Int32) (u : th_St) (H : Heap) (locs : List Loc) (ls : Array Slot) (hf : M_falseShare_98 K k76 k87 k98 x1 x2 x3 x4 x5 x6 x7 x9 u) (hw : th_wI (dC, dI) (wM cs q) A s.heap u H locs) (hl : lv_has ls 10 [(0, .ref (q 0)), (1, .int x1), (2, .int x2), (3, .int x3), (4, .int x4), (5, .int x5), (6, .int x6), (7, .long x7), (9, .int x9)]) : W p l e (th_rm 1 0 0) s m args below meth c H locs 0 0 (MQ below (va_Ql K (th_Post (dC, dI) (wM cs q) A) A) args s 0 0 A) (F0 m 98 ls []) := by
  have hx := C.1
  have hb := C.2.1
  unfold M_falseShare_98 at hf
  refine lv_iload hx hb dX12_falseShare_98 (lv_at hl 8 rfl) ?_
  refine lv_iconst (v := (2 : Int32)) hx hb dX12_falseShare_100 (by decide) ?_
  refine lv_iload hx hb dX12_falseShare_101 (lv_at hl 4 rfl) ?_
  refine lv_imul hx hb dX12_falseShare_103 ?_
  refine lv_icmp_gt (tgt := 135) hx hb dX12_falseShare_104 (by decide) (fun hc => ?_) (fun hc => ?_)
  · replace hf := hf.1 hc
    clear hc
    exact M_falseShare_135_w C hk76 hk87 x1 x2 x3 x4 x5 x6 x7 u _ _ _ hf hw (lv_sub hl [0, 1, 2, 3, 4, 5, 6, 7] rfl)
  · replace hf := hf.2 hc
    clear hc
    refine lv_iload hx hb dX12_falseShare_107 (lv_at hl 8 rfl) ?_
    refine lv_iload hx hb dX12_falseShare_109 (lv_at hl 6 rfl) ?_
    refine lv_icmp_gt (tgt := 135) hx hb dX12_falseShare_111 (by decide) (fun hc => ?_) (fun hc => ?_)
    · replace hf := hf.1 hc
      clear hc
      exact M_falseShare_135_w C hk76 hk87 x1 x2 x3 x4 x5 x6 x7 u _ _ _ hf hw (lv_sub hl [0, 1, 2, 3, 4, 5, 6, 7] rfl)
    · replace hf := hf.2 hc
      clear hc
      refine lv_lload hx hb dX12_falseShare_114 (lv_at hl 7 rfl) ?_
      refine lv_aload_n hx hb dX12_falseShare_116 rfl (lv_at hl 0 rfl) ?_
      refine mg_63 C hw dX12_falseShare_117 ?_
      refine lv_iload hx hb dX12_falseShare_120 (lv_at hl 6 rfl) ?_
      refine lv_iload hx hb dX12_falseShare_122 (lv_at hl 8 rfl) ?_
      refine lv_isub hx hb dX12_falseShare_124 ?_
      refine ml_63 C hw hf.1 dX12_falseShare_125 (fun y_1 e9 => ?_)
      replace hf := hf.2 y_1 e9
      clear e9
      refine lv_ladd hx hb dX12_falseShare_126 ?_
      refine lv_topl (fun y_2 e9 => ?_)
      replace hf := hf y_2 e9
      clear e9
      refine lv_lstore (lv' := [(7, .long y_2), (0, .ref (q 0)), (1, .int x1), (2, .int x2), (3, .int x3), (4, .int x4), (5, .int x5), (6, .int x6), (9, .int x9)]) hx hb dX12_falseShare_127 hl (by decide) rfl (fun ls hl => ?_)
      obtain ⟨x9_3, e9⟩ : ∃ y : Int32, y = x9 + (1 : Int32) := ⟨_, rfl⟩
      replace hf := hf x9_3 e9
      refine lv_iinc (v := x9_3) (lv' := [(9, .int x9_3), (7, .long y_2), (0, .ref (q 0)), (1, .int x1), (2, .int x2), (3, .int x3), (4, .int x4), (5, .int x5), (6, .int x6)]) hx hb dX12_falseShare_129 hl (k := 8) rfl (by rw [e9]; rfl) (by decide) rfl (fun ls hl => ?_)
      clear e9
      refine lv_goto (tgt := 98) hx hb dX12_falseShare_132 (by decide) ?_
      exact hk98 x1 x2 x3 x4 x5 x6 y_2 x9_3 u _ _ _ hf hw (lv_sub hl [2, 3, 4, 5, 6, 7, 8, 1, 0] rfl)
def M_falseShare_98_lp (K : Int64 → th_St → Prop) (k76 : Int32 → Int32 → Int32 → Int32 → Int32 → th_St → Prop) (k87 : Int32 → Int32 → Int32 → Int32 → Int32 → Int32 → th_St → Prop) : Nat → Int32 → Int32 → Int32 → Int32 → Int32 → Int32 → Int64 → Int32 → th_St → Prop
  | 0, _, _, _, _, _, _, _, _, _ => False
  | n + 1, x1, x2, x3, x4, x5, x6, x7, x9, u => M_falseShare_98 K k76 k87 (M_falseShare_98_lp K k76 k87 n) x1 x2 x3 x4 x5 x6 x7 x9 u
set_option maxHeartbeats 4000000 in
set_option maxRecDepth 100000 in
theorem M_falseShare_98_lw {K : Int64 → th_St → Prop} {k76 : Int32 → Int32 → Int32 → Int32 → Int32 → th_St → Prop} {k87 : Int32 → Int32 → Int32 → Int32 → Int32 → Int32 → th_St → Prop} (C : th_Cx p s m args meth c cX12_falseShare RX12 10 (some .long) (dC, dI) (th_ty cs) th_E0 A) (hk76 : ∀ (x1 : Int32) (x2 : Int32) (x3 : Int32) (x4 : Int32) (x5 : Int32) (u : th_St) (H : Heap) (locs : List Loc) (ls : Array Slot), k76 x1 x2 x3 x4 x5 u → th_wI (dC, dI) (wM cs q) A s.heap u H locs → lv_has ls 10 [(0, .ref (q 0)), (1, .int x1), (2, .int x2), (3, .int x3), (4, .int x4), (5, .int x5)] → W p l e (th_rm 1 0 0) s m args below meth c H locs 0 0 (MQ below (va_Ql K (th_Post (dC, dI) (wM cs q) A) A) args s 0 0 A) (F0 m 76 ls [])) (hk87 : ∀ (x1 : Int32) (x2 : Int32) (x3 : Int32) (x4 : Int32) (x5 : Int32) (x6 : Int32) (u : th_St) (H : Heap) (locs : List Loc) (ls : Array Slot), k87 x1 x2 x3 x4 x5 x6 u → th_wI (dC, dI) (wM cs q) A s.heap u H locs → lv_has ls 10 [(0, .ref (q 0)), (1, .int x1), (2, .int x2), (3, .int x3), (4, .int x4), (5, .int x5), (6, .int x6)] → W p l e (th_rm 1 0 0) s m args below meth c H locs 0 0 (MQ below (va_Ql K (th_Post (dC, dI) (wM cs q) A) A) args s 0 0 A) (F0 m 87 ls [])) (n : Nat) : ∀ (x1 : Int32) (x2 : Int32) (x3 : Int32) (x4 : Int32) (x5 : Int32) (x6 : Int32) (x7 : Int64) (x9 : Int32) (u : th_St) (H : Heap) (locs : List Loc) (ls : Array Slot), M_falseShare_98_lp K k76 k87 n x1 x2 x3 x4 x5 x6 x7 x9 u → th_wI (dC, dI) (wM cs q) A s.heap u H locs → lv_has ls 10 [(0, .ref (q 0)), (1, .int x1), (2, .int x2), (3, .int x3), (4, .int x4), (5, .int x5), (6, .int x6), (7, .long x7), (9, .int x9)] → W p l e (th_rm 1 0 0) s m args below meth c H locs 0 0 (MQ below (va_Ql K (th_Post (dC, dI) (wM cs q) A) A) args s 0 0 A) (F0 m 98 ls []) := by
  induction n with
  | zero => intro x1 x2 x3 x4 x5 x6 x7 x9 u H locs ls hf; exact hf.elim
  | succ n ih =>
    intro x1 x2 x3 x4 x5 x6 x7 x9 u H locs ls hf hw hl
    exact M_falseShare_98_w C hk76 hk87 ih x1 x2 x3 x4 x5 x6 x7 x9 u H locs ls hf hw hl
def M_falseShare_87 (K : Int64 → th_St → Prop) (k76 : Int32 → Int32 → Int32 → Int32 → Int32 → th_St → Prop) (k87 : Int32 → Int32 → Int32 → Int32 → Int32 → Int32 → th_St → Prop) (x1 : Int32) (x2 : Int32) (x3 : Int32) (x4 : Int32) (x5 : Int32) (x6 : Int32) (u : th_St) : Prop :=
  ((x6 < 0 → ∀ x5_1 : Int32, x5_1 = x5 + (1 : Int32) → k76 x1 x2 x3 x4 x5_1 u) ∧ (¬ x6 < 0 → ∃ n, M_falseShare_98_lp K k76 k87 n x1 x2 x3 x4 x5 x6 (0 : Int64) (0 : Int32) u))
set_option maxHeartbeats 4000000 in
set_option maxRecDepth 100000 in
theorem M_falseShare_87_w {K : Int64 → th_St → Prop} {k76 : Int32 → Int32 → Int32 → Int32 → Int32 → th_St → Prop} {k87 : Int32 → Int32 → Int32 → Int32 → Int32 → Int32 → th_St → Prop} (C : th_Cx p s m args meth c cX12_falseShare RX12 10 (some .long) (dC, dI) (th_ty cs) th_E0 A) (hk76 : ∀ (x1 : Int32) (x2 : Int32) (x3 : Int32) (x4 : Int32) (x5 : Int32) (u : th_St) (H : Heap) (locs : List Loc) (ls : Array Slot), k76 x1 x2 x3 x4 x5 u → th_wI (dC, dI) (wM cs q) A s.heap u H locs → lv_has ls 10 [(0, .ref (q 0)), (1, .int x1), (2, .int x2), (3, .int x3), (4, .int x4), (5, .int x5)] → W p l e (th_rm 1 0 0) s m args below meth c H locs 0 0 (MQ below (va_Ql K (th_Post (dC, dI) (wM cs q) A) A) args s 0 0 A) (F0 m 76 ls [])) (hk87 : ∀ (x1 : Int32) (x2 : Int32) (x3 : Int32) (x4 : Int32) (x5 : Int32) (x6 : Int32) (u : th_St) (H : Heap) (locs : List Loc) (ls : Array Slot), k87 x1 x2 x3 x4 x5 x6 u → th_wI (dC, dI) (wM cs q) A s.heap u H locs → lv_has ls 10 [(0, .ref (q 0)), (1, .int x1), (2, .int x2), (3, .int x3), (4, .int x4), (5, .int x5), (6, .int x6)] → W p l e (th_rm 1 0 0) s m args below meth c H locs 0 0 (MQ below (va_Ql K (th_Post (dC, dI) (wM cs q) A) A) args s 0 0 A) (F0 m 87 ls [])) (x1 : Int32) (x2 : Int32) (x3 : Int32) (x4 : Int32) (x5 : Int32) (x6 : Int32) (u : th_St) (H : Heap) (locs : List Loc) (ls : Array Slot) (hf : M_falseShare_87 K k76 k87 x1 x2 x3 x4 x5 x6 u) (hw : th_wI (dC, dI) (wM cs q) A s.heap u H locs) (hl : lv_has ls 10 [(0, .ref (q 0)), (1, .int x1), (2, .int x2), (3, .int x3), (4, .int x4), (5, .int x5), (6, .int x6)]) : W p l e (th_rm 1 0 0) s m args below meth c H locs 0 0 (MQ below (va_Ql K (th_Post (dC, dI) (wM cs q) A) A) args s 0 0 A) (F0 m 87 ls []) := by
  have hx := C.1
  have hb := C.2.1
  unfold M_falseShare_87 at hf
  refine lv_iload hx hb dX12_falseShare_87 (lv_at hl 6 rfl) ?_
  refine lv_if_lt (tgt := 150) hx hb dX12_falseShare_89 (by decide) (fun hc => ?_) (fun hc => ?_)
  · replace hf := hf.1 hc
    clear hc
    obtain ⟨x5_1, e9⟩ : ∃ y : Int32, y = x5 + (1 : Int32) := ⟨_, rfl⟩
    replace hf := hf x5_1 e9
    refine lv_iinc (v := x5_1) (lv' := [(5, .int x5_1), (0, .ref (q 0)), (1, .int x1), (2, .int x2), (3, .int x3), (4, .int x4), (6, .int x6)]) hx hb dX12_falseShare_150 hl (k := 5) rfl (by rw [e9]; rfl) (by decide) rfl (fun ls hl => ?_)
    clear e9
    refine lv_goto (tgt := 76) hx hb dX12_falseShare_153 (by decide) ?_
    exact hk76 x1 x2 x3 x4 x5_1 u _ _ _ hf hw (lv_sub hl [1, 2, 3, 4, 5, 0] rfl)
  · replace hf := hf.2 hc
    clear hc
    refine lv_lconst (v := (0 : Int64)) hx hb dX12_falseShare_92 (by decide) ?_
    refine lv_lstore (lv' := [(7, .long (0 : Int64)), (0, .ref (q 0)), (1, .int x1), (2, .int x2), (3, .int x3), (4, .int x4), (5, .int x5), (6, .int x6)]) hx hb dX12_falseShare_93 hl (by decide) rfl (fun ls hl => ?_)
    refine lv_iconst (v := (0 : Int32)) hx hb dX12_falseShare_95 (by decide) ?_
    refine lv_istore (lv' := [(9, .int (0 : Int32)), (7, .long (0 : Int64)), (0, .ref (q 0)), (1, .int x1), (2, .int x2), (3, .int x3), (4, .int x4), (5, .int x5), (6, .int x6)]) hx hb dX12_falseShare_96 hl (by decide) rfl (fun ls hl => ?_)
    obtain ⟨n, hf⟩ := hf
    exact M_falseShare_98_lw C hk76 hk87 n x1 x2 x3 x4 x5 x6 (0 : Int64) (0 : Int32) u _ _ _ hf hw (lv_sub hl [2, 3, 4, 5, 6, 7, 8, 1, 0] rfl)
def M_falseShare_87_lp (K : Int64 → th_St → Prop) (k76 : Int32 → Int32 → Int32 → Int32 → Int32 → th_St → Prop) : Nat → Int32 → Int32 → Int32 → Int32 → Int32 → Int32 → th_St → Prop
  | 0, _, _, _, _, _, _, _ => False
  | n + 1, x1, x2, x3, x4, x5, x6, u => M_falseShare_87 K k76 (M_falseShare_87_lp K k76 n) x1 x2 x3 x4 x5 x6 u
set_option maxHeartbeats 4000000 in
set_option maxRecDepth 100000 in
theorem M_falseShare_87_lw {K : Int64 → th_St → Prop} {k76 : Int32 → Int32 → Int32 → Int32 → Int32 → th_St → Prop} (C : th_Cx p s m args meth c cX12_falseShare RX12 10 (some .long) (dC, dI) (th_ty cs) th_E0 A) (hk76 : ∀ (x1 : Int32) (x2 : Int32) (x3 : Int32) (x4 : Int32) (x5 : Int32) (u : th_St) (H : Heap) (locs : List Loc) (ls : Array Slot), k76 x1 x2 x3 x4 x5 u → th_wI (dC, dI) (wM cs q) A s.heap u H locs → lv_has ls 10 [(0, .ref (q 0)), (1, .int x1), (2, .int x2), (3, .int x3), (4, .int x4), (5, .int x5)] → W p l e (th_rm 1 0 0) s m args below meth c H locs 0 0 (MQ below (va_Ql K (th_Post (dC, dI) (wM cs q) A) A) args s 0 0 A) (F0 m 76 ls [])) (n : Nat) : ∀ (x1 : Int32) (x2 : Int32) (x3 : Int32) (x4 : Int32) (x5 : Int32) (x6 : Int32) (u : th_St) (H : Heap) (locs : List Loc) (ls : Array Slot), M_falseShare_87_lp K k76 n x1 x2 x3 x4 x5 x6 u → th_wI (dC, dI) (wM cs q) A s.heap u H locs → lv_has ls 10 [(0, .ref (q 0)), (1, .int x1), (2, .int x2), (3, .int x3), (4, .int x4), (5, .int x5), (6, .int x6)] → W p l e (th_rm 1 0 0) s m args below meth c H locs 0 0 (MQ below (va_Ql K (th_Post (dC, dI) (wM cs q) A) A) args s 0 0 A) (F0 m 87 ls []) := by
  induction n with
  | zero => intro x1 x2 x3 x4 x5 x6 u H locs ls hf; exact hf.elim
  | succ n ih =>
    intro x1 x2 x3 x4 x5 x6 u H locs ls hf hw hl
    exact M_falseShare_87_w C hk76 ih x1 x2 x3 x4 x5 x6 u H locs ls hf hw hl
def M_falseShare_209 (K : Int64 → th_St → Prop) (k165 : Int32 → Int32 → Int32 → Int32 → Int64 → Int64 → Int32 → th_St → Prop) (x1 : Int32) (x2 : Int32) (x3 : Int32) (x4 : Int32) (x5 : Int64) (x9 : Int32) (z0 : Int64) (z1 : Int64) (u : th_St) : Prop :=
  ∀ y_1 : Int64, y_1 = (z1 + z0) → ∀ x9_2 : Int32, x9_2 = x9 + (1 : Int32) → k165 x1 x2 x3 x4 x5 y_1 x9_2 u
set_option maxHeartbeats 4000000 in
set_option maxRecDepth 100000 in
theorem M_falseShare_209_w {K : Int64 → th_St → Prop} {k165 : Int32 → Int32 → Int32 → Int32 → Int64 → Int64 → Int32 → th_St → Prop} (C : th_Cx p s m args meth c cX12_falseShare RX12 10 (some .long) (dC, dI) (th_ty cs) th_E0 A) (hk165 : ∀ (x1 : Int32) (x2 : Int32) (x3 : Int32) (x4 : Int32) (x5 : Int64) (x7 : Int64) (x9 : Int32) (u : th_St) (H : Heap) (locs : List Loc) (ls : Array Slot), k165 x1 x2 x3 x4 x5 x7 x9 u → th_wI (dC, dI) (wM cs q) A s.heap u H locs → lv_has ls 10 [(0, .ref (q 0)), (1, .int x1), (2, .int x2), (3, .int x3), (4, .int x4), (5, .long x5), (7, .long x7), (9, .int x9)] → W p l e (th_rm 1 0 0) s m args below meth c H locs 0 0 (MQ below (va_Ql K (th_Post (dC, dI) (wM cs q) A) A) args s 0 0 A) (F0 m 165 ls [])) (x1 : Int32) (x2 : Int32) (x3 : Int32) (x4 : Int32) (x5 : Int64) (x9 : Int32) (z0 : Int64) (z1 : Int64) (u : th_St) (H : Heap) (locs : List Loc) (ls : Array Slot) (hf : M_falseShare_209 K k165 x1 x2 x3 x4 x5 x9 z0 z1 u) (hw : th_wI (dC, dI) (wM cs q) A s.heap u H locs) (hl : lv_has ls 10 [(0, .ref (q 0)), (1, .int x1), (2, .int x2), (3, .int x3), (4, .int x4), (5, .long x5), (9, .int x9)]) : W p l e (th_rm 1 0 0) s m args below meth c H locs 0 0 (MQ below (va_Ql K (th_Post (dC, dI) (wM cs q) A) A) args s 0 0 A) (F0 m 209 ls [.long z0, .long z1]) := by
  have hx := C.1
  have hb := C.2.1
  unfold M_falseShare_209 at hf
  refine lv_ladd hx hb dX12_falseShare_209 ?_
  refine lv_topl (fun y_1 e9 => ?_)
  replace hf := hf y_1 e9
  clear e9
  refine lv_lstore (lv' := [(7, .long y_1), (0, .ref (q 0)), (1, .int x1), (2, .int x2), (3, .int x3), (4, .int x4), (5, .long x5), (9, .int x9)]) hx hb dX12_falseShare_210 hl (by decide) rfl (fun ls hl => ?_)
  obtain ⟨x9_2, e9⟩ : ∃ y : Int32, y = x9 + (1 : Int32) := ⟨_, rfl⟩
  replace hf := hf x9_2 e9
  refine lv_iinc (v := x9_2) (lv' := [(9, .int x9_2), (7, .long y_1), (0, .ref (q 0)), (1, .int x1), (2, .int x2), (3, .int x3), (4, .int x4), (5, .long x5)]) hx hb dX12_falseShare_212 hl (k := 7) rfl (by rw [e9]; rfl) (by decide) rfl (fun ls hl => ?_)
  clear e9
  refine lv_goto (tgt := 165) hx hb dX12_falseShare_215 (by decide) ?_
  exact hk165 x1 x2 x3 x4 x5 y_1 x9_2 u _ _ _ hf hw (lv_sub hl [2, 3, 4, 5, 6, 7, 1, 0] rfl)
def M_falseShare_234 (K : Int64 → th_St → Prop) (z0 : Int64) (u : th_St) : Prop :=
  K z0 u
set_option maxHeartbeats 4000000 in
set_option maxRecDepth 100000 in
theorem M_falseShare_234_w {K : Int64 → th_St → Prop} (C : th_Cx p s m args meth c cX12_falseShare RX12 10 (some .long) (dC, dI) (th_ty cs) th_E0 A) (z0 : Int64) (u : th_St) (H : Heap) (locs : List Loc) (ls : Array Slot) (hf : M_falseShare_234 K z0 u) (hw : th_wI (dC, dI) (wM cs q) A s.heap u H locs) (hl : lv_has ls 10 []) : W p l e (th_rm 1 0 0) s m args below meth c H locs 0 0 (MQ below (va_Ql K (th_Post (dC, dI) (wM cs q) A) A) args s 0 0 A) (F0 m 234 ls [.long z0]) := by
  have hx := C.1
  have hb := C.2.1
  unfold M_falseShare_234 at hf
  exact th_lret C hw hf dX12_falseShare_234
def M_falseShare_262 (K : Int64 → th_St → Prop) (z0 : Int64) (u : th_St) : Prop :=
  K z0 u
set_option maxHeartbeats 4000000 in
set_option maxRecDepth 100000 in
theorem M_falseShare_262_w {K : Int64 → th_St → Prop} (C : th_Cx p s m args meth c cX12_falseShare RX12 10 (some .long) (dC, dI) (th_ty cs) th_E0 A) (z0 : Int64) (u : th_St) (H : Heap) (locs : List Loc) (ls : Array Slot) (hf : M_falseShare_262 K z0 u) (hw : th_wI (dC, dI) (wM cs q) A s.heap u H locs) (hl : lv_has ls 10 []) : W p l e (th_rm 1 0 0) s m args below meth c H locs 0 0 (MQ below (va_Ql K (th_Post (dC, dI) (wM cs q) A) A) args s 0 0 A) (F0 m 262 ls [.long z0]) := by
  have hx := C.1
  have hb := C.2.1
  unfold M_falseShare_262 at hf
  exact th_lret C hw hf dX12_falseShare_262
def M_falseShare_165 (K : Int64 → th_St → Prop) (k165 : Int32 → Int32 → Int32 → Int32 → Int64 → Int64 → Int32 → th_St → Prop) (x1 : Int32) (x2 : Int32) (x3 : Int32) (x4 : Int32) (x5 : Int64) (x7 : Int64) (x9 : Int32) (u : th_St) : Prop :=
  (((240 : Int32) ≤ x9 → ((¬ (lg_cmp x7 (0 : Int64)) = 0 → ((¬ x3 = 0 → M_common x7 x5 u (fun r_2 u_1 => (¬ r_2 = 0 ∧ M_falseShare_262 K (x5 / r_2) u_1))) ∧ (x3 = 0 → M_common x7 x5 u (fun r_4 u_3 => (¬ r_4 = 0 ∧ M_falseShare_262 K (x7 / r_4) u_3))))) ∧ ((lg_cmp x7 (0 : Int64)) = 0 → ((¬ x3 = 0 → M_falseShare_234 K (1 : Int64) u) ∧ (x3 = 0 → M_falseShare_234 K (0 : Int64) u))))) ∧ (¬ (240 : Int32) ≤ x9 → (vp_in x9 240 ∧ ∀ y_5 : Int64, y_5 = u.2.2.2 63 (x9).toNatClampNeg → ∀ y_6 : Int64, y_6 = (x5 + y_5) → (((x9 - (x1 * x4)) ≤ x2 → M_falseShare_209 K k165 x1 x2 x3 x4 y_6 x9 (0 : Int64) x7 u) ∧ (¬ (x9 - (x1 * x4)) ≤ x2 → (vp_in x9 240 ∧ ∀ y_7 : Int64, y_7 = u.2.2.2 63 (x9).toNatClampNeg → M_falseShare_209 K k165 x1 x2 x3 x4 y_6 x9 y_7 x7 u))))))
set_option maxHeartbeats 4000000 in
set_option maxRecDepth 100000 in
theorem M_falseShare_165_w {K : Int64 → th_St → Prop} {k165 : Int32 → Int32 → Int32 → Int32 → Int64 → Int64 → Int32 → th_St → Prop} (C : th_Cx p s m args meth c cX12_falseShare RX12 10 (some .long) (dC, dI) (th_ty cs) th_E0 A) (hk165 : ∀ (x1 : Int32) (x2 : Int32) (x3 : Int32) (x4 : Int32) (x5 : Int64) (x7 : Int64) (x9 : Int32) (u : th_St) (H : Heap) (locs : List Loc) (ls : Array Slot), k165 x1 x2 x3 x4 x5 x7 x9 u → th_wI (dC, dI) (wM cs q) A s.heap u H locs → lv_has ls 10 [(0, .ref (q 0)), (1, .int x1), (2, .int x2), (3, .int x3), (4, .int x4), (5, .long x5), (7, .long x7), (9, .int x9)] → W p l e (th_rm 1 0 0) s m args below meth c H locs 0 0 (MQ below (va_Ql K (th_Post (dC, dI) (wM cs q) A) A) args s 0 0 A) (F0 m 165 ls [])) (x1 : Int32) (x2 : Int32) (x3 : Int32) (x4 : Int32) (x5 : Int64) (x7 : Int64) (x9 : Int32) (u : th_St) (H : Heap) (locs : List Loc) (ls : Array Slot) (hf : M_falseShare_165 K k165 x1 x2 x3 x4 x5 x7 x9 u) (hw : th_wI (dC, dI) (wM cs q) A s.heap u H locs) (hl : lv_has ls 10 [(0, .ref (q 0)), (1, .int x1), (2, .int x2), (3, .int x3), (4, .int x4), (5, .long x5), (7, .long x7), (9, .int x9)]) : W p l e (th_rm 1 0 0) s m args below meth c H locs 0 0 (MQ below (va_Ql K (th_Post (dC, dI) (wM cs q) A) A) args s 0 0 A) (F0 m 165 ls []) := by
  have hx := C.1
  have hb := C.2.1
  unfold M_falseShare_165 at hf
  refine lv_iload hx hb dX12_falseShare_165 (lv_at hl 7 rfl) ?_
  refine lv_sipush (v := (240 : Int32)) hx hb dX12_falseShare_167 (by decide) ?_
  refine lv_icmp_ge (tgt := 218) hx hb dX12_falseShare_170 (by decide) (fun hc => ?_) (fun hc => ?_)
  · replace hf := hf.1 hc
    clear hc
    refine lv_lload hx hb dX12_falseShare_218 (lv_at hl 6 rfl) ?_
    refine lv_lconst (v := (0 : Int64)) hx hb dX12_falseShare_220 (by decide) ?_
    refine W.lcmp hx hb dX12_falseShare_221 ?_
    refine lv_if_ne (tgt := 235) hx hb dX12_falseShare_222 (by decide) (fun hc => ?_) (fun hc => ?_)
    · replace hf := hf.1 hc
      clear hc
      refine lv_iload_n hx hb dX12_falseShare_235 rfl (lv_at hl 3 rfl) ?_
      refine lv_if_ne (tgt := 252) hx hb dX12_falseShare_236 (by decide) (fun hc => ?_) (fun hc => ?_)
      · replace hf := hf.1 hc
        clear hc
        refine lv_lload hx hb dX12_falseShare_252 (lv_at hl 5 rfl) ?_
        refine lv_lload hx hb dX12_falseShare_254 (lv_at hl 6 rfl) ?_
        refine lv_lload hx hb dX12_falseShare_256 (lv_at hl 5 rfl) ?_
        refine th_callSl (As := [.long x7, .long x5]) (rest := [.long x5]) C lkX12_399 (M_common_c hf) hw rfl rfl ⟨Nat.le_of_ble_eq_true rfl, Nat.le_of_ble_eq_true rfl⟩ hl.1 (Nat.le_of_ble_eq_true rfl) ⟨Nat.le_refl _, Nat.le_refl _⟩ dX12_falseShare_258 (fun r_2 u_1 H locs hf hw => ?_)
        refine lv_ldiv hx hb dX12_falseShare_261 hf.1 ?_
        replace hf := hf.2
        exact M_falseShare_262_w C (x5 / r_2) u_1 _ _ _ hf hw (lv_sub hl [] rfl)
      · replace hf := hf.2 hc
        clear hc
        refine lv_lload hx hb dX12_falseShare_239 (lv_at hl 6 rfl) ?_
        refine lv_lload hx hb dX12_falseShare_241 (lv_at hl 6 rfl) ?_
        refine lv_lload hx hb dX12_falseShare_243 (lv_at hl 5 rfl) ?_
        refine th_callSl (As := [.long x7, .long x5]) (rest := [.long x7]) C lkX12_399 (M_common_c hf) hw rfl rfl ⟨Nat.le_of_ble_eq_true rfl, Nat.le_of_ble_eq_true rfl⟩ hl.1 (Nat.le_of_ble_eq_true rfl) ⟨Nat.le_refl _, Nat.le_refl _⟩ dX12_falseShare_245 (fun r_4 u_3 H locs hf hw => ?_)
        refine lv_ldiv hx hb dX12_falseShare_248 hf.1 ?_
        replace hf := hf.2
        refine lv_goto (tgt := 262) hx hb dX12_falseShare_249 (by decide) ?_
        exact M_falseShare_262_w C (x7 / r_4) u_3 _ _ _ hf hw (lv_sub hl [] rfl)
    · replace hf := hf.2 hc
      clear hc
      refine lv_iload_n hx hb dX12_falseShare_225 rfl (lv_at hl 3 rfl) ?_
      refine lv_if_ne (tgt := 233) hx hb dX12_falseShare_226 (by decide) (fun hc => ?_) (fun hc => ?_)
      · replace hf := hf.1 hc
        clear hc
        refine lv_lconst (v := (1 : Int64)) hx hb dX12_falseShare_233 (by decide) ?_
        exact M_falseShare_234_w C (1 : Int64) u _ _ _ hf hw (lv_sub hl [] rfl)
      · replace hf := hf.2 hc
        clear hc
        refine lv_lconst (v := (0 : Int64)) hx hb dX12_falseShare_229 (by decide) ?_
        refine lv_goto (tgt := 234) hx hb dX12_falseShare_230 (by decide) ?_
        exact M_falseShare_234_w C (0 : Int64) u _ _ _ hf hw (lv_sub hl [] rfl)
  · replace hf := hf.2 hc
    clear hc
    refine lv_lload hx hb dX12_falseShare_173 (lv_at hl 5 rfl) ?_
    refine lv_aload_n hx hb dX12_falseShare_175 rfl (lv_at hl 0 rfl) ?_
    refine mg_63 C hw dX12_falseShare_176 ?_
    refine lv_iload hx hb dX12_falseShare_179 (lv_at hl 7 rfl) ?_
    refine ml_63 C hw hf.1 dX12_falseShare_181 (fun y_5 e9 => ?_)
    replace hf := hf.2 y_5 e9
    clear e9
    refine lv_ladd hx hb dX12_falseShare_182 ?_
    refine lv_topl (fun y_6 e9 => ?_)
    replace hf := hf y_6 e9
    clear e9
    refine lv_lstore (lv' := [(5, .long y_6), (0, .ref (q 0)), (1, .int x1), (2, .int x2), (3, .int x3), (4, .int x4), (7, .long x7), (9, .int x9)]) hx hb dX12_falseShare_183 hl (by decide) rfl (fun ls hl => ?_)
    refine lv_lload hx hb dX12_falseShare_185 (lv_at hl 6 rfl) ?_
    refine lv_iload hx hb dX12_falseShare_187 (lv_at hl 7 rfl) ?_
    refine lv_iload_n hx hb dX12_falseShare_189 rfl (lv_at hl 2 rfl) ?_
    refine lv_iload hx hb dX12_falseShare_190 (lv_at hl 5 rfl) ?_
    refine lv_imul hx hb dX12_falseShare_192 ?_
    refine lv_isub hx hb dX12_falseShare_193 ?_
    refine lv_iload_n hx hb dX12_falseShare_194 rfl (lv_at hl 3 rfl) ?_
    refine lv_icmp_le (tgt := 208) hx hb dX12_falseShare_195 (by decide) (fun hc => ?_) (fun hc => ?_)
    · replace hf := hf.1 hc
      clear hc
      refine lv_lconst (v := (0 : Int64)) hx hb dX12_falseShare_208 (by decide) ?_
      exact M_falseShare_209_w C hk165 x1 x2 x3 x4 y_6 x9 (0 : Int64) x7 u _ _ _ hf hw (lv_sub hl [1, 2, 3, 4, 5, 0, 7] rfl)
    · replace hf := hf.2 hc
      clear hc
      refine lv_aload_n hx hb dX12_falseShare_198 rfl (lv_at hl 1 rfl) ?_
      refine mg_63 C hw dX12_falseShare_199 ?_
      refine lv_iload hx hb dX12_falseShare_202 (lv_at hl 7 rfl) ?_
      refine ml_63 C hw hf.1 dX12_falseShare_204 (fun y_7 e9 => ?_)
      replace hf := hf.2 y_7 e9
      clear e9
      refine lv_goto (tgt := 209) hx hb dX12_falseShare_205 (by decide) ?_
      exact M_falseShare_209_w C hk165 x1 x2 x3 x4 y_6 x9 y_7 x7 u _ _ _ hf hw (lv_sub hl [1, 2, 3, 4, 5, 0, 7] rfl)
def M_falseShare_165_lp (K : Int64 → th_St → Prop) : Nat → Int32 → Int32 → Int32 → Int32 → Int64 → Int64 → Int32 → th_St → Prop
  | 0, _, _, _, _, _, _, _, _ => False
  | n + 1, x1, x2, x3, x4, x5, x7, x9, u => M_falseShare_165 K (M_falseShare_165_lp K n) x1 x2 x3 x4 x5 x7 x9 u
set_option maxHeartbeats 4000000 in
set_option maxRecDepth 100000 in
theorem M_falseShare_165_lw {K : Int64 → th_St → Prop} (C : th_Cx p s m args meth c cX12_falseShare RX12 10 (some .long) (dC, dI) (th_ty cs) th_E0 A) (n : Nat) : ∀ (x1 : Int32) (x2 : Int32) (x3 : Int32) (x4 : Int32) (x5 : Int64) (x7 : Int64) (x9 : Int32) (u : th_St) (H : Heap) (locs : List Loc) (ls : Array Slot), M_falseShare_165_lp K n x1 x2 x3 x4 x5 x7 x9 u → th_wI (dC, dI) (wM cs q) A s.heap u H locs → lv_has ls 10 [(0, .ref (q 0)), (1, .int x1), (2, .int x2), (3, .int x3), (4, .int x4), (5, .long x5), (7, .long x7), (9, .int x9)] → W p l e (th_rm 1 0 0) s m args below meth c H locs 0 0 (MQ below (va_Ql K (th_Post (dC, dI) (wM cs q) A) A) args s 0 0 A) (F0 m 165 ls []) := by
  induction n with
  | zero => intro x1 x2 x3 x4 x5 x7 x9 u H locs ls hf; exact hf.elim
  | succ n ih =>
    intro x1 x2 x3 x4 x5 x7 x9 u H locs ls hf hw hl
    exact M_falseShare_165_w C ih x1 x2 x3 x4 x5 x7 x9 u H locs ls hf hw hl
def M_falseShare_76 (K : Int64 → th_St → Prop) (k76 : Int32 → Int32 → Int32 → Int32 → Int32 → th_St → Prop) (x1 : Int32) (x2 : Int32) (x3 : Int32) (x4 : Int32) (x5 : Int32) (u : th_St) : Prop :=
  ((x1 ≤ x5 → ∃ n, M_falseShare_165_lp K n x1 x2 x3 x4 (0 : Int64) (0 : Int64) (0 : Int32) u) ∧ (¬ x1 ≤ x5 → ∃ n, M_falseShare_87_lp K k76 n x1 x2 x3 x4 x5 (239 : Int32) u))
set_option maxHeartbeats 4000000 in
set_option maxRecDepth 100000 in
theorem M_falseShare_76_w {K : Int64 → th_St → Prop} {k76 : Int32 → Int32 → Int32 → Int32 → Int32 → th_St → Prop} (C : th_Cx p s m args meth c cX12_falseShare RX12 10 (some .long) (dC, dI) (th_ty cs) th_E0 A) (hk76 : ∀ (x1 : Int32) (x2 : Int32) (x3 : Int32) (x4 : Int32) (x5 : Int32) (u : th_St) (H : Heap) (locs : List Loc) (ls : Array Slot), k76 x1 x2 x3 x4 x5 u → th_wI (dC, dI) (wM cs q) A s.heap u H locs → lv_has ls 10 [(0, .ref (q 0)), (1, .int x1), (2, .int x2), (3, .int x3), (4, .int x4), (5, .int x5)] → W p l e (th_rm 1 0 0) s m args below meth c H locs 0 0 (MQ below (va_Ql K (th_Post (dC, dI) (wM cs q) A) A) args s 0 0 A) (F0 m 76 ls [])) (x1 : Int32) (x2 : Int32) (x3 : Int32) (x4 : Int32) (x5 : Int32) (u : th_St) (H : Heap) (locs : List Loc) (ls : Array Slot) (hf : M_falseShare_76 K k76 x1 x2 x3 x4 x5 u) (hw : th_wI (dC, dI) (wM cs q) A s.heap u H locs) (hl : lv_has ls 10 [(0, .ref (q 0)), (1, .int x1), (2, .int x2), (3, .int x3), (4, .int x4), (5, .int x5)]) : W p l e (th_rm 1 0 0) s m args below meth c H locs 0 0 (MQ below (va_Ql K (th_Post (dC, dI) (wM cs q) A) A) args s 0 0 A) (F0 m 76 ls []) := by
  have hx := C.1
  have hb := C.2.1
  unfold M_falseShare_76 at hf
  refine lv_iload hx hb dX12_falseShare_76 (lv_at hl 5 rfl) ?_
  refine lv_iload_n hx hb dX12_falseShare_78 rfl (lv_at hl 1 rfl) ?_
  refine lv_icmp_ge (tgt := 156) hx hb dX12_falseShare_79 (by decide) (fun hc => ?_) (fun hc => ?_)
  · replace hf := hf.1 hc
    clear hc
    refine lv_lconst (v := (0 : Int64)) hx hb dX12_falseShare_156 (by decide) ?_
    refine lv_lstore (lv' := [(5, .long (0 : Int64)), (0, .ref (q 0)), (1, .int x1), (2, .int x2), (3, .int x3), (4, .int x4)]) hx hb dX12_falseShare_157 hl (by decide) rfl (fun ls hl => ?_)
    refine lv_lconst (v := (0 : Int64)) hx hb dX12_falseShare_159 (by decide) ?_
    refine lv_lstore (lv' := [(7, .long (0 : Int64)), (5, .long (0 : Int64)), (0, .ref (q 0)), (1, .int x1), (2, .int x2), (3, .int x3), (4, .int x4)]) hx hb dX12_falseShare_160 hl (by decide) rfl (fun ls hl => ?_)
    refine lv_iconst (v := (0 : Int32)) hx hb dX12_falseShare_162 (by decide) ?_
    refine lv_istore (lv' := [(9, .int (0 : Int32)), (7, .long (0 : Int64)), (5, .long (0 : Int64)), (0, .ref (q 0)), (1, .int x1), (2, .int x2), (3, .int x3), (4, .int x4)]) hx hb dX12_falseShare_163 hl (by decide) rfl (fun ls hl => ?_)
    obtain ⟨n, hf⟩ := hf
    exact M_falseShare_165_lw C n x1 x2 x3 x4 (0 : Int64) (0 : Int64) (0 : Int32) u _ _ _ hf hw (lv_sub hl [3, 4, 5, 6, 7, 2, 1, 0] rfl)
  · replace hf := hf.2 hc
    clear hc
    refine lv_sipush (v := (239 : Int32)) hx hb dX12_falseShare_82 (by decide) ?_
    refine lv_istore (lv' := [(6, .int (239 : Int32)), (0, .ref (q 0)), (1, .int x1), (2, .int x2), (3, .int x3), (4, .int x4), (5, .int x5)]) hx hb dX12_falseShare_85 hl (by decide) rfl (fun ls hl => ?_)
    obtain ⟨n, hf⟩ := hf
    exact M_falseShare_87_lw C hk76 n x1 x2 x3 x4 x5 (239 : Int32) u _ _ _ hf hw (lv_sub hl [1, 2, 3, 4, 5, 6, 0] rfl)
def M_falseShare_76_lp (K : Int64 → th_St → Prop) : Nat → Int32 → Int32 → Int32 → Int32 → Int32 → th_St → Prop
  | 0, _, _, _, _, _, _ => False
  | n + 1, x1, x2, x3, x4, x5, u => M_falseShare_76 K (M_falseShare_76_lp K n) x1 x2 x3 x4 x5 u
set_option maxHeartbeats 4000000 in
set_option maxRecDepth 100000 in
theorem M_falseShare_76_lw {K : Int64 → th_St → Prop} (C : th_Cx p s m args meth c cX12_falseShare RX12 10 (some .long) (dC, dI) (th_ty cs) th_E0 A) (n : Nat) : ∀ (x1 : Int32) (x2 : Int32) (x3 : Int32) (x4 : Int32) (x5 : Int32) (u : th_St) (H : Heap) (locs : List Loc) (ls : Array Slot), M_falseShare_76_lp K n x1 x2 x3 x4 x5 u → th_wI (dC, dI) (wM cs q) A s.heap u H locs → lv_has ls 10 [(0, .ref (q 0)), (1, .int x1), (2, .int x2), (3, .int x3), (4, .int x4), (5, .int x5)] → W p l e (th_rm 1 0 0) s m args below meth c H locs 0 0 (MQ below (va_Ql K (th_Post (dC, dI) (wM cs q) A) A) args s 0 0 A) (F0 m 76 ls []) := by
  induction n with
  | zero => intro x1 x2 x3 x4 x5 u H locs ls hf; exact hf.elim
  | succ n ih =>
    intro x1 x2 x3 x4 x5 u H locs ls hf hw hl
    exact M_falseShare_76_w C ih x1 x2 x3 x4 x5 u H locs ls hf hw hl
def M_falseShare_44 (K : Int64 → th_St → Prop) (k44 : Int32 → Int32 → Int32 → Int32 → Int32 → th_St → Prop) (x1 : Int32) (x2 : Int32) (x3 : Int32) (x4 : Int32) (x5 : Int32) (u : th_St) : Prop :=
  (((240 : Int32) ≤ x5 → (vp_in (0 : Int32) 240 ∧ ∀ u_1 : th_St, u_1 = th_sl u 63 (vp_updL (u.2.2.2 63) ((0 : Int32)).toNatClampNeg (1 : Int64)) → ∃ n, M_falseShare_76_lp K n x1 x2 x3 x4 (0 : Int32) u_1)) ∧ (¬ (240 : Int32) ≤ x5 → (vp_in x5 240 ∧ ∀ u_2 : th_St, u_2 = th_sl u 63 (vp_updL (u.2.2.2 63) (x5).toNatClampNeg (0 : Int64)) → ∀ x5_3 : Int32, x5_3 = x5 + (1 : Int32) → k44 x1 x2 x3 x4 x5_3 u_2)))
set_option maxHeartbeats 4000000 in
set_option maxRecDepth 100000 in
theorem M_falseShare_44_w {K : Int64 → th_St → Prop} {k44 : Int32 → Int32 → Int32 → Int32 → Int32 → th_St → Prop} (C : th_Cx p s m args meth c cX12_falseShare RX12 10 (some .long) (dC, dI) (th_ty cs) th_E0 A) (hk44 : ∀ (x1 : Int32) (x2 : Int32) (x3 : Int32) (x4 : Int32) (x5 : Int32) (u : th_St) (H : Heap) (locs : List Loc) (ls : Array Slot), k44 x1 x2 x3 x4 x5 u → th_wI (dC, dI) (wM cs q) A s.heap u H locs → lv_has ls 10 [(0, .ref (q 0)), (1, .int x1), (2, .int x2), (3, .int x3), (4, .int x4), (5, .int x5)] → W p l e (th_rm 1 0 0) s m args below meth c H locs 0 0 (MQ below (va_Ql K (th_Post (dC, dI) (wM cs q) A) A) args s 0 0 A) (F0 m 44 ls [])) (x1 : Int32) (x2 : Int32) (x3 : Int32) (x4 : Int32) (x5 : Int32) (u : th_St) (H : Heap) (locs : List Loc) (ls : Array Slot) (hf : M_falseShare_44 K k44 x1 x2 x3 x4 x5 u) (hw : th_wI (dC, dI) (wM cs q) A s.heap u H locs) (hl : lv_has ls 10 [(0, .ref (q 0)), (1, .int x1), (2, .int x2), (3, .int x3), (4, .int x4), (5, .int x5)]) : W p l e (th_rm 1 0 0) s m args below meth c H locs 0 0 (MQ below (va_Ql K (th_Post (dC, dI) (wM cs q) A) A) args s 0 0 A) (F0 m 44 ls []) := by
  have hx := C.1
  have hb := C.2.1
  unfold M_falseShare_44 at hf
  refine lv_iload hx hb dX12_falseShare_44 (lv_at hl 5 rfl) ?_
  refine lv_sipush (v := (240 : Int32)) hx hb dX12_falseShare_46 (by decide) ?_
  refine lv_icmp_ge (tgt := 66) hx hb dX12_falseShare_49 (by decide) (fun hc => ?_) (fun hc => ?_)
  · replace hf := hf.1 hc
    clear hc
    refine lv_aload_n hx hb dX12_falseShare_66 rfl (lv_at hl 0 rfl) ?_
    refine mg_63 C hw dX12_falseShare_67 ?_
    refine lv_iconst (v := (0 : Int32)) hx hb dX12_falseShare_70 (by decide) ?_
    refine lv_lconst (v := (1 : Int64)) hx hb dX12_falseShare_71 (by decide) ?_
    refine ms_63 C hw hf.1 dX12_falseShare_72 (fun u_1 e9 H locs hw => ?_)
    replace hf := hf.2 u_1 e9
    clear e9
    refine lv_iconst (v := (0 : Int32)) hx hb dX12_falseShare_73 (by decide) ?_
    refine lv_istore (lv' := [(5, .int (0 : Int32)), (0, .ref (q 0)), (1, .int x1), (2, .int x2), (3, .int x3), (4, .int x4)]) hx hb dX12_falseShare_74 hl (by decide) rfl (fun ls hl => ?_)
    obtain ⟨n, hf⟩ := hf
    exact M_falseShare_76_lw C n x1 x2 x3 x4 (0 : Int32) u_1 _ _ _ hf hw (lv_sub hl [1, 2, 3, 4, 5, 0] rfl)
  · replace hf := hf.2 hc
    clear hc
    refine lv_aload_n hx hb dX12_falseShare_52 rfl (lv_at hl 0 rfl) ?_
    refine mg_63 C hw dX12_falseShare_53 ?_
    refine lv_iload hx hb dX12_falseShare_56 (lv_at hl 5 rfl) ?_
    refine lv_lconst (v := (0 : Int64)) hx hb dX12_falseShare_58 (by decide) ?_
    refine ms_63 C hw hf.1 dX12_falseShare_59 (fun u_2 e9 H locs hw => ?_)
    replace hf := hf.2 u_2 e9
    clear e9
    obtain ⟨x5_3, e9⟩ : ∃ y : Int32, y = x5 + (1 : Int32) := ⟨_, rfl⟩
    replace hf := hf x5_3 e9
    refine lv_iinc (v := x5_3) (lv' := [(5, .int x5_3), (0, .ref (q 0)), (1, .int x1), (2, .int x2), (3, .int x3), (4, .int x4)]) hx hb dX12_falseShare_60 hl (k := 5) rfl (by rw [e9]; rfl) (by decide) rfl (fun ls hl => ?_)
    clear e9
    refine lv_goto (tgt := 44) hx hb dX12_falseShare_63 (by decide) ?_
    exact hk44 x1 x2 x3 x4 x5_3 u_2 _ _ _ hf hw (lv_sub hl [1, 2, 3, 4, 5, 0] rfl)
def M_falseShare_44_lp (K : Int64 → th_St → Prop) : Nat → Int32 → Int32 → Int32 → Int32 → Int32 → th_St → Prop
  | 0, _, _, _, _, _, _ => False
  | n + 1, x1, x2, x3, x4, x5, u => M_falseShare_44 K (M_falseShare_44_lp K n) x1 x2 x3 x4 x5 u
set_option maxHeartbeats 4000000 in
set_option maxRecDepth 100000 in
theorem M_falseShare_44_lw {K : Int64 → th_St → Prop} (C : th_Cx p s m args meth c cX12_falseShare RX12 10 (some .long) (dC, dI) (th_ty cs) th_E0 A) (n : Nat) : ∀ (x1 : Int32) (x2 : Int32) (x3 : Int32) (x4 : Int32) (x5 : Int32) (u : th_St) (H : Heap) (locs : List Loc) (ls : Array Slot), M_falseShare_44_lp K n x1 x2 x3 x4 x5 u → th_wI (dC, dI) (wM cs q) A s.heap u H locs → lv_has ls 10 [(0, .ref (q 0)), (1, .int x1), (2, .int x2), (3, .int x3), (4, .int x4), (5, .int x5)] → W p l e (th_rm 1 0 0) s m args below meth c H locs 0 0 (MQ below (va_Ql K (th_Post (dC, dI) (wM cs q) A) A) args s 0 0 A) (F0 m 44 ls []) := by
  induction n with
  | zero => intro x1 x2 x3 x4 x5 u H locs ls hf; exact hf.elim
  | succ n ih =>
    intro x1 x2 x3 x4 x5 u H locs ls hf hw hl
    exact M_falseShare_44_w C ih x1 x2 x3 x4 x5 u H locs ls hf hw hl
def M_falseShare_25 (K : Int64 → th_St → Prop) (x1 : Int32) (x2 : Int32) (x3 : Int32) (z0 : Int32) (u : th_St) : Prop :=
  M_throwsIf z0 u (fun r_2 u_1 => ((r_2 = 0 → (vp_in (0 : Int32) 2 ∧ ∀ y_3 : Int32, y_3 = u_1.2.2.1 14 ((0 : Int32)).toNatClampNeg → ∃ n, M_falseShare_44_lp K n x1 x2 x3 y_3 (0 : Int32) u_1)) ∧ (¬ r_2 = 0 → K (0 : Int64) u_1)))
set_option maxHeartbeats 4000000 in
set_option maxRecDepth 100000 in
theorem M_falseShare_25_w {K : Int64 → th_St → Prop} (C : th_Cx p s m args meth c cX12_falseShare RX12 10 (some .long) (dC, dI) (th_ty cs) th_E0 A) (x1 : Int32) (x2 : Int32) (x3 : Int32) (z0 : Int32) (u : th_St) (H : Heap) (locs : List Loc) (ls : Array Slot) (hf : M_falseShare_25 K x1 x2 x3 z0 u) (hw : th_wI (dC, dI) (wM cs q) A s.heap u H locs) (hl : lv_has ls 10 [(0, .ref (q 0)), (1, .int x1), (2, .int x2), (3, .int x3)]) : W p l e (th_rm 1 0 0) s m args below meth c H locs 0 0 (MQ below (va_Ql K (th_Post (dC, dI) (wM cs q) A) A) args s 0 0 A) (F0 m 25 ls [.int z0, .ref (q 0)]) := by
  have hx := C.1
  have hb := C.2.1
  unfold M_falseShare_25 at hf
  refine th_callVi (As := [.int z0]) (rest := []) C lkX12_343 (M_throwsIf_c hf) hw (mRc C hw) rfl rfl ⟨Nat.le_of_ble_eq_true rfl, Nat.le_of_ble_eq_true rfl⟩ hl.1 (Nat.le_of_ble_eq_true rfl) ⟨Nat.le_refl _, Nat.le_refl _⟩ dX12_falseShare_25 (fun r_2 u_1 H locs hf hw => ?_)
  refine lv_if_eq (tgt := 33) hx hb dX12_falseShare_28 (by decide) (fun hc => ?_) (fun hc => ?_)
  · replace hf := hf.1 hc
    clear hc
    refine lv_aload_n hx hb dX12_falseShare_33 rfl (lv_at hl 0 rfl) ?_
    refine mg_14 C hw dX12_falseShare_34 ?_
    refine lv_iconst (v := (0 : Int32)) hx hb dX12_falseShare_37 (by decide) ?_
    refine ml_14 C hw hf.1 dX12_falseShare_38 (fun y_3 e9 => ?_)
    replace hf := hf.2 y_3 e9
    clear e9
    refine lv_istore (lv' := [(4, .int y_3), (0, .ref (q 0)), (1, .int x1), (2, .int x2), (3, .int x3)]) hx hb dX12_falseShare_39 hl (by decide) rfl (fun ls hl => ?_)
    refine lv_iconst (v := (0 : Int32)) hx hb dX12_falseShare_41 (by decide) ?_
    refine lv_istore (lv' := [(5, .int (0 : Int32)), (4, .int y_3), (0, .ref (q 0)), (1, .int x1), (2, .int x2), (3, .int x3)]) hx hb dX12_falseShare_42 hl (by decide) rfl (fun ls hl => ?_)
    obtain ⟨n, hf⟩ := hf
    exact M_falseShare_44_lw C n x1 x2 x3 y_3 (0 : Int32) u_1 _ _ _ hf hw (lv_sub hl [2, 3, 4, 5, 1, 0] rfl)
  · replace hf := hf.2 hc
    clear hc
    refine lv_lconst (v := (0 : Int64)) hx hb dX12_falseShare_31 (by decide) ?_
    exact th_lret C hw hf dX12_falseShare_32
def M_falseShare_20 (K : Int64 → th_St → Prop) (x1 : Int32) (x2 : Int32) (x3 : Int32) (u : th_St) : Prop :=
  M_falseShare_25 K x1 x2 x3 (1 : Int32) u
set_option maxHeartbeats 4000000 in
set_option maxRecDepth 100000 in
theorem M_falseShare_20_w {K : Int64 → th_St → Prop} (C : th_Cx p s m args meth c cX12_falseShare RX12 10 (some .long) (dC, dI) (th_ty cs) th_E0 A) (x1 : Int32) (x2 : Int32) (x3 : Int32) (u : th_St) (H : Heap) (locs : List Loc) (ls : Array Slot) (hf : M_falseShare_20 K x1 x2 x3 u) (hw : th_wI (dC, dI) (wM cs q) A s.heap u H locs) (hl : lv_has ls 10 [(0, .ref (q 0)), (1, .int x1), (2, .int x2), (3, .int x3)]) : W p l e (th_rm 1 0 0) s m args below meth c H locs 0 0 (MQ below (va_Ql K (th_Post (dC, dI) (wM cs q) A) A) args s 0 0 A) (F0 m 20 ls [.ref (q 0)]) := by
  have hx := C.1
  have hb := C.2.1
  unfold M_falseShare_20 at hf
  refine lv_iconst (v := (1 : Int32)) hx hb dX12_falseShare_20 (by decide) ?_
  refine lv_goto (tgt := 25) hx hb dX12_falseShare_21 (by decide) ?_
  exact M_falseShare_25_w C x1 x2 x3 (1 : Int32) u _ _ _ hf hw (lv_sub hl [0, 1, 2, 3] rfl)
def M_falseShare (a1 : Int32) (a2 : Int32) (a3 : Int32) (u : th_St) (K : Int64 → th_St → Prop) : Prop :=
  M_isIn a1 (1 : Int32) (12 : Int32) u (fun r_2 u_1 => ((r_2 = 0 → M_falseShare_20 K a1 a2 a3 u_1) ∧ (¬ r_2 = 0 → M_isIn a3 (0 : Int32) (1 : Int32) u_1 (fun r_4 u_3 => ((¬ r_4 = 0 → M_falseShare_25 K a1 a2 a3 (0 : Int32) u_3) ∧ (r_4 = 0 → M_falseShare_20 K a1 a2 a3 u_3))))))
set_option maxHeartbeats 4000000 in
set_option maxRecDepth 100000 in
theorem M_falseShare_c {l : Launch} {dC : Nat → ClassId} {dI : Nat → Nat → Nat} {cs : Nat → ClassId} {q : Nat → Nat} {a1 : Int32} {a2 : Int32} {a3 : Int32} {u : th_St} {K : Int64 → th_St → Prop} (hf : M_falseShare a1 a2 a3 u K) : th_Cl l yX12_falseShare cX12_falseShare 10 (some .long) 1 0 0 (dC, dI) (th_ty cs) th_E0 (wM cs q) [.ref (q 0), .int a1, .int a2, .int a3] u K := by
  refine th_ofl (by decide) (Nat.le_of_ble_eq_true rfl) th_E0_ok ?_
  intro p e s m below meth c A ls C hw hl
  have C : th_Cx p s m _ meth c cX12_falseShare RX12 10 (some .long) (dC, dI) (th_ty cs) th_E0 A := C
  have hl : lv_has ls 10 [(0, .ref (q 0)), (1, .int a1), (2, .int a2), (3, .int a3)] := hl
  generalize (List.toArray _ : Array Value) = args at C ⊢
  have hx := C.1
  have hb := C.2.1
  unfold M_falseShare at hf
  refine lv_aload_n hx hb dX12_falseShare_0 rfl (lv_at hl 0 rfl) ?_
  refine lv_iload_n hx hb dX12_falseShare_1 rfl (lv_at hl 1 rfl) ?_
  refine lv_iconst (v := (1 : Int32)) hx hb dX12_falseShare_2 (by decide) ?_
  refine lv_bipush (v := (12 : Int32)) hx hb dX12_falseShare_3 (by decide) ?_
  refine th_callSi (As := [.int a1, .int (1 : Int32), .int (12 : Int32)]) (rest := [.ref (q 0)]) C lkX12_24 (M_isIn_c hf) hw rfl rfl ⟨Nat.le_of_ble_eq_true rfl, Nat.le_of_ble_eq_true rfl⟩ hl.1 (Nat.le_of_ble_eq_true rfl) ⟨Nat.le_refl _, Nat.le_refl _⟩ dX12_falseShare_5 (fun r_2 u_1 H locs hf hw => ?_)
  refine lv_if_eq (tgt := 20) hx hb dX12_falseShare_8 (by decide) (fun hc => ?_) (fun hc => ?_)
  · replace hf := hf.1 hc
    clear hc
    exact M_falseShare_20_w C a1 a2 a3 u_1 _ _ _ hf hw (lv_sub hl [0, 1, 2, 3] rfl)
  · replace hf := hf.2 hc
    clear hc
    refine lv_iload_n hx hb dX12_falseShare_11 rfl (lv_at hl 3 rfl) ?_
    refine lv_iconst (v := (0 : Int32)) hx hb dX12_falseShare_12 (by decide) ?_
    refine lv_iconst (v := (1 : Int32)) hx hb dX12_falseShare_13 (by decide) ?_
    refine th_callSi (As := [.int a3, .int (0 : Int32), .int (1 : Int32)]) (rest := [.ref (q 0)]) C lkX12_24 (M_isIn_c hf) hw rfl rfl ⟨Nat.le_of_ble_eq_true rfl, Nat.le_of_ble_eq_true rfl⟩ hl.1 (Nat.le_of_ble_eq_true rfl) ⟨Nat.le_refl _, Nat.le_refl _⟩ dX12_falseShare_14 (fun r_4 u_3 H locs hf hw => ?_)
    refine lv_if_ne (tgt := 24) hx hb dX12_falseShare_17 (by decide) (fun hc => ?_) (fun hc => ?_)
    · replace hf := hf.1 hc
      clear hc
      refine lv_iconst (v := (0 : Int32)) hx hb dX12_falseShare_24 (by decide) ?_
      exact M_falseShare_25_w C a1 a2 a3 (0 : Int32) u_3 _ _ _ hf hw (lv_sub hl [0, 1, 2, 3] rfl)
    · replace hf := hf.2 hc
      clear hc
      exact M_falseShare_20_w C a1 a2 a3 u_3 _ _ _ hf hw (lv_sub hl [0, 1, 2, 3] rfl)
/-! X12_gauges -/
theorem dX12_gauges_0 : decode cX12_gauges 0 = .ok (.aload_n 0, 1) := by decide +kernel
theorem dX12_gauges_1 : decode cX12_gauges 1 = .ok (.iconst 0, 1) := by decide +kernel
theorem dX12_gauges_2 : decode cX12_gauges 2 = .ok (.putfield 1, 3) := by decide +kernel
theorem dX12_gauges_5 : decode cX12_gauges 5 = .ok (.aload_n 0, 1) := by decide +kernel
theorem dX12_gauges_6 : decode cX12_gauges 6 = .ok (.invokevirtual 164, 3) := by decide +kernel
theorem dX12_gauges_9 : decode cX12_gauges 9 = .ok (.aload_n 0, 1) := by decide +kernel
theorem dX12_gauges_10 : decode cX12_gauges 10 = .ok (.getfield 18, 3) := by decide +kernel
theorem dX12_gauges_13 : decode cX12_gauges 13 = .ok (.iconst 2, 1) := by decide +kernel
theorem dX12_gauges_14 : decode cX12_gauges 14 = .ok (.irem, 1) := by decide +kernel
theorem dX12_gauges_15 : decode cX12_gauges 15 = .ok (.ifCond .ne 18, 3) := by decide +kernel
theorem dX12_gauges_18 : decode cX12_gauges 18 = .ok (.aload_n 0, 1) := by decide +kernel
theorem dX12_gauges_19 : decode cX12_gauges 19 = .ok (.getfield 18, 3) := by decide +kernel
theorem dX12_gauges_22 : decode cX12_gauges 22 = .ok (.iconst 2, 1) := by decide +kernel
theorem dX12_gauges_23 : decode cX12_gauges 23 = .ok (.idiv, 1) := by decide +kernel
theorem dX12_gauges_24 : decode cX12_gauges 24 = .ok (.iconst 1, 1) := by decide +kernel
theorem dX12_gauges_25 : decode cX12_gauges 25 = .ok (.bipush 40, 2) := by decide +kernel
theorem dX12_gauges_27 : decode cX12_gauges 27 = .ok (.invokestatic 24, 3) := by decide +kernel
theorem dX12_gauges_30 : decode cX12_gauges 30 = .ok (.ifCond .ne 5, 3) := by decide +kernel
theorem dX12_gauges_33 : decode cX12_gauges 33 = .ok (.iconst (-1), 1) := by decide +kernel
theorem dX12_gauges_34 : decode cX12_gauges 34 = .ok (.ireturn, 1) := by decide +kernel
theorem dX12_gauges_35 : decode cX12_gauges 35 = .ok (.iconst 0, 1) := by decide +kernel
theorem dX12_gauges_36 : decode cX12_gauges 36 = .ok (.istore_n 1, 1) := by decide +kernel
theorem dX12_gauges_37 : decode cX12_gauges 37 = .ok (.iload_n 1, 1) := by decide +kernel
theorem dX12_gauges_38 : decode cX12_gauges 38 = .ok (.aload_n 0, 1) := by decide +kernel
theorem dX12_gauges_39 : decode cX12_gauges 39 = .ok (.getfield 18, 3) := by decide +kernel
theorem dX12_gauges_42 : decode cX12_gauges 42 = .ok (.iconst 2, 1) := by decide +kernel
theorem dX12_gauges_43 : decode cX12_gauges 43 = .ok (.idiv, 1) := by decide +kernel
theorem dX12_gauges_44 : decode cX12_gauges 44 = .ok (.if_icmp .ge 61, 3) := by decide +kernel
theorem dX12_gauges_47 : decode cX12_gauges 47 = .ok (.aload_n 0, 1) := by decide +kernel
theorem dX12_gauges_48 : decode cX12_gauges 48 = .ok (.getfield 14, 3) := by decide +kernel
theorem dX12_gauges_51 : decode cX12_gauges 51 = .ok (.iconst 2, 1) := by decide +kernel
theorem dX12_gauges_52 : decode cX12_gauges 52 = .ok (.iload_n 1, 1) := by decide +kernel
theorem dX12_gauges_53 : decode cX12_gauges 53 = .ok (.imul, 1) := by decide +kernel
theorem dX12_gauges_54 : decode cX12_gauges 54 = .ok (.iconst 1, 1) := by decide +kernel
theorem dX12_gauges_55 : decode cX12_gauges 55 = .ok (.iadd, 1) := by decide +kernel
theorem dX12_gauges_56 : decode cX12_gauges 56 = .ok (.baload, 1) := by decide +kernel
theorem dX12_gauges_57 : decode cX12_gauges 57 = .ok (.iconst 0, 1) := by decide +kernel
theorem dX12_gauges_58 : decode cX12_gauges 58 = .ok (.aload_n 0, 1) := by decide +kernel
theorem dX12_gauges_59 : decode cX12_gauges 59 = .ok (.getfield 54, 3) := by decide +kernel
theorem dX12_gauges_62 : decode cX12_gauges 62 = .ok (.iconst 0, 1) := by decide +kernel
theorem dX12_gauges_63 : decode cX12_gauges 63 = .ok (.iaload, 1) := by decide +kernel
theorem dX12_gauges_64 : decode cX12_gauges 64 = .ok (.iconst 1, 1) := by decide +kernel
theorem dX12_gauges_65 : decode cX12_gauges 65 = .ok (.isub, 1) := by decide +kernel
theorem dX12_gauges_66 : decode cX12_gauges 66 = .ok (.invokestatic 24, 3) := by decide +kernel
theorem dX12_gauges_69 : decode cX12_gauges 69 = .ok (.ifCond .eq 28, 3) := by decide +kernel
theorem dX12_gauges_72 : decode cX12_gauges 72 = .ok (.aload_n 0, 1) := by decide +kernel
theorem dX12_gauges_73 : decode cX12_gauges 73 = .ok (.getfield 14, 3) := by decide +kernel
theorem dX12_gauges_76 : decode cX12_gauges 76 = .ok (.iconst 2, 1) := by decide +kernel
theorem dX12_gauges_77 : decode cX12_gauges 77 = .ok (.iload_n 1, 1) := by decide +kernel
theorem dX12_gauges_78 : decode cX12_gauges 78 = .ok (.imul, 1) := by decide +kernel
theorem dX12_gauges_79 : decode cX12_gauges 79 = .ok (.baload, 1) := by decide +kernel
theorem dX12_gauges_80 : decode cX12_gauges 80 = .ok (.iconst 0, 1) := by decide +kernel
theorem dX12_gauges_81 : decode cX12_gauges 81 = .ok (.aload_n 0, 1) := by decide +kernel
theorem dX12_gauges_82 : decode cX12_gauges 82 = .ok (.getfield 14, 3) := by decide +kernel
theorem dX12_gauges_85 : decode cX12_gauges 85 = .ok (.iconst 2, 1) := by decide +kernel
theorem dX12_gauges_86 : decode cX12_gauges 86 = .ok (.iload_n 1, 1) := by decide +kernel
theorem dX12_gauges_87 : decode cX12_gauges 87 = .ok (.imul, 1) := by decide +kernel
theorem dX12_gauges_88 : decode cX12_gauges 88 = .ok (.iconst 1, 1) := by decide +kernel
theorem dX12_gauges_89 : decode cX12_gauges 89 = .ok (.iadd, 1) := by decide +kernel
theorem dX12_gauges_90 : decode cX12_gauges 90 = .ok (.baload, 1) := by decide +kernel
theorem dX12_gauges_91 : decode cX12_gauges 91 = .ok (.invokestatic 24, 3) := by decide +kernel
theorem dX12_gauges_94 : decode cX12_gauges 94 = .ok (.ifCond .ne 5, 3) := by decide +kernel
theorem dX12_gauges_97 : decode cX12_gauges 97 = .ok (.iconst (-1), 1) := by decide +kernel
theorem dX12_gauges_98 : decode cX12_gauges 98 = .ok (.ireturn, 1) := by decide +kernel
theorem dX12_gauges_99 : decode cX12_gauges 99 = .ok (.iinc 1 1, 3) := by decide +kernel
theorem dX12_gauges_102 : decode cX12_gauges 102 = .ok (.goto (-65), 3) := by decide +kernel
theorem dX12_gauges_105 : decode cX12_gauges 105 = .ok (.iconst 0, 1) := by decide +kernel
theorem dX12_gauges_106 : decode cX12_gauges 106 = .ok (.istore_n 1, 1) := by decide +kernel
theorem dX12_gauges_107 : decode cX12_gauges 107 = .ok (.iconst (-1), 1) := by decide +kernel
theorem dX12_gauges_108 : decode cX12_gauges 108 = .ok (.istore_n 2, 1) := by decide +kernel
theorem dX12_gauges_109 : decode cX12_gauges 109 = .ok (.iconst 1, 1) := by decide +kernel
theorem dX12_gauges_110 : decode cX12_gauges 110 = .ok (.istore_n 3, 1) := by decide +kernel
theorem dX12_gauges_111 : decode cX12_gauges 111 = .ok (.iload_n 3, 1) := by decide +kernel
theorem dX12_gauges_112 : decode cX12_gauges 112 = .ok (.ifCond .eq 106, 3) := by decide +kernel
theorem dX12_gauges_115 : decode cX12_gauges 115 = .ok (.bipush 48, 2) := by decide +kernel
theorem dX12_gauges_117 : decode cX12_gauges 117 = .ok (.istore 4, 2) := by decide +kernel
theorem dX12_gauges_119 : decode cX12_gauges 119 = .ok (.iconst 0, 1) := by decide +kernel
theorem dX12_gauges_120 : decode cX12_gauges 120 = .ok (.istore 5, 2) := by decide +kernel
theorem dX12_gauges_122 : decode cX12_gauges 122 = .ok (.iload 5, 2) := by decide +kernel
theorem dX12_gauges_124 : decode cX12_gauges 124 = .ok (.aload_n 0, 1) := by decide +kernel
theorem dX12_gauges_125 : decode cX12_gauges 125 = .ok (.getfield 18, 3) := by decide +kernel
theorem dX12_gauges_128 : decode cX12_gauges 128 = .ok (.iconst 2, 1) := by decide +kernel
theorem dX12_gauges_129 : decode cX12_gauges 129 = .ok (.idiv, 1) := by decide +kernel
theorem dX12_gauges_130 : decode cX12_gauges 130 = .ok (.if_icmp .ge 51, 3) := by decide +kernel
theorem dX12_gauges_133 : decode cX12_gauges 133 = .ok (.aload_n 0, 1) := by decide +kernel
theorem dX12_gauges_134 : decode cX12_gauges 134 = .ok (.getfield 14, 3) := by decide +kernel
theorem dX12_gauges_137 : decode cX12_gauges 137 = .ok (.iconst 2, 1) := by decide +kernel
theorem dX12_gauges_138 : decode cX12_gauges 138 = .ok (.iload 5, 2) := by decide +kernel
theorem dX12_gauges_140 : decode cX12_gauges 140 = .ok (.imul, 1) := by decide +kernel
theorem dX12_gauges_141 : decode cX12_gauges 141 = .ok (.baload, 1) := by decide +kernel
theorem dX12_gauges_142 : decode cX12_gauges 142 = .ok (.iload_n 2, 1) := by decide +kernel
theorem dX12_gauges_143 : decode cX12_gauges 143 = .ok (.if_icmp .le 32, 3) := by decide +kernel
theorem dX12_gauges_146 : decode cX12_gauges 146 = .ok (.aload_n 0, 1) := by decide +kernel
theorem dX12_gauges_147 : decode cX12_gauges 147 = .ok (.getfield 14, 3) := by decide +kernel
theorem dX12_gauges_150 : decode cX12_gauges 150 = .ok (.iconst 2, 1) := by decide +kernel
theorem dX12_gauges_151 : decode cX12_gauges 151 = .ok (.iload 5, 2) := by decide +kernel
theorem dX12_gauges_153 : decode cX12_gauges 153 = .ok (.imul, 1) := by decide +kernel
theorem dX12_gauges_154 : decode cX12_gauges 154 = .ok (.iconst 1, 1) := by decide +kernel
theorem dX12_gauges_155 : decode cX12_gauges 155 = .ok (.iadd, 1) := by decide +kernel
theorem dX12_gauges_156 : decode cX12_gauges 156 = .ok (.baload, 1) := by decide +kernel
theorem dX12_gauges_157 : decode cX12_gauges 157 = .ok (.iload 4, 2) := by decide +kernel
theorem dX12_gauges_159 : decode cX12_gauges 159 = .ok (.if_icmp .ge 16, 3) := by decide +kernel
theorem dX12_gauges_162 : decode cX12_gauges 162 = .ok (.aload_n 0, 1) := by decide +kernel
theorem dX12_gauges_163 : decode cX12_gauges 163 = .ok (.getfield 14, 3) := by decide +kernel
theorem dX12_gauges_166 : decode cX12_gauges 166 = .ok (.iconst 2, 1) := by decide +kernel
theorem dX12_gauges_167 : decode cX12_gauges 167 = .ok (.iload 5, 2) := by decide +kernel
theorem dX12_gauges_169 : decode cX12_gauges 169 = .ok (.imul, 1) := by decide +kernel
theorem dX12_gauges_170 : decode cX12_gauges 170 = .ok (.iconst 1, 1) := by decide +kernel
theorem dX12_gauges_171 : decode cX12_gauges 171 = .ok (.iadd, 1) := by decide +kernel
theorem dX12_gauges_172 : decode cX12_gauges 172 = .ok (.baload, 1) := by decide +kernel
theorem dX12_gauges_173 : decode cX12_gauges 173 = .ok (.istore 4, 2) := by decide +kernel
theorem dX12_gauges_175 : decode cX12_gauges 175 = .ok (.iinc 5 1, 3) := by decide +kernel
theorem dX12_gauges_178 : decode cX12_gauges 178 = .ok (.goto (-56), 3) := by decide +kernel
theorem dX12_gauges_181 : decode cX12_gauges 181 = .ok (.iload 4, 2) := by decide +kernel
theorem dX12_gauges_183 : decode cX12_gauges 183 = .ok (.bipush 48, 2) := by decide +kernel
theorem dX12_gauges_185 : decode cX12_gauges 185 = .ok (.if_icmp .ge 7, 3) := by decide +kernel
theorem dX12_gauges_188 : decode cX12_gauges 188 = .ok (.iconst 1, 1) := by decide +kernel
theorem dX12_gauges_189 : decode cX12_gauges 189 = .ok (.goto 4, 3) := by decide +kernel
theorem dX12_gauges_192 : decode cX12_gauges 192 = .ok (.iconst 0, 1) := by decide +kernel
theorem dX12_gauges_193 : decode cX12_gauges 193 = .ok (.istore_n 3, 1) := by decide +kernel
theorem dX12_gauges_194 : decode cX12_gauges 194 = .ok (.iload_n 3, 1) := by decide +kernel
theorem dX12_gauges_195 : decode cX12_gauges 195 = .ok (.ifCond .ne 6, 3) := by decide +kernel
theorem dX12_gauges_198 : decode cX12_gauges 198 = .ok (.goto (-87), 3) := by decide +kernel
theorem dX12_gauges_201 : decode cX12_gauges 201 = .ok (.aload_n 0, 1) := by decide +kernel
theorem dX12_gauges_202 : decode cX12_gauges 202 = .ok (.getfield 158, 3) := by decide +kernel
theorem dX12_gauges_205 : decode cX12_gauges 205 = .ok (.iload_n 1, 1) := by decide +kernel
theorem dX12_gauges_206 : decode cX12_gauges 206 = .ok (.iload 4, 2) := by decide +kernel
theorem dX12_gauges_208 : decode cX12_gauges 208 = .ok (.iastore, 1) := by decide +kernel
theorem dX12_gauges_209 : decode cX12_gauges 209 = .ok (.iload 4, 2) := by decide +kernel
theorem dX12_gauges_211 : decode cX12_gauges 211 = .ok (.istore_n 2, 1) := by decide +kernel
theorem dX12_gauges_212 : decode cX12_gauges 212 = .ok (.iinc 1 1, 3) := by decide +kernel
theorem dX12_gauges_215 : decode cX12_gauges 215 = .ok (.goto (-104), 3) := by decide +kernel
theorem dX12_gauges_218 : decode cX12_gauges 218 = .ok (.aload_n 0, 1) := by decide +kernel
theorem dX12_gauges_219 : decode cX12_gauges 219 = .ok (.iload_n 1, 1) := by decide +kernel
theorem dX12_gauges_220 : decode cX12_gauges 220 = .ok (.putfield 403, 3) := by decide +kernel
theorem dX12_gauges_223 : decode cX12_gauges 223 = .ok (.iconst 0, 1) := by decide +kernel
theorem dX12_gauges_224 : decode cX12_gauges 224 = .ok (.istore 4, 2) := by decide +kernel
theorem dX12_gauges_226 : decode cX12_gauges 226 = .ok (.iload 4, 2) := by decide +kernel
theorem dX12_gauges_228 : decode cX12_gauges 228 = .ok (.iload_n 1, 1) := by decide +kernel
theorem dX12_gauges_229 : decode cX12_gauges 229 = .ok (.if_icmp .ge 23, 3) := by decide +kernel
theorem dX12_gauges_232 : decode cX12_gauges 232 = .ok (.aload_n 0, 1) := by decide +kernel
theorem dX12_gauges_233 : decode cX12_gauges 233 = .ok (.getfield 155, 3) := by decide +kernel
theorem dX12_gauges_236 : decode cX12_gauges 236 = .ok (.iload 4, 2) := by decide +kernel
theorem dX12_gauges_238 : decode cX12_gauges 238 = .ok (.aload_n 0, 1) := by decide +kernel
theorem dX12_gauges_239 : decode cX12_gauges 239 = .ok (.getfield 158, 3) := by decide +kernel
theorem dX12_gauges_242 : decode cX12_gauges 242 = .ok (.iload 4, 2) := by decide +kernel
theorem dX12_gauges_244 : decode cX12_gauges 244 = .ok (.iaload, 1) := by decide +kernel
theorem dX12_gauges_245 : decode cX12_gauges 245 = .ok (.iastore, 1) := by decide +kernel
theorem dX12_gauges_246 : decode cX12_gauges 246 = .ok (.iinc 4 1, 3) := by decide +kernel
theorem dX12_gauges_249 : decode cX12_gauges 249 = .ok (.goto (-23), 3) := by decide +kernel
theorem dX12_gauges_252 : decode cX12_gauges 252 = .ok (.iload_n 1, 1) := by decide +kernel
theorem dX12_gauges_253 : decode cX12_gauges 253 = .ok (.ireturn, 1) := by decide +kernel
def M_gauges_33 (K : Int32 → th_St → Prop) (u : th_St) : Prop :=
  K (-1 : Int32) u
set_option maxHeartbeats 4000000 in
set_option maxRecDepth 100000 in
theorem M_gauges_33_w {K : Int32 → th_St → Prop} (C : th_Cx p s m args meth c cX12_gauges RX12 6 (some .int) (dC, dI) (th_ty cs) th_E0 A) (u : th_St) (H : Heap) (locs : List Loc) (ls : Array Slot) (hf : M_gauges_33 K u) (hw : th_wI (dC, dI) (wM cs q) A s.heap u H locs) (hl : lv_has ls 6 []) : W p l e (th_rm 1 0 0) s m args below meth c H locs 0 0 (MQ below (va_Qi K (th_Post (dC, dI) (wM cs q) A) A) args s 0 0 A) (F0 m 33 ls []) := by
  have hx := C.1
  have hb := C.2.1
  unfold M_gauges_33 at hf
  refine lv_iconst (v := (-1 : Int32)) hx hb dX12_gauges_33 (by decide) ?_
  exact th_iret C hw hf dX12_gauges_34
def M_gauges_97 (K : Int32 → th_St → Prop) (u : th_St) : Prop :=
  K (-1 : Int32) u
set_option maxHeartbeats 4000000 in
set_option maxRecDepth 100000 in
theorem M_gauges_97_w {K : Int32 → th_St → Prop} (C : th_Cx p s m args meth c cX12_gauges RX12 6 (some .int) (dC, dI) (th_ty cs) th_E0 A) (u : th_St) (H : Heap) (locs : List Loc) (ls : Array Slot) (hf : M_gauges_97 K u) (hw : th_wI (dC, dI) (wM cs q) A s.heap u H locs) (hl : lv_has ls 6 []) : W p l e (th_rm 1 0 0) s m args below meth c H locs 0 0 (MQ below (va_Qi K (th_Post (dC, dI) (wM cs q) A) A) args s 0 0 A) (F0 m 97 ls []) := by
  have hx := C.1
  have hb := C.2.1
  unfold M_gauges_97 at hf
  refine lv_iconst (v := (-1 : Int32)) hx hb dX12_gauges_97 (by decide) ?_
  exact th_iret C hw hf dX12_gauges_98
def M_gauges_175 (K : Int32 → th_St → Prop) (k111 : Int32 → Int32 → Int32 → th_St → Prop) (k122 : Int32 → Int32 → Int32 → Int32 → th_St → Prop) (x1 : Int32) (x2 : Int32) (x4 : Int32) (x5 : Int32) (u : th_St) : Prop :=
  ∀ x5_1 : Int32, x5_1 = x5 + (1 : Int32) → k122 x1 x2 x4 x5_1 u
set_option maxHeartbeats 4000000 in
set_option maxRecDepth 100000 in
theorem M_gauges_175_w {K : Int32 → th_St → Prop} {k111 : Int32 → Int32 → Int32 → th_St → Prop} {k122 : Int32 → Int32 → Int32 → Int32 → th_St → Prop} (C : th_Cx p s m args meth c cX12_gauges RX12 6 (some .int) (dC, dI) (th_ty cs) th_E0 A) (hk111 : ∀ (x1 : Int32) (x2 : Int32) (x3 : Int32) (u : th_St) (H : Heap) (locs : List Loc) (ls : Array Slot), k111 x1 x2 x3 u → th_wI (dC, dI) (wM cs q) A s.heap u H locs → lv_has ls 6 [(0, .ref (q 0)), (1, .int x1), (2, .int x2), (3, .int x3)] → W p l e (th_rm 1 0 0) s m args below meth c H locs 0 0 (MQ below (va_Qi K (th_Post (dC, dI) (wM cs q) A) A) args s 0 0 A) (F0 m 111 ls [])) (hk122 : ∀ (x1 : Int32) (x2 : Int32) (x4 : Int32) (x5 : Int32) (u : th_St) (H : Heap) (locs : List Loc) (ls : Array Slot), k122 x1 x2 x4 x5 u → th_wI (dC, dI) (wM cs q) A s.heap u H locs → lv_has ls 6 [(0, .ref (q 0)), (1, .int x1), (2, .int x2), (4, .int x4), (5, .int x5)] → W p l e (th_rm 1 0 0) s m args below meth c H locs 0 0 (MQ below (va_Qi K (th_Post (dC, dI) (wM cs q) A) A) args s 0 0 A) (F0 m 122 ls [])) (x1 : Int32) (x2 : Int32) (x4 : Int32) (x5 : Int32) (u : th_St) (H : Heap) (locs : List Loc) (ls : Array Slot) (hf : M_gauges_175 K k111 k122 x1 x2 x4 x5 u) (hw : th_wI (dC, dI) (wM cs q) A s.heap u H locs) (hl : lv_has ls 6 [(0, .ref (q 0)), (1, .int x1), (2, .int x2), (4, .int x4), (5, .int x5)]) : W p l e (th_rm 1 0 0) s m args below meth c H locs 0 0 (MQ below (va_Qi K (th_Post (dC, dI) (wM cs q) A) A) args s 0 0 A) (F0 m 175 ls []) := by
  have hx := C.1
  have hb := C.2.1
  unfold M_gauges_175 at hf
  obtain ⟨x5_1, e9⟩ : ∃ y : Int32, y = x5 + (1 : Int32) := ⟨_, rfl⟩
  replace hf := hf x5_1 e9
  refine lv_iinc (v := x5_1) (lv' := [(5, .int x5_1), (0, .ref (q 0)), (1, .int x1), (2, .int x2), (4, .int x4)]) hx hb dX12_gauges_175 hl (k := 4) rfl (by rw [e9]; rfl) (by decide) rfl (fun ls hl => ?_)
  clear e9
  refine lv_goto (tgt := 122) hx hb dX12_gauges_178 (by decide) ?_
  exact hk122 x1 x2 x4 x5_1 u _ _ _ hf hw (lv_sub hl [1, 2, 3, 4, 0] rfl)
def M_gauges_193 (K : Int32 → th_St → Prop) (k111 : Int32 → Int32 → Int32 → th_St → Prop) (x1 : Int32) (x2 : Int32) (x4 : Int32) (z0 : Int32) (u : th_St) : Prop :=
  ((¬ z0 = 0 → (vp_in x1 40 ∧ ∀ u_1 : th_St, u_1 = th_sa u 65 (upd (u.2.2.1 65) (x1).toNatClampNeg x4) → ∀ x1_2 : Int32, x1_2 = x1 + (1 : Int32) → k111 x1_2 x4 z0 u_1)) ∧ (z0 = 0 → k111 x1 x2 z0 u))
set_option maxHeartbeats 4000000 in
set_option maxRecDepth 100000 in
theorem M_gauges_193_w {K : Int32 → th_St → Prop} {k111 : Int32 → Int32 → Int32 → th_St → Prop} (C : th_Cx p s m args meth c cX12_gauges RX12 6 (some .int) (dC, dI) (th_ty cs) th_E0 A) (hk111 : ∀ (x1 : Int32) (x2 : Int32) (x3 : Int32) (u : th_St) (H : Heap) (locs : List Loc) (ls : Array Slot), k111 x1 x2 x3 u → th_wI (dC, dI) (wM cs q) A s.heap u H locs → lv_has ls 6 [(0, .ref (q 0)), (1, .int x1), (2, .int x2), (3, .int x3)] → W p l e (th_rm 1 0 0) s m args below meth c H locs 0 0 (MQ below (va_Qi K (th_Post (dC, dI) (wM cs q) A) A) args s 0 0 A) (F0 m 111 ls [])) (x1 : Int32) (x2 : Int32) (x4 : Int32) (z0 : Int32) (u : th_St) (H : Heap) (locs : List Loc) (ls : Array Slot) (hf : M_gauges_193 K k111 x1 x2 x4 z0 u) (hw : th_wI (dC, dI) (wM cs q) A s.heap u H locs) (hl : lv_has ls 6 [(0, .ref (q 0)), (1, .int x1), (2, .int x2), (4, .int x4)]) : W p l e (th_rm 1 0 0) s m args below meth c H locs 0 0 (MQ below (va_Qi K (th_Post (dC, dI) (wM cs q) A) A) args s 0 0 A) (F0 m 193 ls [.int z0]) := by
  have hx := C.1
  have hb := C.2.1
  unfold M_gauges_193 at hf
  refine lv_istore_n (lv' := [(3, .int z0), (0, .ref (q 0)), (1, .int x1), (2, .int x2), (4, .int x4)]) hx hb dX12_gauges_193 rfl hl (by decide) rfl (fun ls hl => ?_)
  refine lv_iload_n hx hb dX12_gauges_194 rfl (lv_at hl 0 rfl) ?_
  refine lv_if_ne (tgt := 201) hx hb dX12_gauges_195 (by decide) (fun hc => ?_) (fun hc => ?_)
  · replace hf := hf.1 hc
    clear hc
    refine lv_aload_n hx hb dX12_gauges_201 rfl (lv_at hl 1 rfl) ?_
    refine mg_65 C hw dX12_gauges_202 ?_
    refine lv_iload_n hx hb dX12_gauges_205 rfl (lv_at hl 2 rfl) ?_
    refine lv_iload hx hb dX12_gauges_206 (lv_at hl 4 rfl) ?_
    refine ms_65 C hw hf.1 dX12_gauges_208 (fun u_1 e9 H locs hw => ?_)
    replace hf := hf.2 u_1 e9
    clear e9
    refine lv_iload hx hb dX12_gauges_209 (lv_at hl 4 rfl) ?_
    refine lv_istore_n (lv' := [(2, .int x4), (3, .int z0), (0, .ref (q 0)), (1, .int x1), (4, .int x4)]) hx hb dX12_gauges_211 rfl hl (by decide) rfl (fun ls hl => ?_)
    obtain ⟨x1_2, e9⟩ : ∃ y : Int32, y = x1 + (1 : Int32) := ⟨_, rfl⟩
    replace hf := hf x1_2 e9
    refine lv_iinc (v := x1_2) (lv' := [(1, .int x1_2), (2, .int x4), (3, .int z0), (0, .ref (q 0)), (4, .int x4)]) hx hb dX12_gauges_212 hl (k := 3) rfl (by rw [e9]; rfl) (by decide) rfl (fun ls hl => ?_)
    clear e9
    refine lv_goto (tgt := 111) hx hb dX12_gauges_215 (by decide) ?_
    exact hk111 x1_2 x4 z0 u_1 _ _ _ hf hw (lv_sub hl [3, 0, 1, 2] rfl)
  · replace hf := hf.2 hc
    clear hc
    refine lv_goto (tgt := 111) hx hb dX12_gauges_198 (by decide) ?_
    exact hk111 x1 x2 z0 u _ _ _ hf hw (lv_sub hl [1, 2, 3, 0] rfl)
def M_gauges_122 (K : Int32 → th_St → Prop) (k111 : Int32 → Int32 → Int32 → th_St → Prop) (k122 : Int32 → Int32 → Int32 → Int32 → th_St → Prop) (x1 : Int32) (x2 : Int32) (x4 : Int32) (x5 : Int32) (u : th_St) : Prop :=
  (¬ (2 : Int32) = 0 ∧ ((((u.1 3) / (2 : Int32)) ≤ x5 → (((48 : Int32) ≤ x4 → M_gauges_193 K k111 x1 x2 x4 (0 : Int32) u) ∧ (¬ (48 : Int32) ≤ x4 → M_gauges_193 K k111 x1 x2 x4 (1 : Int32) u))) ∧ (¬ ((u.1 3) / (2 : Int32)) ≤ x5 → (vp_in ((2 : Int32) * x5) 440 ∧ ∀ y_1 : Int32, y_1 = u.2.2.1 1 (((2 : Int32) * x5)).toNatClampNeg → ((y_1 ≤ x2 → M_gauges_175 K k111 k122 x1 x2 x4 x5 u) ∧ (¬ y_1 ≤ x2 → (vp_in (((2 : Int32) * x5) + (1 : Int32)) 440 ∧ ∀ y_2 : Int32, y_2 = u.2.2.1 1 ((((2 : Int32) * x5) + (1 : Int32))).toNatClampNeg → ((x4 ≤ y_2 → M_gauges_175 K k111 k122 x1 x2 x4 x5 u) ∧ (¬ x4 ≤ y_2 → (vp_in (((2 : Int32) * x5) + (1 : Int32)) 440 ∧ ∀ y_3 : Int32, y_3 = u.2.2.1 1 ((((2 : Int32) * x5) + (1 : Int32))).toNatClampNeg → M_gauges_175 K k111 k122 x1 x2 y_3 x5 u))))))))))
set_option maxHeartbeats 4000000 in
set_option maxRecDepth 100000 in
theorem M_gauges_122_w {K : Int32 → th_St → Prop} {k111 : Int32 → Int32 → Int32 → th_St → Prop} {k122 : Int32 → Int32 → Int32 → Int32 → th_St → Prop} (C : th_Cx p s m args meth c cX12_gauges RX12 6 (some .int) (dC, dI) (th_ty cs) th_E0 A) (hk111 : ∀ (x1 : Int32) (x2 : Int32) (x3 : Int32) (u : th_St) (H : Heap) (locs : List Loc) (ls : Array Slot), k111 x1 x2 x3 u → th_wI (dC, dI) (wM cs q) A s.heap u H locs → lv_has ls 6 [(0, .ref (q 0)), (1, .int x1), (2, .int x2), (3, .int x3)] → W p l e (th_rm 1 0 0) s m args below meth c H locs 0 0 (MQ below (va_Qi K (th_Post (dC, dI) (wM cs q) A) A) args s 0 0 A) (F0 m 111 ls [])) (hk122 : ∀ (x1 : Int32) (x2 : Int32) (x4 : Int32) (x5 : Int32) (u : th_St) (H : Heap) (locs : List Loc) (ls : Array Slot), k122 x1 x2 x4 x5 u → th_wI (dC, dI) (wM cs q) A s.heap u H locs → lv_has ls 6 [(0, .ref (q 0)), (1, .int x1), (2, .int x2), (4, .int x4), (5, .int x5)] → W p l e (th_rm 1 0 0) s m args below meth c H locs 0 0 (MQ below (va_Qi K (th_Post (dC, dI) (wM cs q) A) A) args s 0 0 A) (F0 m 122 ls [])) (x1 : Int32) (x2 : Int32) (x4 : Int32) (x5 : Int32) (u : th_St) (H : Heap) (locs : List Loc) (ls : Array Slot) (hf : M_gauges_122 K k111 k122 x1 x2 x4 x5 u) (hw : th_wI (dC, dI) (wM cs q) A s.heap u H locs) (hl : lv_has ls 6 [(0, .ref (q 0)), (1, .int x1), (2, .int x2), (4, .int x4), (5, .int x5)]) : W p l e (th_rm 1 0 0) s m args below meth c H locs 0 0 (MQ below (va_Qi K (th_Post (dC, dI) (wM cs q) A) A) args s 0 0 A) (F0 m 122 ls []) := by
  have hx := C.1
  have hb := C.2.1
  unfold M_gauges_122 at hf
  refine lv_iload hx hb dX12_gauges_122 (lv_at hl 4 rfl) ?_
  refine lv_aload_n hx hb dX12_gauges_124 rfl (lv_at hl 0 rfl) ?_
  refine mg_3 C hw dX12_gauges_125 ?_
  refine lv_iconst (v := (2 : Int32)) hx hb dX12_gauges_128 (by decide) ?_
  refine lv_idiv hx hb dX12_gauges_129 hf.1 ?_
  replace hf := hf.2
  refine lv_icmp_ge (tgt := 181) hx hb dX12_gauges_130 (by decide) (fun hc => ?_) (fun hc => ?_)
  · replace hf := hf.1 hc
    clear hc
    refine lv_iload hx hb dX12_gauges_181 (lv_at hl 3 rfl) ?_
    refine lv_bipush (v := (48 : Int32)) hx hb dX12_gauges_183 (by decide) ?_
    refine lv_icmp_ge (tgt := 192) hx hb dX12_gauges_185 (by decide) (fun hc => ?_) (fun hc => ?_)
    · replace hf := hf.1 hc
      clear hc
      refine lv_iconst (v := (0 : Int32)) hx hb dX12_gauges_192 (by decide) ?_
      exact M_gauges_193_w C hk111 x1 x2 x4 (0 : Int32) u _ _ _ hf hw (lv_sub hl [0, 1, 2, 3] rfl)
    · replace hf := hf.2 hc
      clear hc
      refine lv_iconst (v := (1 : Int32)) hx hb dX12_gauges_188 (by decide) ?_
      refine lv_goto (tgt := 193) hx hb dX12_gauges_189 (by decide) ?_
      exact M_gauges_193_w C hk111 x1 x2 x4 (1 : Int32) u _ _ _ hf hw (lv_sub hl [0, 1, 2, 3] rfl)
  · replace hf := hf.2 hc
    clear hc
    refine lv_aload_n hx hb dX12_gauges_133 rfl (lv_at hl 0 rfl) ?_
    refine mg_1 C hw dX12_gauges_134 ?_
    refine lv_iconst (v := (2 : Int32)) hx hb dX12_gauges_137 (by decide) ?_
    refine lv_iload hx hb dX12_gauges_138 (lv_at hl 4 rfl) ?_
    refine lv_imul hx hb dX12_gauges_140 ?_
    refine ml_1 C hw hf.1 dX12_gauges_141 (fun y_1 e9 => ?_)
    replace hf := hf.2 y_1 e9
    clear e9
    refine lv_iload_n hx hb dX12_gauges_142 rfl (lv_at hl 2 rfl) ?_
    refine lv_icmp_le (tgt := 175) hx hb dX12_gauges_143 (by decide) (fun hc => ?_) (fun hc => ?_)
    · replace hf := hf.1 hc
      clear hc
      exact M_gauges_175_w C hk111 hk122 x1 x2 x4 x5 u _ _ _ hf hw (lv_sub hl [0, 1, 2, 3, 4] rfl)
    · replace hf := hf.2 hc
      clear hc
      refine lv_aload_n hx hb dX12_gauges_146 rfl (lv_at hl 0 rfl) ?_
      refine mg_1 C hw dX12_gauges_147 ?_
      refine lv_iconst (v := (2 : Int32)) hx hb dX12_gauges_150 (by decide) ?_
      refine lv_iload hx hb dX12_gauges_151 (lv_at hl 4 rfl) ?_
      refine lv_imul hx hb dX12_gauges_153 ?_
      refine lv_iconst (v := (1 : Int32)) hx hb dX12_gauges_154 (by decide) ?_
      refine lv_iadd hx hb dX12_gauges_155 ?_
      refine ml_1 C hw hf.1 dX12_gauges_156 (fun y_2 e9 => ?_)
      replace hf := hf.2 y_2 e9
      clear e9
      refine lv_iload hx hb dX12_gauges_157 (lv_at hl 3 rfl) ?_
      refine lv_icmp_ge (tgt := 175) hx hb dX12_gauges_159 (by decide) (fun hc => ?_) (fun hc => ?_)
      · replace hf := hf.1 hc
        clear hc
        exact M_gauges_175_w C hk111 hk122 x1 x2 x4 x5 u _ _ _ hf hw (lv_sub hl [0, 1, 2, 3, 4] rfl)
      · replace hf := hf.2 hc
        clear hc
        refine lv_aload_n hx hb dX12_gauges_162 rfl (lv_at hl 0 rfl) ?_
        refine mg_1 C hw dX12_gauges_163 ?_
        refine lv_iconst (v := (2 : Int32)) hx hb dX12_gauges_166 (by decide) ?_
        refine lv_iload hx hb dX12_gauges_167 (lv_at hl 4 rfl) ?_
        refine lv_imul hx hb dX12_gauges_169 ?_
        refine lv_iconst (v := (1 : Int32)) hx hb dX12_gauges_170 (by decide) ?_
        refine lv_iadd hx hb dX12_gauges_171 ?_
        refine ml_1 C hw hf.1 dX12_gauges_172 (fun y_3 e9 => ?_)
        replace hf := hf.2 y_3 e9
        clear e9
        refine lv_istore (lv' := [(4, .int y_3), (0, .ref (q 0)), (1, .int x1), (2, .int x2), (5, .int x5)]) hx hb dX12_gauges_173 hl (by decide) rfl (fun ls hl => ?_)
        exact M_gauges_175_w C hk111 hk122 x1 x2 y_3 x5 u _ _ _ hf hw (lv_sub hl [1, 2, 3, 0, 4] rfl)
def M_gauges_122_lp (K : Int32 → th_St → Prop) (k111 : Int32 → Int32 → Int32 → th_St → Prop) : Nat → Int32 → Int32 → Int32 → Int32 → th_St → Prop
  | 0, _, _, _, _, _ => False
  | n + 1, x1, x2, x4, x5, u => M_gauges_122 K k111 (M_gauges_122_lp K k111 n) x1 x2 x4 x5 u
set_option maxHeartbeats 4000000 in
set_option maxRecDepth 100000 in
theorem M_gauges_122_lw {K : Int32 → th_St → Prop} {k111 : Int32 → Int32 → Int32 → th_St → Prop} (C : th_Cx p s m args meth c cX12_gauges RX12 6 (some .int) (dC, dI) (th_ty cs) th_E0 A) (hk111 : ∀ (x1 : Int32) (x2 : Int32) (x3 : Int32) (u : th_St) (H : Heap) (locs : List Loc) (ls : Array Slot), k111 x1 x2 x3 u → th_wI (dC, dI) (wM cs q) A s.heap u H locs → lv_has ls 6 [(0, .ref (q 0)), (1, .int x1), (2, .int x2), (3, .int x3)] → W p l e (th_rm 1 0 0) s m args below meth c H locs 0 0 (MQ below (va_Qi K (th_Post (dC, dI) (wM cs q) A) A) args s 0 0 A) (F0 m 111 ls [])) (n : Nat) : ∀ (x1 : Int32) (x2 : Int32) (x4 : Int32) (x5 : Int32) (u : th_St) (H : Heap) (locs : List Loc) (ls : Array Slot), M_gauges_122_lp K k111 n x1 x2 x4 x5 u → th_wI (dC, dI) (wM cs q) A s.heap u H locs → lv_has ls 6 [(0, .ref (q 0)), (1, .int x1), (2, .int x2), (4, .int x4), (5, .int x5)] → W p l e (th_rm 1 0 0) s m args below meth c H locs 0 0 (MQ below (va_Qi K (th_Post (dC, dI) (wM cs q) A) A) args s 0 0 A) (F0 m 122 ls []) := by
  induction n with
  | zero => intro x1 x2 x4 x5 u H locs ls hf; exact hf.elim
  | succ n ih =>
    intro x1 x2 x4 x5 u H locs ls hf hw hl
    exact M_gauges_122_w C hk111 ih x1 x2 x4 x5 u H locs ls hf hw hl
def M_gauges_226 (K : Int32 → th_St → Prop) (k226 : Int32 → Int32 → th_St → Prop) (x1 : Int32) (x4 : Int32) (u : th_St) : Prop :=
  ((x1 ≤ x4 → K x1 u) ∧ (¬ x1 ≤ x4 → (vp_in x4 40 ∧ ∀ y_1 : Int32, y_1 = u.2.2.1 65 (x4).toNatClampNeg → (vp_in x4 40 ∧ ∀ u_2 : th_St, u_2 = th_sa u 64 (upd (u.2.2.1 64) (x4).toNatClampNeg y_1) → ∀ x4_3 : Int32, x4_3 = x4 + (1 : Int32) → k226 x1 x4_3 u_2))))
set_option maxHeartbeats 4000000 in
set_option maxRecDepth 100000 in
theorem M_gauges_226_w {K : Int32 → th_St → Prop} {k226 : Int32 → Int32 → th_St → Prop} (C : th_Cx p s m args meth c cX12_gauges RX12 6 (some .int) (dC, dI) (th_ty cs) th_E0 A) (hk226 : ∀ (x1 : Int32) (x4 : Int32) (u : th_St) (H : Heap) (locs : List Loc) (ls : Array Slot), k226 x1 x4 u → th_wI (dC, dI) (wM cs q) A s.heap u H locs → lv_has ls 6 [(0, .ref (q 0)), (1, .int x1), (4, .int x4)] → W p l e (th_rm 1 0 0) s m args below meth c H locs 0 0 (MQ below (va_Qi K (th_Post (dC, dI) (wM cs q) A) A) args s 0 0 A) (F0 m 226 ls [])) (x1 : Int32) (x4 : Int32) (u : th_St) (H : Heap) (locs : List Loc) (ls : Array Slot) (hf : M_gauges_226 K k226 x1 x4 u) (hw : th_wI (dC, dI) (wM cs q) A s.heap u H locs) (hl : lv_has ls 6 [(0, .ref (q 0)), (1, .int x1), (4, .int x4)]) : W p l e (th_rm 1 0 0) s m args below meth c H locs 0 0 (MQ below (va_Qi K (th_Post (dC, dI) (wM cs q) A) A) args s 0 0 A) (F0 m 226 ls []) := by
  have hx := C.1
  have hb := C.2.1
  unfold M_gauges_226 at hf
  refine lv_iload hx hb dX12_gauges_226 (lv_at hl 2 rfl) ?_
  refine lv_iload_n hx hb dX12_gauges_228 rfl (lv_at hl 1 rfl) ?_
  refine lv_icmp_ge (tgt := 252) hx hb dX12_gauges_229 (by decide) (fun hc => ?_) (fun hc => ?_)
  · replace hf := hf.1 hc
    clear hc
    refine lv_iload_n hx hb dX12_gauges_252 rfl (lv_at hl 1 rfl) ?_
    exact th_iret C hw hf dX12_gauges_253
  · replace hf := hf.2 hc
    clear hc
    refine lv_aload_n hx hb dX12_gauges_232 rfl (lv_at hl 0 rfl) ?_
    refine mg_64 C hw dX12_gauges_233 ?_
    refine lv_iload hx hb dX12_gauges_236 (lv_at hl 2 rfl) ?_
    refine lv_aload_n hx hb dX12_gauges_238 rfl (lv_at hl 0 rfl) ?_
    refine mg_65 C hw dX12_gauges_239 ?_
    refine lv_iload hx hb dX12_gauges_242 (lv_at hl 2 rfl) ?_
    refine ml_65 C hw hf.1 dX12_gauges_244 (fun y_1 e9 => ?_)
    replace hf := hf.2 y_1 e9
    clear e9
    refine ms_64 C hw hf.1 dX12_gauges_245 (fun u_2 e9 H locs hw => ?_)
    replace hf := hf.2 u_2 e9
    clear e9
    obtain ⟨x4_3, e9⟩ : ∃ y : Int32, y = x4 + (1 : Int32) := ⟨_, rfl⟩
    replace hf := hf x4_3 e9
    refine lv_iinc (v := x4_3) (lv' := [(4, .int x4_3), (0, .ref (q 0)), (1, .int x1)]) hx hb dX12_gauges_246 hl (k := 2) rfl (by rw [e9]; rfl) (by decide) rfl (fun ls hl => ?_)
    clear e9
    refine lv_goto (tgt := 226) hx hb dX12_gauges_249 (by decide) ?_
    exact hk226 x1 x4_3 u_2 _ _ _ hf hw (lv_sub hl [1, 2, 0] rfl)
def M_gauges_226_lp (K : Int32 → th_St → Prop) : Nat → Int32 → Int32 → th_St → Prop
  | 0, _, _, _ => False
  | n + 1, x1, x4, u => M_gauges_226 K (M_gauges_226_lp K n) x1 x4 u
set_option maxHeartbeats 4000000 in
set_option maxRecDepth 100000 in
theorem M_gauges_226_lw {K : Int32 → th_St → Prop} (C : th_Cx p s m args meth c cX12_gauges RX12 6 (some .int) (dC, dI) (th_ty cs) th_E0 A) (n : Nat) : ∀ (x1 : Int32) (x4 : Int32) (u : th_St) (H : Heap) (locs : List Loc) (ls : Array Slot), M_gauges_226_lp K n x1 x4 u → th_wI (dC, dI) (wM cs q) A s.heap u H locs → lv_has ls 6 [(0, .ref (q 0)), (1, .int x1), (4, .int x4)] → W p l e (th_rm 1 0 0) s m args below meth c H locs 0 0 (MQ below (va_Qi K (th_Post (dC, dI) (wM cs q) A) A) args s 0 0 A) (F0 m 226 ls []) := by
  induction n with
  | zero => intro x1 x4 u H locs ls hf; exact hf.elim
  | succ n ih =>
    intro x1 x4 u H locs ls hf hw hl
    exact M_gauges_226_w C ih x1 x4 u H locs ls hf hw hl
def M_gauges_111 (K : Int32 → th_St → Prop) (k111 : Int32 → Int32 → Int32 → th_St → Prop) (x1 : Int32) (x2 : Int32) (x3 : Int32) (u : th_St) : Prop :=
  ((x3 = 0 → ∀ u_1 : th_St, u_1 = th_si u 66 x1 → ∃ n, M_gauges_226_lp K n x1 (0 : Int32) u_1) ∧ (¬ x3 = 0 → ∃ n, M_gauges_122_lp K k111 n x1 x2 (48 : Int32) (0 : Int32) u))
set_option maxHeartbeats 4000000 in
set_option maxRecDepth 100000 in
theorem M_gauges_111_w {K : Int32 → th_St → Prop} {k111 : Int32 → Int32 → Int32 → th_St → Prop} (C : th_Cx p s m args meth c cX12_gauges RX12 6 (some .int) (dC, dI) (th_ty cs) th_E0 A) (hk111 : ∀ (x1 : Int32) (x2 : Int32) (x3 : Int32) (u : th_St) (H : Heap) (locs : List Loc) (ls : Array Slot), k111 x1 x2 x3 u → th_wI (dC, dI) (wM cs q) A s.heap u H locs → lv_has ls 6 [(0, .ref (q 0)), (1, .int x1), (2, .int x2), (3, .int x3)] → W p l e (th_rm 1 0 0) s m args below meth c H locs 0 0 (MQ below (va_Qi K (th_Post (dC, dI) (wM cs q) A) A) args s 0 0 A) (F0 m 111 ls [])) (x1 : Int32) (x2 : Int32) (x3 : Int32) (u : th_St) (H : Heap) (locs : List Loc) (ls : Array Slot) (hf : M_gauges_111 K k111 x1 x2 x3 u) (hw : th_wI (dC, dI) (wM cs q) A s.heap u H locs) (hl : lv_has ls 6 [(0, .ref (q 0)), (1, .int x1), (2, .int x2), (3, .int x3)]) : W p l e (th_rm 1 0 0) s m args below meth c H locs 0 0 (MQ below (va_Qi K (th_Post (dC, dI) (wM cs q) A) A) args s 0 0 A) (F0 m 111 ls []) := by
  have hx := C.1
  have hb := C.2.1
  unfold M_gauges_111 at hf
  refine lv_iload_n hx hb dX12_gauges_111 rfl (lv_at hl 3 rfl) ?_
  refine lv_if_eq (tgt := 218) hx hb dX12_gauges_112 (by decide) (fun hc => ?_) (fun hc => ?_)
  · replace hf := hf.1 hc
    clear hc
    refine lv_aload_n hx hb dX12_gauges_218 rfl (lv_at hl 0 rfl) ?_
    refine lv_iload_n hx hb dX12_gauges_219 rfl (lv_at hl 1 rfl) ?_
    refine mp_66 C hw dX12_gauges_220 (fun u_1 e9 H locs hw => ?_)
    replace hf := hf u_1 e9
    clear e9
    refine lv_iconst (v := (0 : Int32)) hx hb dX12_gauges_223 (by decide) ?_
    refine lv_istore (lv' := [(4, .int (0 : Int32)), (0, .ref (q 0)), (1, .int x1), (2, .int x2), (3, .int x3)]) hx hb dX12_gauges_224 hl (by decide) rfl (fun ls hl => ?_)
    obtain ⟨n, hf⟩ := hf
    exact M_gauges_226_lw C n x1 (0 : Int32) u_1 _ _ _ hf hw (lv_sub hl [1, 2, 0] rfl)
  · replace hf := hf.2 hc
    clear hc
    refine lv_bipush (v := (48 : Int32)) hx hb dX12_gauges_115 (by decide) ?_
    refine lv_istore (lv' := [(4, .int (48 : Int32)), (0, .ref (q 0)), (1, .int x1), (2, .int x2), (3, .int x3)]) hx hb dX12_gauges_117 hl (by decide) rfl (fun ls hl => ?_)
    refine lv_iconst (v := (0 : Int32)) hx hb dX12_gauges_119 (by decide) ?_
    refine lv_istore (lv' := [(5, .int (0 : Int32)), (4, .int (48 : Int32)), (0, .ref (q 0)), (1, .int x1), (2, .int x2), (3, .int x3)]) hx hb dX12_gauges_120 hl (by decide) rfl (fun ls hl => ?_)
    obtain ⟨n, hf⟩ := hf
    exact M_gauges_122_lw C hk111 n x1 x2 (48 : Int32) (0 : Int32) u _ _ _ hf hw (lv_sub hl [2, 3, 4, 1, 0] rfl)
def M_gauges_111_lp (K : Int32 → th_St → Prop) : Nat → Int32 → Int32 → Int32 → th_St → Prop
  | 0, _, _, _, _ => False
  | n + 1, x1, x2, x3, u => M_gauges_111 K (M_gauges_111_lp K n) x1 x2 x3 u
set_option maxHeartbeats 4000000 in
set_option maxRecDepth 100000 in
theorem M_gauges_111_lw {K : Int32 → th_St → Prop} (C : th_Cx p s m args meth c cX12_gauges RX12 6 (some .int) (dC, dI) (th_ty cs) th_E0 A) (n : Nat) : ∀ (x1 : Int32) (x2 : Int32) (x3 : Int32) (u : th_St) (H : Heap) (locs : List Loc) (ls : Array Slot), M_gauges_111_lp K n x1 x2 x3 u → th_wI (dC, dI) (wM cs q) A s.heap u H locs → lv_has ls 6 [(0, .ref (q 0)), (1, .int x1), (2, .int x2), (3, .int x3)] → W p l e (th_rm 1 0 0) s m args below meth c H locs 0 0 (MQ below (va_Qi K (th_Post (dC, dI) (wM cs q) A) A) args s 0 0 A) (F0 m 111 ls []) := by
  induction n with
  | zero => intro x1 x2 x3 u H locs ls hf; exact hf.elim
  | succ n ih =>
    intro x1 x2 x3 u H locs ls hf hw hl
    exact M_gauges_111_w C ih x1 x2 x3 u H locs ls hf hw hl
def M_gauges_37 (K : Int32 → th_St → Prop) (k37 : Int32 → th_St → Prop) (x1 : Int32) (u : th_St) : Prop :=
  (¬ (2 : Int32) = 0 ∧ ((((u.1 3) / (2 : Int32)) ≤ x1 → ∃ n, M_gauges_111_lp K n (0 : Int32) (-1 : Int32) (1 : Int32) u) ∧ (¬ ((u.1 3) / (2 : Int32)) ≤ x1 → (vp_in (((2 : Int32) * x1) + (1 : Int32)) 440 ∧ ∀ y_1 : Int32, y_1 = u.2.2.1 1 ((((2 : Int32) * x1) + (1 : Int32))).toNatClampNeg → (vp_in (0 : Int32) 2 ∧ ∀ y_2 : Int32, y_2 = u.2.2.1 11 ((0 : Int32)).toNatClampNeg → M_isIn y_1 (0 : Int32) (y_2 - (1 : Int32)) u (fun r_4 u_3 => ((r_4 = 0 → M_gauges_97 K u_3) ∧ (¬ r_4 = 0 → (vp_in ((2 : Int32) * x1) 440 ∧ ∀ y_5 : Int32, y_5 = u_3.2.2.1 1 (((2 : Int32) * x1)).toNatClampNeg → (vp_in (((2 : Int32) * x1) + (1 : Int32)) 440 ∧ ∀ y_6 : Int32, y_6 = u_3.2.2.1 1 ((((2 : Int32) * x1) + (1 : Int32))).toNatClampNeg → M_isIn y_5 (0 : Int32) y_6 u_3 (fun r_8 u_7 => ((¬ r_8 = 0 → ∀ x1_9 : Int32, x1_9 = x1 + (1 : Int32) → k37 x1_9 u_7) ∧ (r_8 = 0 → M_gauges_97 K u_7)))))))))))))
set_option maxHeartbeats 4000000 in
set_option maxRecDepth 100000 in
theorem M_gauges_37_w {K : Int32 → th_St → Prop} {k37 : Int32 → th_St → Prop} (C : th_Cx p s m args meth c cX12_gauges RX12 6 (some .int) (dC, dI) (th_ty cs) th_E0 A) (hk37 : ∀ (x1 : Int32) (u : th_St) (H : Heap) (locs : List Loc) (ls : Array Slot), k37 x1 u → th_wI (dC, dI) (wM cs q) A s.heap u H locs → lv_has ls 6 [(0, .ref (q 0)), (1, .int x1)] → W p l e (th_rm 1 0 0) s m args below meth c H locs 0 0 (MQ below (va_Qi K (th_Post (dC, dI) (wM cs q) A) A) args s 0 0 A) (F0 m 37 ls [])) (x1 : Int32) (u : th_St) (H : Heap) (locs : List Loc) (ls : Array Slot) (hf : M_gauges_37 K k37 x1 u) (hw : th_wI (dC, dI) (wM cs q) A s.heap u H locs) (hl : lv_has ls 6 [(0, .ref (q 0)), (1, .int x1)]) : W p l e (th_rm 1 0 0) s m args below meth c H locs 0 0 (MQ below (va_Qi K (th_Post (dC, dI) (wM cs q) A) A) args s 0 0 A) (F0 m 37 ls []) := by
  have hx := C.1
  have hb := C.2.1
  unfold M_gauges_37 at hf
  refine lv_iload_n hx hb dX12_gauges_37 rfl (lv_at hl 1 rfl) ?_
  refine lv_aload_n hx hb dX12_gauges_38 rfl (lv_at hl 0 rfl) ?_
  refine mg_3 C hw dX12_gauges_39 ?_
  refine lv_iconst (v := (2 : Int32)) hx hb dX12_gauges_42 (by decide) ?_
  refine lv_idiv hx hb dX12_gauges_43 hf.1 ?_
  replace hf := hf.2
  refine lv_icmp_ge (tgt := 105) hx hb dX12_gauges_44 (by decide) (fun hc => ?_) (fun hc => ?_)
  · replace hf := hf.1 hc
    clear hc
    refine lv_iconst (v := (0 : Int32)) hx hb dX12_gauges_105 (by decide) ?_
    refine lv_istore_n (lv' := [(1, .int (0 : Int32)), (0, .ref (q 0))]) hx hb dX12_gauges_106 rfl hl (by decide) rfl (fun ls hl => ?_)
    refine lv_iconst (v := (-1 : Int32)) hx hb dX12_gauges_107 (by decide) ?_
    refine lv_istore_n (lv' := [(2, .int (-1 : Int32)), (1, .int (0 : Int32)), (0, .ref (q 0))]) hx hb dX12_gauges_108 rfl hl (by decide) rfl (fun ls hl => ?_)
    refine lv_iconst (v := (1 : Int32)) hx hb dX12_gauges_109 (by decide) ?_
    refine lv_istore_n (lv' := [(3, .int (1 : Int32)), (2, .int (-1 : Int32)), (1, .int (0 : Int32)), (0, .ref (q 0))]) hx hb dX12_gauges_110 rfl hl (by decide) rfl (fun ls hl => ?_)
    obtain ⟨n, hf⟩ := hf
    exact M_gauges_111_lw C n (0 : Int32) (-1 : Int32) (1 : Int32) u _ _ _ hf hw (lv_sub hl [3, 2, 1, 0] rfl)
  · replace hf := hf.2 hc
    clear hc
    refine lv_aload_n hx hb dX12_gauges_47 rfl (lv_at hl 0 rfl) ?_
    refine mg_1 C hw dX12_gauges_48 ?_
    refine lv_iconst (v := (2 : Int32)) hx hb dX12_gauges_51 (by decide) ?_
    refine lv_iload_n hx hb dX12_gauges_52 rfl (lv_at hl 1 rfl) ?_
    refine lv_imul hx hb dX12_gauges_53 ?_
    refine lv_iconst (v := (1 : Int32)) hx hb dX12_gauges_54 (by decide) ?_
    refine lv_iadd hx hb dX12_gauges_55 ?_
    refine ml_1 C hw hf.1 dX12_gauges_56 (fun y_1 e9 => ?_)
    replace hf := hf.2 y_1 e9
    clear e9
    refine lv_iconst (v := (0 : Int32)) hx hb dX12_gauges_57 (by decide) ?_
    refine lv_aload_n hx hb dX12_gauges_58 rfl (lv_at hl 0 rfl) ?_
    refine mg_11 C hw dX12_gauges_59 ?_
    refine lv_iconst (v := (0 : Int32)) hx hb dX12_gauges_62 (by decide) ?_
    refine ml_11 C hw hf.1 dX12_gauges_63 (fun y_2 e9 => ?_)
    replace hf := hf.2 y_2 e9
    clear e9
    refine lv_iconst (v := (1 : Int32)) hx hb dX12_gauges_64 (by decide) ?_
    refine lv_isub hx hb dX12_gauges_65 ?_
    refine th_callSi (As := [.int y_1, .int (0 : Int32), .int (y_2 - (1 : Int32))]) (rest := []) C lkX12_24 (M_isIn_c hf) hw rfl rfl ⟨Nat.le_of_ble_eq_true rfl, Nat.le_of_ble_eq_true rfl⟩ hl.1 (Nat.le_of_ble_eq_true rfl) ⟨Nat.le_refl _, Nat.le_refl _⟩ dX12_gauges_66 (fun r_4 u_3 H locs hf hw => ?_)
    refine lv_if_eq (tgt := 97) hx hb dX12_gauges_69 (by decide) (fun hc => ?_) (fun hc => ?_)
    · replace hf := hf.1 hc
      clear hc
      exact M_gauges_97_w C  u_3 _ _ _ hf hw (lv_sub hl [] rfl)
    · replace hf := hf.2 hc
      clear hc
      refine lv_aload_n hx hb dX12_gauges_72 rfl (lv_at hl 0 rfl) ?_
      refine mg_1 C hw dX12_gauges_73 ?_
      refine lv_iconst (v := (2 : Int32)) hx hb dX12_gauges_76 (by decide) ?_
      refine lv_iload_n hx hb dX12_gauges_77 rfl (lv_at hl 1 rfl) ?_
      refine lv_imul hx hb dX12_gauges_78 ?_
      refine ml_1 C hw hf.1 dX12_gauges_79 (fun y_5 e9 => ?_)
      replace hf := hf.2 y_5 e9
      clear e9
      refine lv_iconst (v := (0 : Int32)) hx hb dX12_gauges_80 (by decide) ?_
      refine lv_aload_n hx hb dX12_gauges_81 rfl (lv_at hl 0 rfl) ?_
      refine mg_1 C hw dX12_gauges_82 ?_
      refine lv_iconst (v := (2 : Int32)) hx hb dX12_gauges_85 (by decide) ?_
      refine lv_iload_n hx hb dX12_gauges_86 rfl (lv_at hl 1 rfl) ?_
      refine lv_imul hx hb dX12_gauges_87 ?_
      refine lv_iconst (v := (1 : Int32)) hx hb dX12_gauges_88 (by decide) ?_
      refine lv_iadd hx hb dX12_gauges_89 ?_
      refine ml_1 C hw hf.1 dX12_gauges_90 (fun y_6 e9 => ?_)
      replace hf := hf.2 y_6 e9
      clear e9
      refine th_callSi (As := [.int y_5, .int (0 : Int32), .int y_6]) (rest := []) C lkX12_24 (M_isIn_c hf) hw rfl rfl ⟨Nat.le_of_ble_eq_true rfl, Nat.le_of_ble_eq_true rfl⟩ hl.1 (Nat.le_of_ble_eq_true rfl) ⟨Nat.le_refl _, Nat.le_refl _⟩ dX12_gauges_91 (fun r_8 u_7 H locs hf hw => ?_)
      refine lv_if_ne (tgt := 99) hx hb dX12_gauges_94 (by decide) (fun hc => ?_) (fun hc => ?_)
      · replace hf := hf.1 hc
        clear hc
        obtain ⟨x1_9, e9⟩ : ∃ y : Int32, y = x1 + (1 : Int32) := ⟨_, rfl⟩
        replace hf := hf x1_9 e9
        refine lv_iinc (v := x1_9) (lv' := [(1, .int x1_9), (0, .ref (q 0))]) hx hb dX12_gauges_99 hl (k := 1) rfl (by rw [e9]; rfl) (by decide) rfl (fun ls hl => ?_)
        clear e9
        refine lv_goto (tgt := 37) hx hb dX12_gauges_102 (by decide) ?_
        exact hk37 x1_9 u_7 _ _ _ hf hw (lv_sub hl [1, 0] rfl)
      · replace hf := hf.2 hc
        clear hc
        exact M_gauges_97_w C  u_7 _ _ _ hf hw (lv_sub hl [] rfl)
def M_gauges_37_lp (K : Int32 → th_St → Prop) : Nat → Int32 → th_St → Prop
  | 0, _, _ => False
  | n + 1, x1, u => M_gauges_37 K (M_gauges_37_lp K n) x1 u
set_option maxHeartbeats 4000000 in
set_option maxRecDepth 100000 in
theorem M_gauges_37_lw {K : Int32 → th_St → Prop} (C : th_Cx p s m args meth c cX12_gauges RX12 6 (some .int) (dC, dI) (th_ty cs) th_E0 A) (n : Nat) : ∀ (x1 : Int32) (u : th_St) (H : Heap) (locs : List Loc) (ls : Array Slot), M_gauges_37_lp K n x1 u → th_wI (dC, dI) (wM cs q) A s.heap u H locs → lv_has ls 6 [(0, .ref (q 0)), (1, .int x1)] → W p l e (th_rm 1 0 0) s m args below meth c H locs 0 0 (MQ below (va_Qi K (th_Post (dC, dI) (wM cs q) A) A) args s 0 0 A) (F0 m 37 ls []) := by
  induction n with
  | zero => intro x1 u H locs ls hf; exact hf.elim
  | succ n ih =>
    intro x1 u H locs ls hf hw hl
    exact M_gauges_37_w C ih x1 u H locs ls hf hw hl
def M_gauges (u : th_St) (K : Int32 → th_St → Prop) : Prop :=
  ∀ u_1 : th_St, u_1 = th_si u 0 (0 : Int32) → M_taken u_1 (fun u_2 => (¬ (2 : Int32) = 0 ∧ ((¬ ((u_2.1 3) - (u_2.1 3) / (2 : Int32) * (2 : Int32)) = 0 → M_gauges_33 K u_2) ∧ (((u_2.1 3) - (u_2.1 3) / (2 : Int32) * (2 : Int32)) = 0 → (¬ (2 : Int32) = 0 ∧ M_isIn ((u_2.1 3) / (2 : Int32)) (1 : Int32) (40 : Int32) u_2 (fun r_5 u_4 => ((¬ r_5 = 0 → ∃ n, M_gauges_37_lp K n (0 : Int32) u_4) ∧ (r_5 = 0 → M_gauges_33 K u_4))))))))
set_option maxHeartbeats 4000000 in
set_option maxRecDepth 100000 in
theorem M_gauges_c {l : Launch} {dC : Nat → ClassId} {dI : Nat → Nat → Nat} {cs : Nat → ClassId} {q : Nat → Nat} {u : th_St} {K : Int32 → th_St → Prop} (hf : M_gauges u K) : th_Ci l yX12_gauges cX12_gauges 6 (some .int) 1 0 0 (dC, dI) (th_ty cs) th_E0 (wM cs q) [.ref (q 0)] u K := by
  refine th_ofi (by decide) (Nat.le_of_ble_eq_true rfl) th_E0_ok ?_
  intro p e s m below meth c A ls C hw hl
  have C : th_Cx p s m _ meth c cX12_gauges RX12 6 (some .int) (dC, dI) (th_ty cs) th_E0 A := C
  have hl : lv_has ls 6 [(0, .ref (q 0))] := hl
  generalize (List.toArray _ : Array Value) = args at C ⊢
  have hx := C.1
  have hb := C.2.1
  unfold M_gauges at hf
  refine lv_aload_n hx hb dX12_gauges_0 rfl (lv_at hl 0 rfl) ?_
  refine lv_iconst (v := (0 : Int32)) hx hb dX12_gauges_1 (by decide) ?_
  refine mp_0 C hw dX12_gauges_2 (fun u_1 e9 H locs hw => ?_)
  replace hf := hf u_1 e9
  clear e9
  refine lv_aload_n hx hb dX12_gauges_5 rfl (lv_at hl 0 rfl) ?_
  refine th_callVv (As := []) (rest := []) C lkX12_164 (M_taken_c hf) hw (mRc C hw) rfl rfl ⟨Nat.le_of_ble_eq_true rfl, Nat.le_of_ble_eq_true rfl⟩ hl.1 (Nat.le_of_ble_eq_true rfl) ⟨Nat.le_refl _, Nat.le_refl _⟩ dX12_gauges_6 (fun u_2 H locs hf hw => ?_)
  refine lv_aload_n hx hb dX12_gauges_9 rfl (lv_at hl 0 rfl) ?_
  refine mg_3 C hw dX12_gauges_10 ?_
  refine lv_iconst (v := (2 : Int32)) hx hb dX12_gauges_13 (by decide) ?_
  refine lv_irem hx hb dX12_gauges_14 hf.1 ?_
  replace hf := hf.2
  refine lv_if_ne (tgt := 33) hx hb dX12_gauges_15 (by decide) (fun hc => ?_) (fun hc => ?_)
  · replace hf := hf.1 hc
    clear hc
    exact M_gauges_33_w C  u_2 _ _ _ hf hw (lv_sub hl [] rfl)
  · replace hf := hf.2 hc
    clear hc
    refine lv_aload_n hx hb dX12_gauges_18 rfl (lv_at hl 0 rfl) ?_
    refine mg_3 C hw dX12_gauges_19 ?_
    refine lv_iconst (v := (2 : Int32)) hx hb dX12_gauges_22 (by decide) ?_
    refine lv_idiv hx hb dX12_gauges_23 hf.1 ?_
    replace hf := hf.2
    refine lv_iconst (v := (1 : Int32)) hx hb dX12_gauges_24 (by decide) ?_
    refine lv_bipush (v := (40 : Int32)) hx hb dX12_gauges_25 (by decide) ?_
    refine th_callSi (As := [.int ((u_2.1 3) / (2 : Int32)), .int (1 : Int32), .int (40 : Int32)]) (rest := []) C lkX12_24 (M_isIn_c hf) hw rfl rfl ⟨Nat.le_of_ble_eq_true rfl, Nat.le_of_ble_eq_true rfl⟩ hl.1 (Nat.le_of_ble_eq_true rfl) ⟨Nat.le_refl _, Nat.le_refl _⟩ dX12_gauges_27 (fun r_5 u_4 H locs hf hw => ?_)
    refine lv_if_ne (tgt := 35) hx hb dX12_gauges_30 (by decide) (fun hc => ?_) (fun hc => ?_)
    · replace hf := hf.1 hc
      clear hc
      refine lv_iconst (v := (0 : Int32)) hx hb dX12_gauges_35 (by decide) ?_
      refine lv_istore_n (lv' := [(1, .int (0 : Int32)), (0, .ref (q 0))]) hx hb dX12_gauges_36 rfl hl (by decide) rfl (fun ls hl => ?_)
      obtain ⟨n, hf⟩ := hf
      exact M_gauges_37_lw C n (0 : Int32) u_4 _ _ _ hf hw (lv_sub hl [1, 0] rfl)
    · replace hf := hf.2 hc
      clear hc
      exact M_gauges_33_w C  u_4 _ _ _ hf hw (lv_sub hl [] rfl)
/-! X12_gauge -/
theorem dX12_gauge_0 : decode cX12_gauge 0 = .ok (.aload_n 0, 1) := by decide +kernel
theorem dX12_gauge_1 : decode cX12_gauge 1 = .ok (.iconst 0, 1) := by decide +kernel
theorem dX12_gauge_2 : decode cX12_gauge 2 = .ok (.putfield 1, 3) := by decide +kernel
theorem dX12_gauge_5 : decode cX12_gauge 5 = .ok (.iload_n 1, 1) := by decide +kernel
theorem dX12_gauge_6 : decode cX12_gauge 6 = .ok (.iconst 0, 1) := by decide +kernel
theorem dX12_gauge_7 : decode cX12_gauge 7 = .ok (.aload_n 0, 1) := by decide +kernel
theorem dX12_gauge_8 : decode cX12_gauge 8 = .ok (.getfield 403, 3) := by decide +kernel
theorem dX12_gauge_11 : decode cX12_gauge 11 = .ok (.iconst 1, 1) := by decide +kernel
theorem dX12_gauge_12 : decode cX12_gauge 12 = .ok (.isub, 1) := by decide +kernel
theorem dX12_gauge_13 : decode cX12_gauge 13 = .ok (.invokestatic 24, 3) := by decide +kernel
theorem dX12_gauge_16 : decode cX12_gauge 16 = .ok (.ifCond .eq 12, 3) := by decide +kernel
theorem dX12_gauge_19 : decode cX12_gauge 19 = .ok (.aload_n 0, 1) := by decide +kernel
theorem dX12_gauge_20 : decode cX12_gauge 20 = .ok (.getfield 155, 3) := by decide +kernel
theorem dX12_gauge_23 : decode cX12_gauge 23 = .ok (.iload_n 1, 1) := by decide +kernel
theorem dX12_gauge_24 : decode cX12_gauge 24 = .ok (.iaload, 1) := by decide +kernel
theorem dX12_gauge_25 : decode cX12_gauge 25 = .ok (.goto 4, 3) := by decide +kernel
theorem dX12_gauge_28 : decode cX12_gauge 28 = .ok (.iconst (-1), 1) := by decide +kernel
theorem dX12_gauge_29 : decode cX12_gauge 29 = .ok (.ireturn, 1) := by decide +kernel
def M_gauge_29 (K : Int32 → th_St → Prop) (z0 : Int32) (u : th_St) : Prop :=
  K z0 u
set_option maxHeartbeats 4000000 in
set_option maxRecDepth 100000 in
theorem M_gauge_29_w {K : Int32 → th_St → Prop} (C : th_Cx p s m args meth c cX12_gauge RX12 2 (some .int) (dC, dI) (th_ty cs) th_E0 A) (z0 : Int32) (u : th_St) (H : Heap) (locs : List Loc) (ls : Array Slot) (hf : M_gauge_29 K z0 u) (hw : th_wI (dC, dI) (wM cs q) A s.heap u H locs) (hl : lv_has ls 2 []) : W p l e (th_rm 1 0 0) s m args below meth c H locs 0 0 (MQ below (va_Qi K (th_Post (dC, dI) (wM cs q) A) A) args s 0 0 A) (F0 m 29 ls [.int z0]) := by
  have hx := C.1
  have hb := C.2.1
  unfold M_gauge_29 at hf
  exact th_iret C hw hf dX12_gauge_29
def M_gauge (a1 : Int32) (u : th_St) (K : Int32 → th_St → Prop) : Prop :=
  ∀ u_1 : th_St, u_1 = th_si u 0 (0 : Int32) → M_isIn a1 (0 : Int32) ((u_1.1 66) - (1 : Int32)) u_1 (fun r_3 u_2 => ((r_3 = 0 → M_gauge_29 K (-1 : Int32) u_2) ∧ (¬ r_3 = 0 → (vp_in a1 40 ∧ ∀ y_4 : Int32, y_4 = u_2.2.2.1 64 (a1).toNatClampNeg → M_gauge_29 K y_4 u_2))))
set_option maxHeartbeats 4000000 in
set_option maxRecDepth 100000 in
theorem M_gauge_c {l : Launch} {dC : Nat → ClassId} {dI : Nat → Nat → Nat} {cs : Nat → ClassId} {q : Nat → Nat} {a1 : Int32} {u : th_St} {K : Int32 → th_St → Prop} (hf : M_gauge a1 u K) : th_Ci l yX12_gauge cX12_gauge 2 (some .int) 1 0 0 (dC, dI) (th_ty cs) th_E0 (wM cs q) [.ref (q 0), .int a1] u K := by
  refine th_ofi (by decide) (Nat.le_of_ble_eq_true rfl) th_E0_ok ?_
  intro p e s m below meth c A ls C hw hl
  have C : th_Cx p s m _ meth c cX12_gauge RX12 2 (some .int) (dC, dI) (th_ty cs) th_E0 A := C
  have hl : lv_has ls 2 [(0, .ref (q 0)), (1, .int a1)] := hl
  generalize (List.toArray _ : Array Value) = args at C ⊢
  have hx := C.1
  have hb := C.2.1
  unfold M_gauge at hf
  refine lv_aload_n hx hb dX12_gauge_0 rfl (lv_at hl 0 rfl) ?_
  refine lv_iconst (v := (0 : Int32)) hx hb dX12_gauge_1 (by decide) ?_
  refine mp_0 C hw dX12_gauge_2 (fun u_1 e9 H locs hw => ?_)
  replace hf := hf u_1 e9
  clear e9
  refine lv_iload_n hx hb dX12_gauge_5 rfl (lv_at hl 1 rfl) ?_
  refine lv_iconst (v := (0 : Int32)) hx hb dX12_gauge_6 (by decide) ?_
  refine lv_aload_n hx hb dX12_gauge_7 rfl (lv_at hl 0 rfl) ?_
  refine mg_66 C hw dX12_gauge_8 ?_
  refine lv_iconst (v := (1 : Int32)) hx hb dX12_gauge_11 (by decide) ?_
  refine lv_isub hx hb dX12_gauge_12 ?_
  refine th_callSi (As := [.int a1, .int (0 : Int32), .int ((u_1.1 66) - (1 : Int32))]) (rest := []) C lkX12_24 (M_isIn_c hf) hw rfl rfl ⟨Nat.le_of_ble_eq_true rfl, Nat.le_of_ble_eq_true rfl⟩ hl.1 (Nat.le_of_ble_eq_true rfl) ⟨Nat.le_refl _, Nat.le_refl _⟩ dX12_gauge_13 (fun r_3 u_2 H locs hf hw => ?_)
  refine lv_if_eq (tgt := 28) hx hb dX12_gauge_16 (by decide) (fun hc => ?_) (fun hc => ?_)
  · replace hf := hf.1 hc
    clear hc
    refine lv_iconst (v := (-1 : Int32)) hx hb dX12_gauge_28 (by decide) ?_
    exact M_gauge_29_w C (-1 : Int32) u_2 _ _ _ hf hw (lv_sub hl [] rfl)
  · replace hf := hf.2 hc
    clear hc
    refine lv_aload_n hx hb dX12_gauge_19 rfl (lv_at hl 0 rfl) ?_
    refine mg_64 C hw dX12_gauge_20 ?_
    refine lv_iload_n hx hb dX12_gauge_23 rfl (lv_at hl 1 rfl) ?_
    refine ml_64 C hw hf.1 dX12_gauge_24 (fun y_4 e9 => ?_)
    replace hf := hf.2 y_4 e9
    clear e9
    refine lv_goto (tgt := 29) hx hb dX12_gauge_25 (by decide) ?_
    exact M_gauge_29_w C y_4 u_2 _ _ _ hf hw (lv_sub hl [] rfl)
/-! X12_sign -/
theorem dX12_sign_0 : decode cX12_sign 0 = .ok (.aload_n 0, 1) := by decide +kernel
theorem dX12_sign_1 : decode cX12_sign 1 = .ok (.iload_n 1, 1) := by decide +kernel
theorem dX12_sign_2 : decode cX12_sign 2 = .ok (.invokevirtual 215, 3) := by decide +kernel
theorem dX12_sign_5 : decode cX12_sign 5 = .ok (.ifCond .ne 9, 3) := by decide +kernel
theorem dX12_sign_8 : decode cX12_sign 8 = .ok (.aload_n 0, 1) := by decide +kernel
theorem dX12_sign_9 : decode cX12_sign 9 = .ok (.iconst 1, 1) := by decide +kernel
theorem dX12_sign_10 : decode cX12_sign 10 = .ok (.invokevirtual 218, 3) := by decide +kernel
theorem dX12_sign_13 : decode cX12_sign 13 = .ok (.ireturn, 1) := by decide +kernel
theorem dX12_sign_14 : decode cX12_sign 14 = .ok (.aload_n 0, 1) := by decide +kernel
theorem dX12_sign_15 : decode cX12_sign 15 = .ok (.invokevirtual 179, 3) := by decide +kernel
theorem dX12_sign_18 : decode cX12_sign 18 = .ok (.iconst 1, 1) := by decide +kernel
theorem dX12_sign_19 : decode cX12_sign 19 = .ok (.ireturn, 1) := by decide +kernel
def M_sign (a1 : Int32) (u : th_St) (K : Int32 → th_St → Prop) : Prop :=
  M_isSign a1 u (fun r_2 u_1 => ((¬ r_2 = 0 → M_next_ u_1 (fun u_3 => (((1 : Int32) = 0 ∨ (1 : Int32) = 1) ∧ K (1 : Int32) u_3))) ∧ (r_2 = 0 → M_bad (1 : Int32) u_1 (fun r_6 u_5 => ((r_6 = 0 ∨ r_6 = 1) ∧ K r_6 u_5)))))
set_option maxHeartbeats 4000000 in
set_option maxRecDepth 100000 in
theorem M_sign_c {l : Launch} {dC : Nat → ClassId} {dI : Nat → Nat → Nat} {cs : Nat → ClassId} {q : Nat → Nat} {a1 : Int32} {u : th_St} {K : Int32 → th_St → Prop} (hf : M_sign a1 u K) : th_Ci l yX12_sign cX12_sign 2 (some .boolean) 2 0 0 (dC, dI) (th_ty cs) th_E0 (wM cs q) [.ref (q 0), .int a1] u K := by
  refine th_ofi (by decide) (Nat.le_of_ble_eq_true rfl) th_E0_ok ?_
  intro p e s m below meth c A ls C hw hl
  have C : th_Cx p s m _ meth c cX12_sign RX12 2 (some .boolean) (dC, dI) (th_ty cs) th_E0 A := C
  have hl : lv_has ls 2 [(0, .ref (q 0)), (1, .int a1)] := hl
  generalize (List.toArray _ : Array Value) = args at C ⊢
  have hx := C.1
  have hb := C.2.1
  unfold M_sign at hf
  refine lv_aload_n hx hb dX12_sign_0 rfl (lv_at hl 0 rfl) ?_
  refine lv_iload_n hx hb dX12_sign_1 rfl (lv_at hl 1 rfl) ?_
  refine th_callVi (As := [.int a1]) (rest := []) C lkX12_215 (M_isSign_c hf) hw (mRc C hw) rfl rfl ⟨Nat.le_of_ble_eq_true rfl, Nat.le_of_ble_eq_true rfl⟩ hl.1 (Nat.le_of_ble_eq_true rfl) ⟨Nat.le_refl _, Nat.le_refl _⟩ dX12_sign_2 (fun r_2 u_1 H locs hf hw => ?_)
  refine lv_if_ne (tgt := 14) hx hb dX12_sign_5 (by decide) (fun hc => ?_) (fun hc => ?_)
  · replace hf := hf.1 hc
    clear hc
    refine lv_aload_n hx hb dX12_sign_14 rfl (lv_at hl 0 rfl) ?_
    refine th_callVv (As := []) (rest := []) C lkX12_179 (M_next__c hf) hw (mRc C hw) rfl rfl ⟨Nat.le_of_ble_eq_true rfl, Nat.le_of_ble_eq_true rfl⟩ hl.1 (Nat.le_of_ble_eq_true rfl) ⟨Nat.le_refl _, Nat.le_refl _⟩ dX12_sign_15 (fun u_3 H locs hf hw => ?_)
    refine lv_iconst (v := (1 : Int32)) hx hb dX12_sign_18 (by decide) ?_
    exact th_zret C hw hf dX12_sign_19
  · replace hf := hf.2 hc
    clear hc
    refine lv_aload_n hx hb dX12_sign_8 rfl (lv_at hl 0 rfl) ?_
    refine lv_iconst (v := (1 : Int32)) hx hb dX12_sign_9 (by decide) ?_
    refine th_callVi (As := [.int (1 : Int32)]) (rest := []) C lkX12_218 (M_bad_c hf) hw (mRc C hw) rfl rfl ⟨Nat.le_of_ble_eq_true rfl, Nat.le_of_ble_eq_true rfl⟩ hl.1 (Nat.le_of_ble_eq_true rfl) ⟨Nat.le_refl _, Nat.le_refl _⟩ dX12_sign_10 (fun r_6 u_5 H locs hf hw => ?_)
    exact th_zret C hw hf dX12_sign_13
/-! X12_takes -/
theorem dX12_takes_0 : decode cX12_takes 0 = .ok (.aload_n 0, 1) := by decide +kernel
theorem dX12_takes_1 : decode cX12_takes 1 = .ok (.getfield 198, 3) := by decide +kernel
theorem dX12_takes_4 : decode cX12_takes 4 = .ok (.iconst 2, 1) := by decide +kernel
theorem dX12_takes_5 : decode cX12_takes 5 = .ok (.if_icmp .eq 9, 3) := by decide +kernel
theorem dX12_takes_8 : decode cX12_takes 8 = .ok (.aload_n 0, 1) := by decide +kernel
theorem dX12_takes_9 : decode cX12_takes 9 = .ok (.iconst 1, 1) := by decide +kernel
theorem dX12_takes_10 : decode cX12_takes 10 = .ok (.invokevirtual 218, 3) := by decide +kernel
theorem dX12_takes_13 : decode cX12_takes 13 = .ok (.ireturn, 1) := by decide +kernel
theorem dX12_takes_14 : decode cX12_takes 14 = .ok (.aload_n 0, 1) := by decide +kernel
theorem dX12_takes_15 : decode cX12_takes 15 = .ok (.getfield 208, 3) := by decide +kernel
theorem dX12_takes_18 : decode cX12_takes 18 = .ok (.iload_n 1, 1) := by decide +kernel
theorem dX12_takes_19 : decode cX12_takes 19 = .ok (.iload_n 2, 1) := by decide +kernel
theorem dX12_takes_20 : decode cX12_takes 20 = .ok (.invokestatic 24, 3) := by decide +kernel
theorem dX12_takes_23 : decode cX12_takes 23 = .ok (.ifCond .ne 9, 3) := by decide +kernel
theorem dX12_takes_26 : decode cX12_takes 26 = .ok (.aload_n 0, 1) := by decide +kernel
theorem dX12_takes_27 : decode cX12_takes 27 = .ok (.iconst 2, 1) := by decide +kernel
theorem dX12_takes_28 : decode cX12_takes 28 = .ok (.invokevirtual 218, 3) := by decide +kernel
theorem dX12_takes_31 : decode cX12_takes 31 = .ok (.ireturn, 1) := by decide +kernel
theorem dX12_takes_32 : decode cX12_takes 32 = .ok (.aload_n 0, 1) := by decide +kernel
theorem dX12_takes_33 : decode cX12_takes 33 = .ok (.aload_n 0, 1) := by decide +kernel
theorem dX12_takes_34 : decode cX12_takes 34 = .ok (.getfield 208, 3) := by decide +kernel
theorem dX12_takes_37 : decode cX12_takes 37 = .ok (.putfield 221, 3) := by decide +kernel
theorem dX12_takes_40 : decode cX12_takes 40 = .ok (.aload_n 0, 1) := by decide +kernel
theorem dX12_takes_41 : decode cX12_takes 41 = .ok (.invokevirtual 179, 3) := by decide +kernel
theorem dX12_takes_44 : decode cX12_takes 44 = .ok (.iconst 1, 1) := by decide +kernel
theorem dX12_takes_45 : decode cX12_takes 45 = .ok (.ireturn, 1) := by decide +kernel
def M_takes (a1 : Int32) (a2 : Int32) (u : th_St) (K : Int32 → th_St → Prop) : Prop :=
  (((u.1 24) = (2 : Int32) → M_isIn (u.1 27) a1 a2 u (fun r_2 u_1 => ((¬ r_2 = 0 → ∀ u_3 : th_St, u_3 = th_si u_1 33 (u_1.1 27) → M_next_ u_3 (fun u_4 => (((1 : Int32) = 0 ∨ (1 : Int32) = 1) ∧ K (1 : Int32) u_4))) ∧ (r_2 = 0 → M_bad (2 : Int32) u_1 (fun r_7 u_6 => ((r_7 = 0 ∨ r_7 = 1) ∧ K r_7 u_6)))))) ∧ (¬ (u.1 24) = (2 : Int32) → M_bad (1 : Int32) u (fun r_9 u_8 => ((r_9 = 0 ∨ r_9 = 1) ∧ K r_9 u_8))))
set_option maxHeartbeats 4000000 in
set_option maxRecDepth 100000 in
theorem M_takes_c {l : Launch} {dC : Nat → ClassId} {dI : Nat → Nat → Nat} {cs : Nat → ClassId} {q : Nat → Nat} {a1 : Int32} {a2 : Int32} {u : th_St} {K : Int32 → th_St → Prop} (hf : M_takes a1 a2 u K) : th_Ci l yX12_takes cX12_takes 3 (some .boolean) 2 0 0 (dC, dI) (th_ty cs) th_E0 (wM cs q) [.ref (q 0), .int a1, .int a2] u K := by
  refine th_ofi (by decide) (Nat.le_of_ble_eq_true rfl) th_E0_ok ?_
  intro p e s m below meth c A ls C hw hl
  have C : th_Cx p s m _ meth c cX12_takes RX12 3 (some .boolean) (dC, dI) (th_ty cs) th_E0 A := C
  have hl : lv_has ls 3 [(0, .ref (q 0)), (1, .int a1), (2, .int a2)] := hl
  generalize (List.toArray _ : Array Value) = args at C ⊢
  have hx := C.1
  have hb := C.2.1
  unfold M_takes at hf
  refine lv_aload_n hx hb dX12_takes_0 rfl (lv_at hl 0 rfl) ?_
  refine mg_24 C hw dX12_takes_1 ?_
  refine lv_iconst (v := (2 : Int32)) hx hb dX12_takes_4 (by decide) ?_
  refine lv_icmp_eq (tgt := 14) hx hb dX12_takes_5 (by decide) (fun hc => ?_) (fun hc => ?_)
  · replace hf := hf.1 hc
    clear hc
    refine lv_aload_n hx hb dX12_takes_14 rfl (lv_at hl 0 rfl) ?_
    refine mg_27 C hw dX12_takes_15 ?_
    refine lv_iload_n hx hb dX12_takes_18 rfl (lv_at hl 1 rfl) ?_
    refine lv_iload_n hx hb dX12_takes_19 rfl (lv_at hl 2 rfl) ?_
    refine th_callSi (As := [.int (u.1 27), .int a1, .int a2]) (rest := []) C lkX12_24 (M_isIn_c hf) hw rfl rfl ⟨Nat.le_of_ble_eq_true rfl, Nat.le_of_ble_eq_true rfl⟩ hl.1 (Nat.le_of_ble_eq_true rfl) ⟨Nat.le_refl _, Nat.le_refl _⟩ dX12_takes_20 (fun r_2 u_1 H locs hf hw => ?_)
    refine lv_if_ne (tgt := 32) hx hb dX12_takes_23 (by decide) (fun hc => ?_) (fun hc => ?_)
    · replace hf := hf.1 hc
      clear hc
      refine lv_aload_n hx hb dX12_takes_32 rfl (lv_at hl 0 rfl) ?_
      refine lv_aload_n hx hb dX12_takes_33 rfl (lv_at hl 0 rfl) ?_
      refine mg_27 C hw dX12_takes_34 ?_
      refine mp_33 C hw dX12_takes_37 (fun u_3 e9 H locs hw => ?_)
      replace hf := hf u_3 e9
      clear e9
      refine lv_aload_n hx hb dX12_takes_40 rfl (lv_at hl 0 rfl) ?_
      refine th_callVv (As := []) (rest := []) C lkX12_179 (M_next__c hf) hw (mRc C hw) rfl rfl ⟨Nat.le_of_ble_eq_true rfl, Nat.le_of_ble_eq_true rfl⟩ hl.1 (Nat.le_of_ble_eq_true rfl) ⟨Nat.le_refl _, Nat.le_refl _⟩ dX12_takes_41 (fun u_4 H locs hf hw => ?_)
      refine lv_iconst (v := (1 : Int32)) hx hb dX12_takes_44 (by decide) ?_
      exact th_zret C hw hf dX12_takes_45
    · replace hf := hf.2 hc
      clear hc
      refine lv_aload_n hx hb dX12_takes_26 rfl (lv_at hl 0 rfl) ?_
      refine lv_iconst (v := (2 : Int32)) hx hb dX12_takes_27 (by decide) ?_
      refine th_callVi (As := [.int (2 : Int32)]) (rest := []) C lkX12_218 (M_bad_c hf) hw (mRc C hw) rfl rfl ⟨Nat.le_of_ble_eq_true rfl, Nat.le_of_ble_eq_true rfl⟩ hl.1 (Nat.le_of_ble_eq_true rfl) ⟨Nat.le_refl _, Nat.le_refl _⟩ dX12_takes_28 (fun r_7 u_6 H locs hf hw => ?_)
      exact th_zret C hw hf dX12_takes_31
  · replace hf := hf.2 hc
    clear hc
    refine lv_aload_n hx hb dX12_takes_8 rfl (lv_at hl 0 rfl) ?_
    refine lv_iconst (v := (1 : Int32)) hx hb dX12_takes_9 (by decide) ?_
    refine th_callVi (As := [.int (1 : Int32)]) (rest := []) C lkX12_218 (M_bad_c hf) hw (mRc C hw) rfl rfl ⟨Nat.le_of_ble_eq_true rfl, Nat.le_of_ble_eq_true rfl⟩ hl.1 (Nat.le_of_ble_eq_true rfl) ⟨Nat.le_refl _, Nat.le_refl _⟩ dX12_takes_10 (fun r_9 u_8 H locs hf hw => ?_)
    exact th_zret C hw hf dX12_takes_13
/-! X12_takesWord -/
theorem dX12_takesWord_0 : decode cX12_takesWord 0 = .ok (.aload_n 0, 1) := by decide +kernel
theorem dX12_takesWord_1 : decode cX12_takesWord 1 = .ok (.lload_n 1, 1) := by decide +kernel
theorem dX12_takesWord_2 : decode cX12_takesWord 2 = .ok (.invokevirtual 224, 3) := by decide +kernel
theorem dX12_takesWord_5 : decode cX12_takesWord 5 = .ok (.ifCond .ne 9, 3) := by decide +kernel
theorem dX12_takesWord_8 : decode cX12_takesWord 8 = .ok (.aload_n 0, 1) := by decide +kernel
theorem dX12_takesWord_9 : decode cX12_takesWord 9 = .ok (.iconst 1, 1) := by decide +kernel
theorem dX12_takesWord_10 : decode cX12_takesWord 10 = .ok (.invokevirtual 218, 3) := by decide +kernel
theorem dX12_takesWord_13 : decode cX12_takesWord 13 = .ok (.ireturn, 1) := by decide +kernel
theorem dX12_takesWord_14 : decode cX12_takesWord 14 = .ok (.aload_n 0, 1) := by decide +kernel
theorem dX12_takesWord_15 : decode cX12_takesWord 15 = .ok (.invokevirtual 179, 3) := by decide +kernel
theorem dX12_takesWord_18 : decode cX12_takesWord 18 = .ok (.iconst 1, 1) := by decide +kernel
theorem dX12_takesWord_19 : decode cX12_takesWord 19 = .ok (.ireturn, 1) := by decide +kernel
def M_takesWord (a1 : Int64) (u : th_St) (K : Int32 → th_St → Prop) : Prop :=
  M_isWord a1 u (fun r_2 u_1 => ((¬ r_2 = 0 → M_next_ u_1 (fun u_3 => (((1 : Int32) = 0 ∨ (1 : Int32) = 1) ∧ K (1 : Int32) u_3))) ∧ (r_2 = 0 → M_bad (1 : Int32) u_1 (fun r_6 u_5 => ((r_6 = 0 ∨ r_6 = 1) ∧ K r_6 u_5)))))
set_option maxHeartbeats 4000000 in
set_option maxRecDepth 100000 in
theorem M_takesWord_c {l : Launch} {dC : Nat → ClassId} {dI : Nat → Nat → Nat} {cs : Nat → ClassId} {q : Nat → Nat} {a1 : Int64} {u : th_St} {K : Int32 → th_St → Prop} (hf : M_takesWord a1 u K) : th_Ci l yX12_takesWord cX12_takesWord 3 (some .boolean) 2 0 0 (dC, dI) (th_ty cs) th_E0 (wM cs q) [.ref (q 0), .long a1] u K := by
  refine th_ofi (by decide) (Nat.le_of_ble_eq_true rfl) th_E0_ok ?_
  intro p e s m below meth c A ls C hw hl
  have C : th_Cx p s m _ meth c cX12_takesWord RX12 3 (some .boolean) (dC, dI) (th_ty cs) th_E0 A := C
  have hl : lv_has ls 3 [(0, .ref (q 0)), (1, .long a1)] := hl
  generalize (List.toArray _ : Array Value) = args at C ⊢
  have hx := C.1
  have hb := C.2.1
  unfold M_takesWord at hf
  refine lv_aload_n hx hb dX12_takesWord_0 rfl (lv_at hl 0 rfl) ?_
  refine lv_lload_n hx hb dX12_takesWord_1 rfl (lv_at hl 1 rfl) ?_
  refine th_callVi (As := [.long a1]) (rest := []) C lkX12_224 (M_isWord_c hf) hw (mRc C hw) rfl rfl ⟨Nat.le_of_ble_eq_true rfl, Nat.le_of_ble_eq_true rfl⟩ hl.1 (Nat.le_of_ble_eq_true rfl) ⟨Nat.le_refl _, Nat.le_refl _⟩ dX12_takesWord_2 (fun r_2 u_1 H locs hf hw => ?_)
  refine lv_if_ne (tgt := 14) hx hb dX12_takesWord_5 (by decide) (fun hc => ?_) (fun hc => ?_)
  · replace hf := hf.1 hc
    clear hc
    refine lv_aload_n hx hb dX12_takesWord_14 rfl (lv_at hl 0 rfl) ?_
    refine th_callVv (As := []) (rest := []) C lkX12_179 (M_next__c hf) hw (mRc C hw) rfl rfl ⟨Nat.le_of_ble_eq_true rfl, Nat.le_of_ble_eq_true rfl⟩ hl.1 (Nat.le_of_ble_eq_true rfl) ⟨Nat.le_refl _, Nat.le_refl _⟩ dX12_takesWord_15 (fun u_3 H locs hf hw => ?_)
    refine lv_iconst (v := (1 : Int32)) hx hb dX12_takesWord_18 (by decide) ?_
    exact th_zret C hw hf dX12_takesWord_19
  · replace hf := hf.2 hc
    clear hc
    refine lv_aload_n hx hb dX12_takesWord_8 rfl (lv_at hl 0 rfl) ?_
    refine lv_iconst (v := (1 : Int32)) hx hb dX12_takesWord_9 (by decide) ?_
    refine th_callVi (As := [.int (1 : Int32)]) (rest := []) C lkX12_218 (M_bad_c hf) hw (mRc C hw) rfl rfl ⟨Nat.le_of_ble_eq_true rfl, Nat.le_of_ble_eq_true rfl⟩ hl.1 (Nat.le_of_ble_eq_true rfl) ⟨Nat.le_refl _, Nat.le_refl _⟩ dX12_takesWord_10 (fun r_6 u_5 H locs hf hw => ?_)
    exact th_zret C hw hf dX12_takesWord_13
end

section
variable {p : Program} {l : Launch} {e : Env} {s : State} {m : MethodId} {args : Array Value} {below : List Frame} {meth : Method} {c : Code} {dC : Nat → ClassId} {dI : Nat → Nat → Nat} {cs : Nat → ClassId} {q : Nat → Nat} {A : Nat → Prop}
/-! X12_hour -/
theorem dX12_hour_0 : decode cX12_hour 0 = .ok (.aload_n 0, 1) := by decide +kernel
theorem dX12_hour_1 : decode cX12_hour 1 = .ok (.iconst 0, 1) := by decide +kernel
theorem dX12_hour_2 : decode cX12_hour 2 = .ok (.putfield 1, 3) := by decide +kernel
theorem dX12_hour_5 : decode cX12_hour 5 = .ok (.aload_n 0, 1) := by decide +kernel
theorem dX12_hour_6 : decode cX12_hour 6 = .ok (.aload_n 0, 1) := by decide +kernel
theorem dX12_hour_7 : decode cX12_hour 7 = .ok (.getfield 167, 3) := by decide +kernel
theorem dX12_hour_10 : decode cX12_hour 10 = .ok (.bipush 40, 2) := by decide +kernel
theorem dX12_hour_12 : decode cX12_hour 12 = .ok (.if_icmp .ge 10, 3) := by decide +kernel
theorem dX12_hour_15 : decode cX12_hour 15 = .ok (.aload_n 0, 1) := by decide +kernel
theorem dX12_hour_16 : decode cX12_hour 16 = .ok (.getfield 167, 3) := by decide +kernel
theorem dX12_hour_19 : decode cX12_hour 19 = .ok (.goto 4, 3) := by decide +kernel
theorem dX12_hour_22 : decode cX12_hour 22 = .ok (.iconst (-1), 1) := by decide +kernel
theorem dX12_hour_23 : decode cX12_hour 23 = .ok (.invokevirtual 310, 3) := by decide +kernel
theorem dX12_hour_26 : decode cX12_hour 26 = .ok (.ifCond .eq 12, 3) := by decide +kernel
theorem dX12_hour_29 : decode cX12_hour 29 = .ok (.aload_n 0, 1) := by decide +kernel
theorem dX12_hour_30 : decode cX12_hour 30 = .ok (.getfield 167, 3) := by decide +kernel
theorem dX12_hour_33 : decode cX12_hour 33 = .ok (.bipush 40, 2) := by decide +kernel
theorem dX12_hour_35 : decode cX12_hour 35 = .ok (.if_icmp .ne 5, 3) := by decide +kernel
theorem dX12_hour_38 : decode cX12_hour 38 = .ok (.iconst (-1), 1) := by decide +kernel
theorem dX12_hour_39 : decode cX12_hour 39 = .ok (.ireturn, 1) := by decide +kernel
theorem dX12_hour_40 : decode cX12_hour 40 = .ok (.aload_n 0, 1) := by decide +kernel
theorem dX12_hour_41 : decode cX12_hour 41 = .ok (.getfield 90, 3) := by decide +kernel
theorem dX12_hour_44 : decode cX12_hour 44 = .ok (.aload_n 0, 1) := by decide +kernel
theorem dX12_hour_45 : decode cX12_hour 45 = .ok (.getfield 167, 3) := by decide +kernel
theorem dX12_hour_48 : decode cX12_hour 48 = .ok (.aload_n 0, 1) := by decide +kernel
theorem dX12_hour_49 : decode cX12_hour 49 = .ok (.getfield 167, 3) := by decide +kernel
theorem dX12_hour_52 : decode cX12_hour 52 = .ok (.iastore, 1) := by decide +kernel
theorem dX12_hour_53 : decode cX12_hour 53 = .ok (.aload_n 0, 1) := by decide +kernel
theorem dX12_hour_54 : decode cX12_hour 54 = .ok (.getfield 93, 3) := by decide +kernel
theorem dX12_hour_57 : decode cX12_hour 57 = .ok (.aload_n 0, 1) := by decide +kernel
theorem dX12_hour_58 : decode cX12_hour 58 = .ok (.getfield 167, 3) := by decide +kernel
theorem dX12_hour_61 : decode cX12_hour 61 = .ok (.aload_n 0, 1) := by decide +kernel
theorem dX12_hour_62 : decode cX12_hour 62 = .ok (.getfield 28, 3) := by decide +kernel
theorem dX12_hour_65 : decode cX12_hour 65 = .ok (.iastore, 1) := by decide +kernel
theorem dX12_hour_66 : decode cX12_hour 66 = .ok (.aload_n 0, 1) := by decide +kernel
theorem dX12_hour_67 : decode cX12_hour 67 = .ok (.dup, 1) := by decide +kernel
theorem dX12_hour_68 : decode cX12_hour 68 = .ok (.getfield 167, 3) := by decide +kernel
theorem dX12_hour_71 : decode cX12_hour 71 = .ok (.iconst 1, 1) := by decide +kernel
theorem dX12_hour_72 : decode cX12_hour 72 = .ok (.iadd, 1) := by decide +kernel
theorem dX12_hour_73 : decode cX12_hour 73 = .ok (.putfield 167, 3) := by decide +kernel
theorem dX12_hour_76 : decode cX12_hour 76 = .ok (.aload_n 0, 1) := by decide +kernel
theorem dX12_hour_77 : decode cX12_hour 77 = .ok (.iconst 0, 1) := by decide +kernel
theorem dX12_hour_78 : decode cX12_hour 78 = .ok (.putfield 313, 3) := by decide +kernel
theorem dX12_hour_81 : decode cX12_hour 81 = .ok (.aload_n 0, 1) := by decide +kernel
theorem dX12_hour_82 : decode cX12_hour 82 = .ok (.getfield 167, 3) := by decide +kernel
theorem dX12_hour_85 : decode cX12_hour 85 = .ok (.iconst 1, 1) := by decide +kernel
theorem dX12_hour_86 : decode cX12_hour 86 = .ok (.isub, 1) := by decide +kernel
theorem dX12_hour_87 : decode cX12_hour 87 = .ok (.ireturn, 1) := by decide +kernel
def M_hour_38 (K : Int32 → th_St → Prop) (u : th_St) : Prop :=
  K (-1 : Int32) u
set_option maxHeartbeats 4000000 in
set_option maxRecDepth 100000 in
theorem M_hour_38_w {K : Int32 → th_St → Prop} (C : th_Cx p s m args meth c cX12_hour RX12 1 (some .int) (dC, dI) (th_ty cs) th_E0 A) (u : th_St) (H : Heap) (locs : List Loc) (ls : Array Slot) (hf : M_hour_38 K u) (hw : th_wI (dC, dI) (wM cs q) A s.heap u H locs) (hl : lv_has ls 1 []) : W p l e (th_rm 2 0 0) s m args below meth c H locs 0 0 (MQ below (va_Qi K (th_Post (dC, dI) (wM cs q) A) A) args s 0 0 A) (F0 m 38 ls []) := by
  have hx := C.1
  have hb := C.2.1
  unfold M_hour_38 at hf
  refine lv_iconst (v := (-1 : Int32)) hx hb dX12_hour_38 (by decide) ?_
  exact th_iret C hw hf dX12_hour_39
def M_hour_23 (K : Int32 → th_St → Prop) (z0 : Int32) (u : th_St) : Prop :=
  M_takeRow z0 u (fun r_2 u_1 => ((r_2 = 0 → M_hour_38 K u_1) ∧ (¬ r_2 = 0 → ((¬ (u_1.1 30) = (40 : Int32) → (vp_in (u_1.1 30) 100 ∧ ∀ u_3 : th_St, u_3 = th_sa u_1 36 (upd (u_1.2.2.1 36) ((u_1.1 30)).toNatClampNeg (u_1.1 30)) → (vp_in (u_3.1 30) 100 ∧ ∀ u_4 : th_St, u_4 = th_sa u_3 37 (upd (u_3.2.2.1 37) ((u_3.1 30)).toNatClampNeg (u_3.1 5)) → ∀ u_5 : th_St, u_5 = th_si u_4 30 ((u_4.1 30) + (1 : Int32)) → (((0 : Int32) = 0 ∨ (0 : Int32) = 1) ∧ ∀ u_6 : th_St, u_6 = th_si u_5 40 (0 : Int32) → K ((u_6.1 30) - (1 : Int32)) u_6)))) ∧ ((u_1.1 30) = (40 : Int32) → M_hour_38 K u_1)))))
set_option maxHeartbeats 4000000 in
set_option maxRecDepth 100000 in
theorem M_hour_23_w {K : Int32 → th_St → Prop} (C : th_Cx p s m args meth c cX12_hour RX12 1 (some .int) (dC, dI) (th_ty cs) th_E0 A) (z0 : Int32) (u : th_St) (H : Heap) (locs : List Loc) (ls : Array Slot) (hf : M_hour_23 K z0 u) (hw : th_wI (dC, dI) (wM cs q) A s.heap u H locs) (hl : lv_has ls 1 [(0, .ref (q 0))]) : W p l e (th_rm 2 0 0) s m args below meth c H locs 0 0 (MQ below (va_Qi K (th_Post (dC, dI) (wM cs q) A) A) args s 0 0 A) (F0 m 23 ls [.int z0, .ref (q 0)]) := by
  have hx := C.1
  have hb := C.2.1
  unfold M_hour_23 at hf
  refine th_callVi (As := [.int z0]) (rest := []) C lkX12_310 (M_takeRow_c hf) hw (mRc C hw) rfl rfl ⟨Nat.le_of_ble_eq_true rfl, Nat.le_of_ble_eq_true rfl⟩ hl.1 (Nat.le_of_ble_eq_true rfl) ⟨Nat.le_refl _, Nat.le_refl _⟩ dX12_hour_23 (fun r_2 u_1 H locs hf hw => ?_)
  refine lv_if_eq (tgt := 38) hx hb dX12_hour_26 (by decide) (fun hc => ?_) (fun hc => ?_)
  · replace hf := hf.1 hc
    clear hc
    exact M_hour_38_w C  u_1 _ _ _ hf hw (lv_sub hl [] rfl)
  · replace hf := hf.2 hc
    clear hc
    refine lv_aload_n hx hb dX12_hour_29 rfl (lv_at hl 0 rfl) ?_
    refine mg_30 C hw dX12_hour_30 ?_
    refine lv_bipush (v := (40 : Int32)) hx hb dX12_hour_33 (by decide) ?_
    refine lv_icmp_ne (tgt := 40) hx hb dX12_hour_35 (by decide) (fun hc => ?_) (fun hc => ?_)
    · replace hf := hf.1 hc
      clear hc
      refine lv_aload_n hx hb dX12_hour_40 rfl (lv_at hl 0 rfl) ?_
      refine mg_36 C hw dX12_hour_41 ?_
      refine lv_aload_n hx hb dX12_hour_44 rfl (lv_at hl 0 rfl) ?_
      refine mg_30 C hw dX12_hour_45 ?_
      refine lv_aload_n hx hb dX12_hour_48 rfl (lv_at hl 0 rfl) ?_
      refine mg_30 C hw dX12_hour_49 ?_
      refine ms_36 C hw hf.1 dX12_hour_52 (fun u_3 e9 H locs hw => ?_)
      replace hf := hf.2 u_3 e9
      clear e9
      refine lv_aload_n hx hb dX12_hour_53 rfl (lv_at hl 0 rfl) ?_
      refine mg_37 C hw dX12_hour_54 ?_
      refine lv_aload_n hx hb dX12_hour_57 rfl (lv_at hl 0 rfl) ?_
      refine mg_30 C hw dX12_hour_58 ?_
      refine lv_aload_n hx hb dX12_hour_61 rfl (lv_at hl 0 rfl) ?_
      refine mg_5 C hw dX12_hour_62 ?_
      refine ms_37 C hw hf.1 dX12_hour_65 (fun u_4 e9 H locs hw => ?_)
      replace hf := hf.2 u_4 e9
      clear e9
      refine lv_aload_n hx hb dX12_hour_66 rfl (lv_at hl 0 rfl) ?_
      refine lv_dup hx hb dX12_hour_67 rfl ?_
      refine mg_30 C hw dX12_hour_68 ?_
      refine lv_iconst (v := (1 : Int32)) hx hb dX12_hour_71 (by decide) ?_
      refine lv_iadd hx hb dX12_hour_72 ?_
      refine mp_30 C hw dX12_hour_73 (fun u_5 e9 H locs hw => ?_)
      replace hf := hf u_5 e9
      clear e9
      refine lv_aload_n hx hb dX12_hour_76 rfl (lv_at hl 0 rfl) ?_
      refine lv_iconst (v := (0 : Int32)) hx hb dX12_hour_77 (by decide) ?_
      refine mp_40 C hw hf.1 dX12_hour_78 (fun u_6 e9 H locs hw => ?_)
      replace hf := hf.2 u_6 e9
      clear e9
      refine lv_aload_n hx hb dX12_hour_81 rfl (lv_at hl 0 rfl) ?_
      refine mg_30 C hw dX12_hour_82 ?_
      refine lv_iconst (v := (1 : Int32)) hx hb dX12_hour_85 (by decide) ?_
      refine lv_isub hx hb dX12_hour_86 ?_
      exact th_iret C hw hf dX12_hour_87
    · replace hf := hf.2 hc
      clear hc
      exact M_hour_38_w C  u_1 _ _ _ hf hw (lv_sub hl [] rfl)
def M_hour (u : th_St) (K : Int32 → th_St → Prop) : Prop :=
  ∀ u_1 : th_St, u_1 = th_si u 0 (0 : Int32) → (((40 : Int32) ≤ (u_1.1 30) → M_hour_23 K (-1 : Int32) u_1) ∧ (¬ (40 : Int32) ≤ (u_1.1 30) → M_hour_23 K (u_1.1 30) u_1))
set_option maxHeartbeats 4000000 in
set_option maxRecDepth 100000 in
theorem M_hour_c {l : Launch} {dC : Nat → ClassId} {dI : Nat → Nat → Nat} {cs : Nat → ClassId} {q : Nat → Nat} {u : th_St} {K : Int32 → th_St → Prop} (hf : M_hour u K) : th_Ci l yX12_hour cX12_hour 1 (some .int) 2 0 0 (dC, dI) (th_ty cs) th_E0 (wM cs q) [.ref (q 0)] u K := by
  refine th_ofi (by decide) (Nat.le_of_ble_eq_true rfl) th_E0_ok ?_
  intro p e s m below meth c A ls C hw hl
  have C : th_Cx p s m _ meth c cX12_hour RX12 1 (some .int) (dC, dI) (th_ty cs) th_E0 A := C
  have hl : lv_has ls 1 [(0, .ref (q 0))] := hl
  generalize (List.toArray _ : Array Value) = args at C ⊢
  have hx := C.1
  have hb := C.2.1
  unfold M_hour at hf
  refine lv_aload_n hx hb dX12_hour_0 rfl (lv_at hl 0 rfl) ?_
  refine lv_iconst (v := (0 : Int32)) hx hb dX12_hour_1 (by decide) ?_
  refine mp_0 C hw dX12_hour_2 (fun u_1 e9 H locs hw => ?_)
  replace hf := hf u_1 e9
  clear e9
  refine lv_aload_n hx hb dX12_hour_5 rfl (lv_at hl 0 rfl) ?_
  refine lv_aload_n hx hb dX12_hour_6 rfl (lv_at hl 0 rfl) ?_
  refine mg_30 C hw dX12_hour_7 ?_
  refine lv_bipush (v := (40 : Int32)) hx hb dX12_hour_10 (by decide) ?_
  refine lv_icmp_ge (tgt := 22) hx hb dX12_hour_12 (by decide) (fun hc => ?_) (fun hc => ?_)
  · replace hf := hf.1 hc
    clear hc
    refine lv_iconst (v := (-1 : Int32)) hx hb dX12_hour_22 (by decide) ?_
    exact M_hour_23_w C (-1 : Int32) u_1 _ _ _ hf hw (lv_sub hl [0] rfl)
  · replace hf := hf.2 hc
    clear hc
    refine lv_aload_n hx hb dX12_hour_15 rfl (lv_at hl 0 rfl) ?_
    refine mg_30 C hw dX12_hour_16 ?_
    refine lv_goto (tgt := 23) hx hb dX12_hour_19 (by decide) ?_
    exact M_hour_23_w C (u_1.1 30) u_1 _ _ _ hf hw (lv_sub hl [0] rfl)
/-! X12_mend -/
theorem dX12_mend_0 : decode cX12_mend 0 = .ok (.aload_n 0, 1) := by decide +kernel
theorem dX12_mend_1 : decode cX12_mend 1 = .ok (.iconst 0, 1) := by decide +kernel
theorem dX12_mend_2 : decode cX12_mend 2 = .ok (.putfield 1, 3) := by decide +kernel
theorem dX12_mend_5 : decode cX12_mend 5 = .ok (.iload_n 1, 1) := by decide +kernel
theorem dX12_mend_6 : decode cX12_mend 6 = .ok (.iconst 0, 1) := by decide +kernel
theorem dX12_mend_7 : decode cX12_mend 7 = .ok (.aload_n 0, 1) := by decide +kernel
theorem dX12_mend_8 : decode cX12_mend 8 = .ok (.getfield 167, 3) := by decide +kernel
theorem dX12_mend_11 : decode cX12_mend 11 = .ok (.iconst 1, 1) := by decide +kernel
theorem dX12_mend_12 : decode cX12_mend 12 = .ok (.isub, 1) := by decide +kernel
theorem dX12_mend_13 : decode cX12_mend 13 = .ok (.invokestatic 24, 3) := by decide +kernel
theorem dX12_mend_16 : decode cX12_mend 16 = .ok (.ifCond .eq 16, 3) := by decide +kernel
theorem dX12_mend_19 : decode cX12_mend 19 = .ok (.aload_n 0, 1) := by decide +kernel
theorem dX12_mend_20 : decode cX12_mend 20 = .ok (.getfield 317, 3) := by decide +kernel
theorem dX12_mend_23 : decode cX12_mend 23 = .ok (.bipush 60, 2) := by decide +kernel
theorem dX12_mend_25 : decode cX12_mend 25 = .ok (.if_icmp .ge 7, 3) := by decide +kernel
theorem dX12_mend_28 : decode cX12_mend 28 = .ok (.iconst 1, 1) := by decide +kernel
theorem dX12_mend_29 : decode cX12_mend 29 = .ok (.goto 4, 3) := by decide +kernel
theorem dX12_mend_32 : decode cX12_mend 32 = .ok (.iconst 0, 1) := by decide +kernel
theorem dX12_mend_33 : decode cX12_mend 33 = .ok (.istore_n 2, 1) := by decide +kernel
theorem dX12_mend_34 : decode cX12_mend 34 = .ok (.aload_n 0, 1) := by decide +kernel
theorem dX12_mend_35 : decode cX12_mend 35 = .ok (.iload_n 2, 1) := by decide +kernel
theorem dX12_mend_36 : decode cX12_mend 36 = .ok (.ifCond .eq 13, 3) := by decide +kernel
theorem dX12_mend_39 : decode cX12_mend 39 = .ok (.bipush 40, 2) := by decide +kernel
theorem dX12_mend_41 : decode cX12_mend 41 = .ok (.aload_n 0, 1) := by decide +kernel
theorem dX12_mend_42 : decode cX12_mend 42 = .ok (.getfield 317, 3) := by decide +kernel
theorem dX12_mend_45 : decode cX12_mend 45 = .ok (.iadd, 1) := by decide +kernel
theorem dX12_mend_46 : decode cX12_mend 46 = .ok (.goto 4, 3) := by decide +kernel
theorem dX12_mend_49 : decode cX12_mend 49 = .ok (.iconst (-1), 1) := by decide +kernel
theorem dX12_mend_50 : decode cX12_mend 50 = .ok (.invokevirtual 310, 3) := by decide +kernel
theorem dX12_mend_53 : decode cX12_mend 53 = .ok (.ifCond .eq 7, 3) := by decide +kernel
theorem dX12_mend_56 : decode cX12_mend 56 = .ok (.iload_n 2, 1) := by decide +kernel
theorem dX12_mend_57 : decode cX12_mend 57 = .ok (.ifCond .ne 5, 3) := by decide +kernel
theorem dX12_mend_60 : decode cX12_mend 60 = .ok (.iconst 0, 1) := by decide +kernel
theorem dX12_mend_61 : decode cX12_mend 61 = .ok (.ireturn, 1) := by decide +kernel
theorem dX12_mend_62 : decode cX12_mend 62 = .ok (.aload_n 0, 1) := by decide +kernel
theorem dX12_mend_63 : decode cX12_mend 63 = .ok (.getfield 90, 3) := by decide +kernel
theorem dX12_mend_66 : decode cX12_mend 66 = .ok (.bipush 40, 2) := by decide +kernel
theorem dX12_mend_68 : decode cX12_mend 68 = .ok (.aload_n 0, 1) := by decide +kernel
theorem dX12_mend_69 : decode cX12_mend 69 = .ok (.getfield 317, 3) := by decide +kernel
theorem dX12_mend_72 : decode cX12_mend 72 = .ok (.iadd, 1) := by decide +kernel
theorem dX12_mend_73 : decode cX12_mend 73 = .ok (.iload_n 1, 1) := by decide +kernel
theorem dX12_mend_74 : decode cX12_mend 74 = .ok (.iastore, 1) := by decide +kernel
theorem dX12_mend_75 : decode cX12_mend 75 = .ok (.aload_n 0, 1) := by decide +kernel
theorem dX12_mend_76 : decode cX12_mend 76 = .ok (.getfield 93, 3) := by decide +kernel
theorem dX12_mend_79 : decode cX12_mend 79 = .ok (.bipush 40, 2) := by decide +kernel
theorem dX12_mend_81 : decode cX12_mend 81 = .ok (.aload_n 0, 1) := by decide +kernel
theorem dX12_mend_82 : decode cX12_mend 82 = .ok (.getfield 317, 3) := by decide +kernel
theorem dX12_mend_85 : decode cX12_mend 85 = .ok (.iadd, 1) := by decide +kernel
theorem dX12_mend_86 : decode cX12_mend 86 = .ok (.aload_n 0, 1) := by decide +kernel
theorem dX12_mend_87 : decode cX12_mend 87 = .ok (.getfield 28, 3) := by decide +kernel
theorem dX12_mend_90 : decode cX12_mend 90 = .ok (.iastore, 1) := by decide +kernel
theorem dX12_mend_91 : decode cX12_mend 91 = .ok (.aload_n 0, 1) := by decide +kernel
theorem dX12_mend_92 : decode cX12_mend 92 = .ok (.dup, 1) := by decide +kernel
theorem dX12_mend_93 : decode cX12_mend 93 = .ok (.getfield 317, 3) := by decide +kernel
theorem dX12_mend_96 : decode cX12_mend 96 = .ok (.iconst 1, 1) := by decide +kernel
theorem dX12_mend_97 : decode cX12_mend 97 = .ok (.iadd, 1) := by decide +kernel
theorem dX12_mend_98 : decode cX12_mend 98 = .ok (.putfield 317, 3) := by decide +kernel
theorem dX12_mend_101 : decode cX12_mend 101 = .ok (.aload_n 0, 1) := by decide +kernel
theorem dX12_mend_102 : decode cX12_mend 102 = .ok (.iconst 0, 1) := by decide +kernel
theorem dX12_mend_103 : decode cX12_mend 103 = .ok (.putfield 313, 3) := by decide +kernel
theorem dX12_mend_106 : decode cX12_mend 106 = .ok (.iconst 1, 1) := by decide +kernel
theorem dX12_mend_107 : decode cX12_mend 107 = .ok (.ireturn, 1) := by decide +kernel
def M_mend_60 (K : Int32 → th_St → Prop) (u : th_St) : Prop :=
  (((0 : Int32) = 0 ∨ (0 : Int32) = 1) ∧ K (0 : Int32) u)
set_option maxHeartbeats 4000000 in
set_option maxRecDepth 100000 in
theorem M_mend_60_w {K : Int32 → th_St → Prop} (C : th_Cx p s m args meth c cX12_mend RX12 3 (some .boolean) (dC, dI) (th_ty cs) th_E0 A) (u : th_St) (H : Heap) (locs : List Loc) (ls : Array Slot) (hf : M_mend_60 K u) (hw : th_wI (dC, dI) (wM cs q) A s.heap u H locs) (hl : lv_has ls 3 []) : W p l e (th_rm 2 0 0) s m args below meth c H locs 0 0 (MQ below (va_Qi K (th_Post (dC, dI) (wM cs q) A) A) args s 0 0 A) (F0 m 60 ls []) := by
  have hx := C.1
  have hb := C.2.1
  unfold M_mend_60 at hf
  refine lv_iconst (v := (0 : Int32)) hx hb dX12_mend_60 (by decide) ?_
  exact th_zret C hw hf dX12_mend_61
def M_mend_50 (K : Int32 → th_St → Prop) (x1 : Int32) (x2 : Int32) (z0 : Int32) (u : th_St) : Prop :=
  M_takeRow z0 u (fun r_2 u_1 => ((r_2 = 0 → M_mend_60 K u_1) ∧ (¬ r_2 = 0 → ((¬ x2 = 0 → (vp_in ((40 : Int32) + (u_1.1 31)) 100 ∧ ∀ u_3 : th_St, u_3 = th_sa u_1 36 (upd (u_1.2.2.1 36) (((40 : Int32) + (u_1.1 31))).toNatClampNeg x1) → (vp_in ((40 : Int32) + (u_3.1 31)) 100 ∧ ∀ u_4 : th_St, u_4 = th_sa u_3 37 (upd (u_3.2.2.1 37) (((40 : Int32) + (u_3.1 31))).toNatClampNeg (u_3.1 5)) → ∀ u_5 : th_St, u_5 = th_si u_4 31 ((u_4.1 31) + (1 : Int32)) → (((0 : Int32) = 0 ∨ (0 : Int32) = 1) ∧ ∀ u_6 : th_St, u_6 = th_si u_5 40 (0 : Int32) → (((1 : Int32) = 0 ∨ (1 : Int32) = 1) ∧ K (1 : Int32) u_6))))) ∧ (x2 = 0 → M_mend_60 K u_1)))))
set_option maxHeartbeats 4000000 in
set_option maxRecDepth 100000 in
theorem M_mend_50_w {K : Int32 → th_St → Prop} (C : th_Cx p s m args meth c cX12_mend RX12 3 (some .boolean) (dC, dI) (th_ty cs) th_E0 A) (x1 : Int32) (x2 : Int32) (z0 : Int32) (u : th_St) (H : Heap) (locs : List Loc) (ls : Array Slot) (hf : M_mend_50 K x1 x2 z0 u) (hw : th_wI (dC, dI) (wM cs q) A s.heap u H locs) (hl : lv_has ls 3 [(0, .ref (q 0)), (1, .int x1), (2, .int x2)]) : W p l e (th_rm 2 0 0) s m args below meth c H locs 0 0 (MQ below (va_Qi K (th_Post (dC, dI) (wM cs q) A) A) args s 0 0 A) (F0 m 50 ls [.int z0, .ref (q 0)]) := by
  have hx := C.1
  have hb := C.2.1
  unfold M_mend_50 at hf
  refine th_callVi (As := [.int z0]) (rest := []) C lkX12_310 (M_takeRow_c hf) hw (mRc C hw) rfl rfl ⟨Nat.le_of_ble_eq_true rfl, Nat.le_of_ble_eq_true rfl⟩ hl.1 (Nat.le_of_ble_eq_true rfl) ⟨Nat.le_refl _, Nat.le_refl _⟩ dX12_mend_50 (fun r_2 u_1 H locs hf hw => ?_)
  refine lv_if_eq (tgt := 60) hx hb dX12_mend_53 (by decide) (fun hc => ?_) (fun hc => ?_)
  · replace hf := hf.1 hc
    clear hc
    exact M_mend_60_w C  u_1 _ _ _ hf hw (lv_sub hl [] rfl)
  · replace hf := hf.2 hc
    clear hc
    refine lv_iload_n hx hb dX12_mend_56 rfl (lv_at hl 2 rfl) ?_
    refine lv_if_ne (tgt := 62) hx hb dX12_mend_57 (by decide) (fun hc => ?_) (fun hc => ?_)
    · replace hf := hf.1 hc
      clear hc
      refine lv_aload_n hx hb dX12_mend_62 rfl (lv_at hl 0 rfl) ?_
      refine mg_36 C hw dX12_mend_63 ?_
      refine lv_bipush (v := (40 : Int32)) hx hb dX12_mend_66 (by decide) ?_
      refine lv_aload_n hx hb dX12_mend_68 rfl (lv_at hl 0 rfl) ?_
      refine mg_31 C hw dX12_mend_69 ?_
      refine lv_iadd hx hb dX12_mend_72 ?_
      refine lv_iload_n hx hb dX12_mend_73 rfl (lv_at hl 1 rfl) ?_
      refine ms_36 C hw hf.1 dX12_mend_74 (fun u_3 e9 H locs hw => ?_)
      replace hf := hf.2 u_3 e9
      clear e9
      refine lv_aload_n hx hb dX12_mend_75 rfl (lv_at hl 0 rfl) ?_
      refine mg_37 C hw dX12_mend_76 ?_
      refine lv_bipush (v := (40 : Int32)) hx hb dX12_mend_79 (by decide) ?_
      refine lv_aload_n hx hb dX12_mend_81 rfl (lv_at hl 0 rfl) ?_
      refine mg_31 C hw dX12_mend_82 ?_
      refine lv_iadd hx hb dX12_mend_85 ?_
      refine lv_aload_n hx hb dX12_mend_86 rfl (lv_at hl 0 rfl) ?_
      refine mg_5 C hw dX12_mend_87 ?_
      refine ms_37 C hw hf.1 dX12_mend_90 (fun u_4 e9 H locs hw => ?_)
      replace hf := hf.2 u_4 e9
      clear e9
      refine lv_aload_n hx hb dX12_mend_91 rfl (lv_at hl 0 rfl) ?_
      refine lv_dup hx hb dX12_mend_92 rfl ?_
      refine mg_31 C hw dX12_mend_93 ?_
      refine lv_iconst (v := (1 : Int32)) hx hb dX12_mend_96 (by decide) ?_
      refine lv_iadd hx hb dX12_mend_97 ?_
      refine mp_31 C hw dX12_mend_98 (fun u_5 e9 H locs hw => ?_)
      replace hf := hf u_5 e9
      clear e9
      refine lv_aload_n hx hb dX12_mend_101 rfl (lv_at hl 0 rfl) ?_
      refine lv_iconst (v := (0 : Int32)) hx hb dX12_mend_102 (by decide) ?_
      refine mp_40 C hw hf.1 dX12_mend_103 (fun u_6 e9 H locs hw => ?_)
      replace hf := hf.2 u_6 e9
      clear e9
      refine lv_iconst (v := (1 : Int32)) hx hb dX12_mend_106 (by decide) ?_
      exact th_zret C hw hf dX12_mend_107
    · replace hf := hf.2 hc
      clear hc
      exact M_mend_60_w C  u_1 _ _ _ hf hw (lv_sub hl [] rfl)
def M_mend_33 (K : Int32 → th_St → Prop) (x1 : Int32) (z0 : Int32) (u : th_St) : Prop :=
  ((z0 = 0 → M_mend_50 K x1 z0 (-1 : Int32) u) ∧ (¬ z0 = 0 → M_mend_50 K x1 z0 ((40 : Int32) + (u.1 31)) u))
set_option maxHeartbeats 4000000 in
set_option maxRecDepth 100000 in
theorem M_mend_33_w {K : Int32 → th_St → Prop} (C : th_Cx p s m args meth c cX12_mend RX12 3 (some .boolean) (dC, dI) (th_ty cs) th_E0 A) (x1 : Int32) (z0 : Int32) (u : th_St) (H : Heap) (locs : List Loc) (ls : Array Slot) (hf : M_mend_33 K x1 z0 u) (hw : th_wI (dC, dI) (wM cs q) A s.heap u H locs) (hl : lv_has ls 3 [(0, .ref (q 0)), (1, .int x1)]) : W p l e (th_rm 2 0 0) s m args below meth c H locs 0 0 (MQ below (va_Qi K (th_Post (dC, dI) (wM cs q) A) A) args s 0 0 A) (F0 m 33 ls [.int z0]) := by
  have hx := C.1
  have hb := C.2.1
  unfold M_mend_33 at hf
  refine lv_istore_n (lv' := [(2, .int z0), (0, .ref (q 0)), (1, .int x1)]) hx hb dX12_mend_33 rfl hl (by decide) rfl (fun ls hl => ?_)
  refine lv_aload_n hx hb dX12_mend_34 rfl (lv_at hl 1 rfl) ?_
  refine lv_iload_n hx hb dX12_mend_35 rfl (lv_at hl 0 rfl) ?_
  refine lv_if_eq (tgt := 49) hx hb dX12_mend_36 (by decide) (fun hc => ?_) (fun hc => ?_)
  · replace hf := hf.1 hc
    clear hc
    refine lv_iconst (v := (-1 : Int32)) hx hb dX12_mend_49 (by decide) ?_
    exact M_mend_50_w C x1 z0 (-1 : Int32) u _ _ _ hf hw (lv_sub hl [1, 2, 0] rfl)
  · replace hf := hf.2 hc
    clear hc
    refine lv_bipush (v := (40 : Int32)) hx hb dX12_mend_39 (by decide) ?_
    refine lv_aload_n hx hb dX12_mend_41 rfl (lv_at hl 1 rfl) ?_
    refine mg_31 C hw dX12_mend_42 ?_
    refine lv_iadd hx hb dX12_mend_45 ?_
    refine lv_goto (tgt := 50) hx hb dX12_mend_46 (by decide) ?_
    exact M_mend_50_w C x1 z0 ((40 : Int32) + (u.1 31)) u _ _ _ hf hw (lv_sub hl [1, 2, 0] rfl)
def M_mend_32 (K : Int32 → th_St → Prop) (x1 : Int32) (u : th_St) : Prop :=
  M_mend_33 K x1 (0 : Int32) u
set_option maxHeartbeats 4000000 in
set_option maxRecDepth 100000 in
theorem M_mend_32_w {K : Int32 → th_St → Prop} (C : th_Cx p s m args meth c cX12_mend RX12 3 (some .boolean) (dC, dI) (th_ty cs) th_E0 A) (x1 : Int32) (u : th_St) (H : Heap) (locs : List Loc) (ls : Array Slot) (hf : M_mend_32 K x1 u) (hw : th_wI (dC, dI) (wM cs q) A s.heap u H locs) (hl : lv_has ls 3 [(0, .ref (q 0)), (1, .int x1)]) : W p l e (th_rm 2 0 0) s m args below meth c H locs 0 0 (MQ below (va_Qi K (th_Post (dC, dI) (wM cs q) A) A) args s 0 0 A) (F0 m 32 ls []) := by
  have hx := C.1
  have hb := C.2.1
  unfold M_mend_32 at hf
  refine lv_iconst (v := (0 : Int32)) hx hb dX12_mend_32 (by decide) ?_
  exact M_mend_33_w C x1 (0 : Int32) u _ _ _ hf hw (lv_sub hl [0, 1] rfl)
def M_mend (a1 : Int32) (u : th_St) (K : Int32 → th_St → Prop) : Prop :=
  ∀ u_1 : th_St, u_1 = th_si u 0 (0 : Int32) → M_isIn a1 (0 : Int32) ((u_1.1 30) - (1 : Int32)) u_1 (fun r_3 u_2 => ((r_3 = 0 → M_mend_32 K a1 u_2) ∧ (¬ r_3 = 0 → (((60 : Int32) ≤ (u_2.1 31) → M_mend_32 K a1 u_2) ∧ (¬ (60 : Int32) ≤ (u_2.1 31) → M_mend_33 K a1 (1 : Int32) u_2)))))
set_option maxHeartbeats 4000000 in
set_option maxRecDepth 100000 in
theorem M_mend_c {l : Launch} {dC : Nat → ClassId} {dI : Nat → Nat → Nat} {cs : Nat → ClassId} {q : Nat → Nat} {a1 : Int32} {u : th_St} {K : Int32 → th_St → Prop} (hf : M_mend a1 u K) : th_Ci l yX12_mend cX12_mend 3 (some .boolean) 2 0 0 (dC, dI) (th_ty cs) th_E0 (wM cs q) [.ref (q 0), .int a1] u K := by
  refine th_ofi (by decide) (Nat.le_of_ble_eq_true rfl) th_E0_ok ?_
  intro p e s m below meth c A ls C hw hl
  have C : th_Cx p s m _ meth c cX12_mend RX12 3 (some .boolean) (dC, dI) (th_ty cs) th_E0 A := C
  have hl : lv_has ls 3 [(0, .ref (q 0)), (1, .int a1)] := hl
  generalize (List.toArray _ : Array Value) = args at C ⊢
  have hx := C.1
  have hb := C.2.1
  unfold M_mend at hf
  refine lv_aload_n hx hb dX12_mend_0 rfl (lv_at hl 0 rfl) ?_
  refine lv_iconst (v := (0 : Int32)) hx hb dX12_mend_1 (by decide) ?_
  refine mp_0 C hw dX12_mend_2 (fun u_1 e9 H locs hw => ?_)
  replace hf := hf u_1 e9
  clear e9
  refine lv_iload_n hx hb dX12_mend_5 rfl (lv_at hl 1 rfl) ?_
  refine lv_iconst (v := (0 : Int32)) hx hb dX12_mend_6 (by decide) ?_
  refine lv_aload_n hx hb dX12_mend_7 rfl (lv_at hl 0 rfl) ?_
  refine mg_30 C hw dX12_mend_8 ?_
  refine lv_iconst (v := (1 : Int32)) hx hb dX12_mend_11 (by decide) ?_
  refine lv_isub hx hb dX12_mend_12 ?_
  refine th_callSi (As := [.int a1, .int (0 : Int32), .int ((u_1.1 30) - (1 : Int32))]) (rest := []) C lkX12_24 (M_isIn_c hf) hw rfl rfl ⟨Nat.le_of_ble_eq_true rfl, Nat.le_of_ble_eq_true rfl⟩ hl.1 (Nat.le_of_ble_eq_true rfl) ⟨Nat.le_refl _, Nat.le_refl _⟩ dX12_mend_13 (fun r_3 u_2 H locs hf hw => ?_)
  refine lv_if_eq (tgt := 32) hx hb dX12_mend_16 (by decide) (fun hc => ?_) (fun hc => ?_)
  · replace hf := hf.1 hc
    clear hc
    exact M_mend_32_w C a1 u_2 _ _ _ hf hw (lv_sub hl [0, 1] rfl)
  · replace hf := hf.2 hc
    clear hc
    refine lv_aload_n hx hb dX12_mend_19 rfl (lv_at hl 0 rfl) ?_
    refine mg_31 C hw dX12_mend_20 ?_
    refine lv_bipush (v := (60 : Int32)) hx hb dX12_mend_23 (by decide) ?_
    refine lv_icmp_ge (tgt := 32) hx hb dX12_mend_25 (by decide) (fun hc => ?_) (fun hc => ?_)
    · replace hf := hf.1 hc
      clear hc
      exact M_mend_32_w C a1 u_2 _ _ _ hf hw (lv_sub hl [0, 1] rfl)
    · replace hf := hf.2 hc
      clear hc
      refine lv_iconst (v := (1 : Int32)) hx hb dX12_mend_28 (by decide) ?_
      refine lv_goto (tgt := 33) hx hb dX12_mend_29 (by decide) ?_
      exact M_mend_33_w C a1 (1 : Int32) u_2 _ _ _ hf hw (lv_sub hl [0, 1] rfl)
/-! X12_look -/
theorem dX12_look_0 : decode cX12_look 0 = .ok (.aload_n 0, 1) := by decide +kernel
theorem dX12_look_1 : decode cX12_look 1 = .ok (.getfield 313, 3) := by decide +kernel
theorem dX12_look_4 : decode cX12_look 4 = .ok (.ifCond .eq 12, 3) := by decide +kernel
theorem dX12_look_7 : decode cX12_look 7 = .ok (.aload_n 0, 1) := by decide +kernel
theorem dX12_look_8 : decode cX12_look 8 = .ok (.getfield 320, 3) := by decide +kernel
theorem dX12_look_11 : decode cX12_look 11 = .ok (.iload_n 1, 1) := by decide +kernel
theorem dX12_look_12 : decode cX12_look 12 = .ok (.if_icmp .ne 4, 3) := by decide +kernel
theorem dX12_look_15 : decode cX12_look 15 = .ok (.return_, 1) := by decide +kernel
theorem dX12_look_16 : decode cX12_look 16 = .ok (.aload_n 0, 1) := by decide +kernel
theorem dX12_look_17 : decode cX12_look 17 = .ok (.iconst 1, 1) := by decide +kernel
theorem dX12_look_18 : decode cX12_look 18 = .ok (.putfield 313, 3) := by decide +kernel
theorem dX12_look_21 : decode cX12_look 21 = .ok (.aload_n 0, 1) := by decide +kernel
theorem dX12_look_22 : decode cX12_look 22 = .ok (.iload_n 1, 1) := by decide +kernel
theorem dX12_look_23 : decode cX12_look 23 = .ok (.putfield 320, 3) := by decide +kernel
theorem dX12_look_26 : decode cX12_look 26 = .ok (.aload_n 0, 1) := by decide +kernel
theorem dX12_look_27 : decode cX12_look 27 = .ok (.iconst 0, 1) := by decide +kernel
theorem dX12_look_28 : decode cX12_look 28 = .ok (.putfield 323, 3) := by decide +kernel
theorem dX12_look_31 : decode cX12_look 31 = .ok (.aload_n 0, 1) := by decide +kernel
theorem dX12_look_32 : decode cX12_look 32 = .ok (.getfield 323, 3) := by decide +kernel
theorem dX12_look_35 : decode cX12_look 35 = .ok (.aload_n 0, 1) := by decide +kernel
theorem dX12_look_36 : decode cX12_look 36 = .ok (.getfield 167, 3) := by decide +kernel
theorem dX12_look_39 : decode cX12_look 39 = .ok (.if_icmp .ge 29, 3) := by decide +kernel
theorem dX12_look_42 : decode cX12_look 42 = .ok (.aload_n 0, 1) := by decide +kernel
theorem dX12_look_43 : decode cX12_look 43 = .ok (.getfield 93, 3) := by decide +kernel
theorem dX12_look_46 : decode cX12_look 46 = .ok (.aload_n 0, 1) := by decide +kernel
theorem dX12_look_47 : decode cX12_look 47 = .ok (.getfield 323, 3) := by decide +kernel
theorem dX12_look_50 : decode cX12_look 50 = .ok (.iaload, 1) := by decide +kernel
theorem dX12_look_51 : decode cX12_look 51 = .ok (.iload_n 1, 1) := by decide +kernel
theorem dX12_look_52 : decode cX12_look 52 = .ok (.if_icmp .gt 16, 3) := by decide +kernel
theorem dX12_look_55 : decode cX12_look 55 = .ok (.aload_n 0, 1) := by decide +kernel
theorem dX12_look_56 : decode cX12_look 56 = .ok (.dup, 1) := by decide +kernel
theorem dX12_look_57 : decode cX12_look 57 = .ok (.getfield 323, 3) := by decide +kernel
theorem dX12_look_60 : decode cX12_look 60 = .ok (.iconst 1, 1) := by decide +kernel
theorem dX12_look_61 : decode cX12_look 61 = .ok (.iadd, 1) := by decide +kernel
theorem dX12_look_62 : decode cX12_look 62 = .ok (.putfield 323, 3) := by decide +kernel
theorem dX12_look_65 : decode cX12_look 65 = .ok (.goto (-34), 3) := by decide +kernel
theorem dX12_look_68 : decode cX12_look 68 = .ok (.iconst 0, 1) := by decide +kernel
theorem dX12_look_69 : decode cX12_look 69 = .ok (.istore_n 2, 1) := by decide +kernel
theorem dX12_look_70 : decode cX12_look 70 = .ok (.iload_n 2, 1) := by decide +kernel
theorem dX12_look_71 : decode cX12_look 71 = .ok (.aload_n 0, 1) := by decide +kernel
theorem dX12_look_72 : decode cX12_look 72 = .ok (.getfield 323, 3) := by decide +kernel
theorem dX12_look_75 : decode cX12_look 75 = .ok (.if_icmp .ge 36, 3) := by decide +kernel
theorem dX12_look_78 : decode cX12_look 78 = .ok (.aload_n 0, 1) := by decide +kernel
theorem dX12_look_79 : decode cX12_look 79 = .ok (.iload_n 2, 1) := by decide +kernel
theorem dX12_look_80 : decode cX12_look 80 = .ok (.aload_n 0, 1) := by decide +kernel
theorem dX12_look_81 : decode cX12_look 81 = .ok (.iload_n 2, 1) := by decide +kernel
theorem dX12_look_82 : decode cX12_look 82 = .ok (.iload_n 1, 1) := by decide +kernel
theorem dX12_look_83 : decode cX12_look 83 = .ok (.invokevirtual 326, 3) := by decide +kernel
theorem dX12_look_86 : decode cX12_look 86 = .ok (.iload_n 2, 1) := by decide +kernel
theorem dX12_look_87 : decode cX12_look 87 = .ok (.ifCond .ne 7, 3) := by decide +kernel
theorem dX12_look_90 : decode cX12_look 90 = .ok (.iconst (-1), 1) := by decide +kernel
theorem dX12_look_91 : decode cX12_look 91 = .ok (.goto 11, 3) := by decide +kernel
theorem dX12_look_94 : decode cX12_look 94 = .ok (.aload_n 0, 1) := by decide +kernel
theorem dX12_look_95 : decode cX12_look 95 = .ok (.iload_n 2, 1) := by decide +kernel
theorem dX12_look_96 : decode cX12_look 96 = .ok (.iconst 1, 1) := by decide +kernel
theorem dX12_look_97 : decode cX12_look 97 = .ok (.isub, 1) := by decide +kernel
theorem dX12_look_98 : decode cX12_look 98 = .ok (.iload_n 1, 1) := by decide +kernel
theorem dX12_look_99 : decode cX12_look 99 = .ok (.invokevirtual 326, 3) := by decide +kernel
theorem dX12_look_102 : decode cX12_look 102 = .ok (.invokevirtual 330, 3) := by decide +kernel
theorem dX12_look_105 : decode cX12_look 105 = .ok (.iinc 2 1, 3) := by decide +kernel
theorem dX12_look_108 : decode cX12_look 108 = .ok (.goto (-38), 3) := by decide +kernel
theorem dX12_look_111 : decode cX12_look 111 = .ok (.return_, 1) := by decide +kernel
def M_look_102 (K : th_St → Prop) (k70 : Int32 → Int32 → th_St → Prop) (x1 : Int32) (x2 : Int32) (z0 : Int32) (z1 : Int32) (z2 : Int32) (u : th_St) : Prop :=
  M_stretch z2 z1 z0 u (fun u_1 => ∀ x2_3 : Int32, x2_3 = x2 + (1 : Int32) → k70 x1 x2_3 u_1)
set_option maxHeartbeats 4000000 in
set_option maxRecDepth 100000 in
theorem M_look_102_w {K : th_St → Prop} {k70 : Int32 → Int32 → th_St → Prop} (C : th_Cx p s m args meth c cX12_look RX12 3 (none) (dC, dI) (th_ty cs) th_E0 A) (hk70 : ∀ (x1 : Int32) (x2 : Int32) (u : th_St) (H : Heap) (locs : List Loc) (ls : Array Slot), k70 x1 x2 u → th_wI (dC, dI) (wM cs q) A s.heap u H locs → lv_has ls 3 [(0, .ref (q 0)), (1, .int x1), (2, .int x2)] → W p l e (th_rm 2 0 0) s m args below meth c H locs 0 0 (MQ below (va_Qv K (th_Post (dC, dI) (wM cs q) A) A) args s 0 0 A) (F0 m 70 ls [])) (x1 : Int32) (x2 : Int32) (z0 : Int32) (z1 : Int32) (z2 : Int32) (u : th_St) (H : Heap) (locs : List Loc) (ls : Array Slot) (hf : M_look_102 K k70 x1 x2 z0 z1 z2 u) (hw : th_wI (dC, dI) (wM cs q) A s.heap u H locs) (hl : lv_has ls 3 [(0, .ref (q 0)), (1, .int x1), (2, .int x2)]) : W p l e (th_rm 2 0 0) s m args below meth c H locs 0 0 (MQ below (va_Qv K (th_Post (dC, dI) (wM cs q) A) A) args s 0 0 A) (F0 m 102 ls [.int z0, .int z1, .int z2, .ref (q 0)]) := by
  have hx := C.1
  have hb := C.2.1
  unfold M_look_102 at hf
  refine th_callVv (As := [.int z2, .int z1, .int z0]) (rest := []) C lkX12_330 (M_stretch_c hf) hw (mRc C hw) rfl rfl ⟨Nat.le_of_ble_eq_true rfl, Nat.le_of_ble_eq_true rfl⟩ hl.1 (Nat.le_of_ble_eq_true rfl) ⟨Nat.le_refl _, Nat.le_refl _⟩ dX12_look_102 (fun u_1 H locs hf hw => ?_)
  obtain ⟨x2_3, e9⟩ : ∃ y : Int32, y = x2 + (1 : Int32) := ⟨_, rfl⟩
  replace hf := hf x2_3 e9
  refine lv_iinc (v := x2_3) (lv' := [(2, .int x2_3), (0, .ref (q 0)), (1, .int x1)]) hx hb dX12_look_105 hl (k := 2) rfl (by rw [e9]; rfl) (by decide) rfl (fun ls hl => ?_)
  clear e9
  refine lv_goto (tgt := 70) hx hb dX12_look_108 (by decide) ?_
  exact hk70 x1 x2_3 u_1 _ _ _ hf hw (lv_sub hl [1, 2, 0] rfl)
def M_look_70 (K : th_St → Prop) (k70 : Int32 → Int32 → th_St → Prop) (x1 : Int32) (x2 : Int32) (u : th_St) : Prop :=
  (((u.1 42) ≤ x2 → K u) ∧ (¬ (u.1 42) ≤ x2 → M_rowOf x2 x1 u (fun r_2 u_1 => ((¬ x2 = 0 → M_rowOf (x2 - (1 : Int32)) x1 u_1 (fun r_4 u_3 => M_look_102 K k70 x1 x2 r_4 r_2 x2 u_3)) ∧ (x2 = 0 → M_look_102 K k70 x1 x2 (-1 : Int32) r_2 x2 u_1)))))
set_option maxHeartbeats 4000000 in
set_option maxRecDepth 100000 in
theorem M_look_70_w {K : th_St → Prop} {k70 : Int32 → Int32 → th_St → Prop} (C : th_Cx p s m args meth c cX12_look RX12 3 (none) (dC, dI) (th_ty cs) th_E0 A) (hk70 : ∀ (x1 : Int32) (x2 : Int32) (u : th_St) (H : Heap) (locs : List Loc) (ls : Array Slot), k70 x1 x2 u → th_wI (dC, dI) (wM cs q) A s.heap u H locs → lv_has ls 3 [(0, .ref (q 0)), (1, .int x1), (2, .int x2)] → W p l e (th_rm 2 0 0) s m args below meth c H locs 0 0 (MQ below (va_Qv K (th_Post (dC, dI) (wM cs q) A) A) args s 0 0 A) (F0 m 70 ls [])) (x1 : Int32) (x2 : Int32) (u : th_St) (H : Heap) (locs : List Loc) (ls : Array Slot) (hf : M_look_70 K k70 x1 x2 u) (hw : th_wI (dC, dI) (wM cs q) A s.heap u H locs) (hl : lv_has ls 3 [(0, .ref (q 0)), (1, .int x1), (2, .int x2)]) : W p l e (th_rm 2 0 0) s m args below meth c H locs 0 0 (MQ below (va_Qv K (th_Post (dC, dI) (wM cs q) A) A) args s 0 0 A) (F0 m 70 ls []) := by
  have hx := C.1
  have hb := C.2.1
  unfold M_look_70 at hf
  refine lv_iload_n hx hb dX12_look_70 rfl (lv_at hl 2 rfl) ?_
  refine lv_aload_n hx hb dX12_look_71 rfl (lv_at hl 0 rfl) ?_
  refine mg_42 C hw dX12_look_72 ?_
  refine lv_icmp_ge (tgt := 111) hx hb dX12_look_75 (by decide) (fun hc => ?_) (fun hc => ?_)
  · replace hf := hf.1 hc
    clear hc
    exact th_vret C hw hf dX12_look_111
  · replace hf := hf.2 hc
    clear hc
    refine lv_aload_n hx hb dX12_look_78 rfl (lv_at hl 0 rfl) ?_
    refine lv_iload_n hx hb dX12_look_79 rfl (lv_at hl 2 rfl) ?_
    refine lv_aload_n hx hb dX12_look_80 rfl (lv_at hl 0 rfl) ?_
    refine lv_iload_n hx hb dX12_look_81 rfl (lv_at hl 2 rfl) ?_
    refine lv_iload_n hx hb dX12_look_82 rfl (lv_at hl 1 rfl) ?_
    refine th_callVi (As := [.int x2, .int x1]) (rest := [.int x2, .ref (q 0)]) C lkX12_326 (M_rowOf_c hf) hw (mRc C hw) rfl rfl ⟨Nat.le_of_ble_eq_true rfl, Nat.le_of_ble_eq_true rfl⟩ hl.1 (Nat.le_of_ble_eq_true rfl) ⟨Nat.le_refl _, Nat.le_refl _⟩ dX12_look_83 (fun r_2 u_1 H locs hf hw => ?_)
    refine lv_iload_n hx hb dX12_look_86 rfl (lv_at hl 2 rfl) ?_
    refine lv_if_ne (tgt := 94) hx hb dX12_look_87 (by decide) (fun hc => ?_) (fun hc => ?_)
    · replace hf := hf.1 hc
      clear hc
      refine lv_aload_n hx hb dX12_look_94 rfl (lv_at hl 0 rfl) ?_
      refine lv_iload_n hx hb dX12_look_95 rfl (lv_at hl 2 rfl) ?_
      refine lv_iconst (v := (1 : Int32)) hx hb dX12_look_96 (by decide) ?_
      refine lv_isub hx hb dX12_look_97 ?_
      refine lv_iload_n hx hb dX12_look_98 rfl (lv_at hl 1 rfl) ?_
      refine th_callVi (As := [.int (x2 - (1 : Int32)), .int x1]) (rest := [.int r_2, .int x2, .ref (q 0)]) C lkX12_326 (M_rowOf_c hf) hw (mRc C hw) rfl rfl ⟨Nat.le_of_ble_eq_true rfl, Nat.le_of_ble_eq_true rfl⟩ hl.1 (Nat.le_of_ble_eq_true rfl) ⟨Nat.le_refl _, Nat.le_refl _⟩ dX12_look_99 (fun r_4 u_3 H locs hf hw => ?_)
      exact M_look_102_w C hk70 x1 x2 r_4 r_2 x2 u_3 _ _ _ hf hw (lv_sub hl [0, 1, 2] rfl)
    · replace hf := hf.2 hc
      clear hc
      refine lv_iconst (v := (-1 : Int32)) hx hb dX12_look_90 (by decide) ?_
      refine lv_goto (tgt := 102) hx hb dX12_look_91 (by decide) ?_
      exact M_look_102_w C hk70 x1 x2 (-1 : Int32) r_2 x2 u_1 _ _ _ hf hw (lv_sub hl [0, 1, 2] rfl)
def M_look_70_lp (K : th_St → Prop) : Nat → Int32 → Int32 → th_St → Prop
  | 0, _, _, _ => False
  | n + 1, x1, x2, u => M_look_70 K (M_look_70_lp K n) x1 x2 u
set_option maxHeartbeats 4000000 in
set_option maxRecDepth 100000 in
theorem M_look_70_lw {K : th_St → Prop} (C : th_Cx p s m args meth c cX12_look RX12 3 (none) (dC, dI) (th_ty cs) th_E0 A) (n : Nat) : ∀ (x1 : Int32) (x2 : Int32) (u : th_St) (H : Heap) (locs : List Loc) (ls : Array Slot), M_look_70_lp K n x1 x2 u → th_wI (dC, dI) (wM cs q) A s.heap u H locs → lv_has ls 3 [(0, .ref (q 0)), (1, .int x1), (2, .int x2)] → W p l e (th_rm 2 0 0) s m args below meth c H locs 0 0 (MQ below (va_Qv K (th_Post (dC, dI) (wM cs q) A) A) args s 0 0 A) (F0 m 70 ls []) := by
  induction n with
  | zero => intro x1 x2 u H locs ls hf; exact hf.elim
  | succ n ih =>
    intro x1 x2 u H locs ls hf hw hl
    exact M_look_70_w C ih x1 x2 u H locs ls hf hw hl
def M_look_68 (K : th_St → Prop) (x1 : Int32) (u : th_St) : Prop :=
  ∃ n, M_look_70_lp K n x1 (0 : Int32) u
set_option maxHeartbeats 4000000 in
set_option maxRecDepth 100000 in
theorem M_look_68_w {K : th_St → Prop} (C : th_Cx p s m args meth c cX12_look RX12 3 (none) (dC, dI) (th_ty cs) th_E0 A) (x1 : Int32) (u : th_St) (H : Heap) (locs : List Loc) (ls : Array Slot) (hf : M_look_68 K x1 u) (hw : th_wI (dC, dI) (wM cs q) A s.heap u H locs) (hl : lv_has ls 3 [(0, .ref (q 0)), (1, .int x1)]) : W p l e (th_rm 2 0 0) s m args below meth c H locs 0 0 (MQ below (va_Qv K (th_Post (dC, dI) (wM cs q) A) A) args s 0 0 A) (F0 m 68 ls []) := by
  have hx := C.1
  have hb := C.2.1
  unfold M_look_68 at hf
  refine lv_iconst (v := (0 : Int32)) hx hb dX12_look_68 (by decide) ?_
  refine lv_istore_n (lv' := [(2, .int (0 : Int32)), (0, .ref (q 0)), (1, .int x1)]) hx hb dX12_look_69 rfl hl (by decide) rfl (fun ls hl => ?_)
  obtain ⟨n, hf⟩ := hf
  exact M_look_70_lw C n x1 (0 : Int32) u _ _ _ hf hw (lv_sub hl [1, 2, 0] rfl)
def M_look_31 (K : th_St → Prop) (k31 : Int32 → th_St → Prop) (x1 : Int32) (u : th_St) : Prop :=
  (((u.1 30) ≤ (u.1 42) → M_look_68 K x1 u) ∧ (¬ (u.1 30) ≤ (u.1 42) → (vp_in (u.1 42) 100 ∧ ∀ y_1 : Int32, y_1 = u.2.2.1 37 ((u.1 42)).toNatClampNeg → ((x1 < y_1 → M_look_68 K x1 u) ∧ (¬ x1 < y_1 → ∀ u_2 : th_St, u_2 = th_si u 42 ((u.1 42) + (1 : Int32)) → k31 x1 u_2)))))
set_option maxHeartbeats 4000000 in
set_option maxRecDepth 100000 in
theorem M_look_31_w {K : th_St → Prop} {k31 : Int32 → th_St → Prop} (C : th_Cx p s m args meth c cX12_look RX12 3 (none) (dC, dI) (th_ty cs) th_E0 A) (hk31 : ∀ (x1 : Int32) (u : th_St) (H : Heap) (locs : List Loc) (ls : Array Slot), k31 x1 u → th_wI (dC, dI) (wM cs q) A s.heap u H locs → lv_has ls 3 [(0, .ref (q 0)), (1, .int x1)] → W p l e (th_rm 2 0 0) s m args below meth c H locs 0 0 (MQ below (va_Qv K (th_Post (dC, dI) (wM cs q) A) A) args s 0 0 A) (F0 m 31 ls [])) (x1 : Int32) (u : th_St) (H : Heap) (locs : List Loc) (ls : Array Slot) (hf : M_look_31 K k31 x1 u) (hw : th_wI (dC, dI) (wM cs q) A s.heap u H locs) (hl : lv_has ls 3 [(0, .ref (q 0)), (1, .int x1)]) : W p l e (th_rm 2 0 0) s m args below meth c H locs 0 0 (MQ below (va_Qv K (th_Post (dC, dI) (wM cs q) A) A) args s 0 0 A) (F0 m 31 ls []) := by
  have hx := C.1
  have hb := C.2.1
  unfold M_look_31 at hf
  refine lv_aload_n hx hb dX12_look_31 rfl (lv_at hl 0 rfl) ?_
  refine mg_42 C hw dX12_look_32 ?_
  refine lv_aload_n hx hb dX12_look_35 rfl (lv_at hl 0 rfl) ?_
  refine mg_30 C hw dX12_look_36 ?_
  refine lv_icmp_ge (tgt := 68) hx hb dX12_look_39 (by decide) (fun hc => ?_) (fun hc => ?_)
  · replace hf := hf.1 hc
    clear hc
    exact M_look_68_w C x1 u _ _ _ hf hw (lv_sub hl [0, 1] rfl)
  · replace hf := hf.2 hc
    clear hc
    refine lv_aload_n hx hb dX12_look_42 rfl (lv_at hl 0 rfl) ?_
    refine mg_37 C hw dX12_look_43 ?_
    refine lv_aload_n hx hb dX12_look_46 rfl (lv_at hl 0 rfl) ?_
    refine mg_42 C hw dX12_look_47 ?_
    refine ml_37 C hw hf.1 dX12_look_50 (fun y_1 e9 => ?_)
    replace hf := hf.2 y_1 e9
    clear e9
    refine lv_iload_n hx hb dX12_look_51 rfl (lv_at hl 1 rfl) ?_
    refine lv_icmp_gt (tgt := 68) hx hb dX12_look_52 (by decide) (fun hc => ?_) (fun hc => ?_)
    · replace hf := hf.1 hc
      clear hc
      exact M_look_68_w C x1 u _ _ _ hf hw (lv_sub hl [0, 1] rfl)
    · replace hf := hf.2 hc
      clear hc
      refine lv_aload_n hx hb dX12_look_55 rfl (lv_at hl 0 rfl) ?_
      refine lv_dup hx hb dX12_look_56 rfl ?_
      refine mg_42 C hw dX12_look_57 ?_
      refine lv_iconst (v := (1 : Int32)) hx hb dX12_look_60 (by decide) ?_
      refine lv_iadd hx hb dX12_look_61 ?_
      refine mp_42 C hw dX12_look_62 (fun u_2 e9 H locs hw => ?_)
      replace hf := hf u_2 e9
      clear e9
      refine lv_goto (tgt := 31) hx hb dX12_look_65 (by decide) ?_
      exact hk31 x1 u_2 _ _ _ hf hw (lv_sub hl [0, 1] rfl)
def M_look_31_lp (K : th_St → Prop) : Nat → Int32 → th_St → Prop
  | 0, _, _ => False
  | n + 1, x1, u => M_look_31 K (M_look_31_lp K n) x1 u
set_option maxHeartbeats 4000000 in
set_option maxRecDepth 100000 in
theorem M_look_31_lw {K : th_St → Prop} (C : th_Cx p s m args meth c cX12_look RX12 3 (none) (dC, dI) (th_ty cs) th_E0 A) (n : Nat) : ∀ (x1 : Int32) (u : th_St) (H : Heap) (locs : List Loc) (ls : Array Slot), M_look_31_lp K n x1 u → th_wI (dC, dI) (wM cs q) A s.heap u H locs → lv_has ls 3 [(0, .ref (q 0)), (1, .int x1)] → W p l e (th_rm 2 0 0) s m args below meth c H locs 0 0 (MQ below (va_Qv K (th_Post (dC, dI) (wM cs q) A) A) args s 0 0 A) (F0 m 31 ls []) := by
  induction n with
  | zero => intro x1 u H locs ls hf; exact hf.elim
  | succ n ih =>
    intro x1 u H locs ls hf hw hl
    exact M_look_31_w C ih x1 u H locs ls hf hw hl
def M_look_16 (K : th_St → Prop) (x1 : Int32) (u : th_St) : Prop :=
  (((1 : Int32) = 0 ∨ (1 : Int32) = 1) ∧ ∀ u_1 : th_St, u_1 = th_si u 40 (1 : Int32) → ∀ u_2 : th_St, u_2 = th_si u_1 41 x1 → ∀ u_3 : th_St, u_3 = th_si u_2 42 (0 : Int32) → ∃ n, M_look_31_lp K n x1 u_3)
set_option maxHeartbeats 4000000 in
set_option maxRecDepth 100000 in
theorem M_look_16_w {K : th_St → Prop} (C : th_Cx p s m args meth c cX12_look RX12 3 (none) (dC, dI) (th_ty cs) th_E0 A) (x1 : Int32) (u : th_St) (H : Heap) (locs : List Loc) (ls : Array Slot) (hf : M_look_16 K x1 u) (hw : th_wI (dC, dI) (wM cs q) A s.heap u H locs) (hl : lv_has ls 3 [(0, .ref (q 0)), (1, .int x1)]) : W p l e (th_rm 2 0 0) s m args below meth c H locs 0 0 (MQ below (va_Qv K (th_Post (dC, dI) (wM cs q) A) A) args s 0 0 A) (F0 m 16 ls []) := by
  have hx := C.1
  have hb := C.2.1
  unfold M_look_16 at hf
  refine lv_aload_n hx hb dX12_look_16 rfl (lv_at hl 0 rfl) ?_
  refine lv_iconst (v := (1 : Int32)) hx hb dX12_look_17 (by decide) ?_
  refine mp_40 C hw hf.1 dX12_look_18 (fun u_1 e9 H locs hw => ?_)
  replace hf := hf.2 u_1 e9
  clear e9
  refine lv_aload_n hx hb dX12_look_21 rfl (lv_at hl 0 rfl) ?_
  refine lv_iload_n hx hb dX12_look_22 rfl (lv_at hl 1 rfl) ?_
  refine mp_41 C hw dX12_look_23 (fun u_2 e9 H locs hw => ?_)
  replace hf := hf u_2 e9
  clear e9
  refine lv_aload_n hx hb dX12_look_26 rfl (lv_at hl 0 rfl) ?_
  refine lv_iconst (v := (0 : Int32)) hx hb dX12_look_27 (by decide) ?_
  refine mp_42 C hw dX12_look_28 (fun u_3 e9 H locs hw => ?_)
  replace hf := hf u_3 e9
  clear e9
  obtain ⟨n, hf⟩ := hf
  exact M_look_31_lw C n x1 u_3 _ _ _ hf hw (lv_sub hl [0, 1] rfl)
def M_look (a1 : Int32) (u : th_St) (K : th_St → Prop) : Prop :=
  (((u.1 40) = 0 → M_look_16 K a1 u) ∧ (¬ (u.1 40) = 0 → ((¬ (u.1 41) = a1 → M_look_16 K a1 u) ∧ ((u.1 41) = a1 → K u))))
set_option maxHeartbeats 4000000 in
set_option maxRecDepth 100000 in
theorem M_look_c {l : Launch} {dC : Nat → ClassId} {dI : Nat → Nat → Nat} {cs : Nat → ClassId} {q : Nat → Nat} {a1 : Int32} {u : th_St} {K : th_St → Prop} (hf : M_look a1 u K) : th_Cv l yX12_look cX12_look 3 (none) 2 0 0 (dC, dI) (th_ty cs) th_E0 (wM cs q) [.ref (q 0), .int a1] u K := by
  refine th_ofv (by decide) (Nat.le_of_ble_eq_true rfl) th_E0_ok ?_
  intro p e s m below meth c A ls C hw hl
  have C : th_Cx p s m _ meth c cX12_look RX12 3 (none) (dC, dI) (th_ty cs) th_E0 A := C
  have hl : lv_has ls 3 [(0, .ref (q 0)), (1, .int a1)] := hl
  generalize (List.toArray _ : Array Value) = args at C ⊢
  have hx := C.1
  have hb := C.2.1
  unfold M_look at hf
  refine lv_aload_n hx hb dX12_look_0 rfl (lv_at hl 0 rfl) ?_
  refine mg_40 C hw dX12_look_1 ?_
  refine lv_if_eq (tgt := 16) hx hb dX12_look_4 (by decide) (fun hc => ?_) (fun hc => ?_)
  · replace hf := hf.1 hc
    clear hc
    exact M_look_16_w C a1 u _ _ _ hf hw (lv_sub hl [0, 1] rfl)
  · replace hf := hf.2 hc
    clear hc
    refine lv_aload_n hx hb dX12_look_7 rfl (lv_at hl 0 rfl) ?_
    refine mg_41 C hw dX12_look_8 ?_
    refine lv_iload_n hx hb dX12_look_11 rfl (lv_at hl 1 rfl) ?_
    refine lv_icmp_ne (tgt := 16) hx hb dX12_look_12 (by decide) (fun hc => ?_) (fun hc => ?_)
    · replace hf := hf.1 hc
      clear hc
      exact M_look_16_w C a1 u _ _ _ hf hw (lv_sub hl [0, 1] rfl)
    · replace hf := hf.2 hc
      clear hc
      exact th_vret C hw hf dX12_look_15
/-! X12_holdsAt -/
theorem dX12_holdsAt_0 : decode cX12_holdsAt 0 = .ok (.iconst 0, 1) := by decide +kernel
theorem dX12_holdsAt_1 : decode cX12_holdsAt 1 = .ok (.istore_n 3, 1) := by decide +kernel
theorem dX12_holdsAt_2 : decode cX12_holdsAt 2 = .ok (.aload_n 0, 1) := by decide +kernel
theorem dX12_holdsAt_3 : decode cX12_holdsAt 3 = .ok (.getfield 45, 3) := by decide +kernel
theorem dX12_holdsAt_6 : decode cX12_holdsAt 6 = .ok (.iload_n 1, 1) := by decide +kernel
theorem dX12_holdsAt_7 : decode cX12_holdsAt 7 = .ok (.iaload, 1) := by decide +kernel
theorem dX12_holdsAt_8 : decode cX12_holdsAt 8 = .ok (.istore 4, 2) := by decide +kernel
theorem dX12_holdsAt_10 : decode cX12_holdsAt 10 = .ok (.iload 4, 2) := by decide +kernel
theorem dX12_holdsAt_12 : decode cX12_holdsAt 12 = .ok (.aload_n 0, 1) := by decide +kernel
theorem dX12_holdsAt_13 : decode cX12_holdsAt 13 = .ok (.getfield 48, 3) := by decide +kernel
theorem dX12_holdsAt_16 : decode cX12_holdsAt 16 = .ok (.iload_n 1, 1) := by decide +kernel
theorem dX12_holdsAt_17 : decode cX12_holdsAt 17 = .ok (.iaload, 1) := by decide +kernel
theorem dX12_holdsAt_18 : decode cX12_holdsAt 18 = .ok (.if_icmp .ge 250, 3) := by decide +kernel
theorem dX12_holdsAt_21 : decode cX12_holdsAt 21 = .ok (.aload_n 0, 1) := by decide +kernel
theorem dX12_holdsAt_22 : decode cX12_holdsAt 22 = .ok (.getfield 69, 3) := by decide +kernel
theorem dX12_holdsAt_25 : decode cX12_holdsAt 25 = .ok (.iload 4, 2) := by decide +kernel
theorem dX12_holdsAt_27 : decode cX12_holdsAt 27 = .ok (.iaload, 1) := by decide +kernel
theorem dX12_holdsAt_28 : decode cX12_holdsAt 28 = .ok (.bipush 10, 2) := by decide +kernel
theorem dX12_holdsAt_30 : decode cX12_holdsAt 30 = .ok (.if_icmp .ne 30, 3) := by decide +kernel
theorem dX12_holdsAt_33 : decode cX12_holdsAt 33 = .ok (.aload_n 0, 1) := by decide +kernel
theorem dX12_holdsAt_34 : decode cX12_holdsAt 34 = .ok (.getfield 84, 3) := by decide +kernel
theorem dX12_holdsAt_37 : decode cX12_holdsAt 37 = .ok (.iload_n 3, 1) := by decide +kernel
theorem dX12_holdsAt_38 : decode cX12_holdsAt 38 = .ok (.iconst 1, 1) := by decide +kernel
theorem dX12_holdsAt_39 : decode cX12_holdsAt 39 = .ok (.isub, 1) := by decide +kernel
theorem dX12_holdsAt_40 : decode cX12_holdsAt 40 = .ok (.aload_n 0, 1) := by decide +kernel
theorem dX12_holdsAt_41 : decode cX12_holdsAt 41 = .ok (.getfield 84, 3) := by decide +kernel
theorem dX12_holdsAt_44 : decode cX12_holdsAt 44 = .ok (.iload_n 3, 1) := by decide +kernel
theorem dX12_holdsAt_45 : decode cX12_holdsAt 45 = .ok (.iconst 1, 1) := by decide +kernel
theorem dX12_holdsAt_46 : decode cX12_holdsAt 46 = .ok (.isub, 1) := by decide +kernel
theorem dX12_holdsAt_47 : decode cX12_holdsAt 47 = .ok (.baload, 1) := by decide +kernel
theorem dX12_holdsAt_48 : decode cX12_holdsAt 48 = .ok (.ifCond .ne 7, 3) := by decide +kernel
theorem dX12_holdsAt_51 : decode cX12_holdsAt 51 = .ok (.iconst 1, 1) := by decide +kernel
theorem dX12_holdsAt_52 : decode cX12_holdsAt 52 = .ok (.goto 4, 3) := by decide +kernel
theorem dX12_holdsAt_55 : decode cX12_holdsAt 55 = .ok (.iconst 0, 1) := by decide +kernel
theorem dX12_holdsAt_56 : decode cX12_holdsAt 56 = .ok (.bastore, 1) := by decide +kernel
theorem dX12_holdsAt_57 : decode cX12_holdsAt 57 = .ok (.goto 205, 3) := by decide +kernel
theorem dX12_holdsAt_60 : decode cX12_holdsAt 60 = .ok (.aload_n 0, 1) := by decide +kernel
theorem dX12_holdsAt_61 : decode cX12_holdsAt 61 = .ok (.getfield 69, 3) := by decide +kernel
theorem dX12_holdsAt_64 : decode cX12_holdsAt 64 = .ok (.iload 4, 2) := by decide +kernel
theorem dX12_holdsAt_66 : decode cX12_holdsAt 66 = .ok (.iaload, 1) := by decide +kernel
theorem dX12_holdsAt_67 : decode cX12_holdsAt 67 = .ok (.bipush 11, 2) := by decide +kernel
theorem dX12_holdsAt_69 : decode cX12_holdsAt 69 = .ok (.if_icmp .eq 15, 3) := by decide +kernel
theorem dX12_holdsAt_72 : decode cX12_holdsAt 72 = .ok (.aload_n 0, 1) := by decide +kernel
theorem dX12_holdsAt_73 : decode cX12_holdsAt 73 = .ok (.getfield 69, 3) := by decide +kernel
theorem dX12_holdsAt_76 : decode cX12_holdsAt 76 = .ok (.iload 4, 2) := by decide +kernel
theorem dX12_holdsAt_78 : decode cX12_holdsAt 78 = .ok (.iaload, 1) := by decide +kernel
theorem dX12_holdsAt_79 : decode cX12_holdsAt 79 = .ok (.bipush 12, 2) := by decide +kernel
theorem dX12_holdsAt_81 : decode cX12_holdsAt 81 = .ok (.if_icmp .ne 82, 3) := by decide +kernel
theorem dX12_holdsAt_84 : decode cX12_holdsAt 84 = .ok (.iinc 3 (-1), 3) := by decide +kernel
theorem dX12_holdsAt_87 : decode cX12_holdsAt 87 = .ok (.aload_n 0, 1) := by decide +kernel
theorem dX12_holdsAt_88 : decode cX12_holdsAt 88 = .ok (.getfield 84, 3) := by decide +kernel
theorem dX12_holdsAt_91 : decode cX12_holdsAt 91 = .ok (.iload_n 3, 1) := by decide +kernel
theorem dX12_holdsAt_92 : decode cX12_holdsAt 92 = .ok (.iconst 1, 1) := by decide +kernel
theorem dX12_holdsAt_93 : decode cX12_holdsAt 93 = .ok (.isub, 1) := by decide +kernel
theorem dX12_holdsAt_94 : decode cX12_holdsAt 94 = .ok (.aload_n 0, 1) := by decide +kernel
theorem dX12_holdsAt_95 : decode cX12_holdsAt 95 = .ok (.getfield 69, 3) := by decide +kernel
theorem dX12_holdsAt_98 : decode cX12_holdsAt 98 = .ok (.iload 4, 2) := by decide +kernel
theorem dX12_holdsAt_100 : decode cX12_holdsAt 100 = .ok (.iaload, 1) := by decide +kernel
theorem dX12_holdsAt_101 : decode cX12_holdsAt 101 = .ok (.bipush 11, 2) := by decide +kernel
theorem dX12_holdsAt_103 : decode cX12_holdsAt 103 = .ok (.if_icmp .ne 31, 3) := by decide +kernel
theorem dX12_holdsAt_106 : decode cX12_holdsAt 106 = .ok (.aload_n 0, 1) := by decide +kernel
theorem dX12_holdsAt_107 : decode cX12_holdsAt 107 = .ok (.getfield 84, 3) := by decide +kernel
theorem dX12_holdsAt_110 : decode cX12_holdsAt 110 = .ok (.iload_n 3, 1) := by decide +kernel
theorem dX12_holdsAt_111 : decode cX12_holdsAt 111 = .ok (.iconst 1, 1) := by decide +kernel
theorem dX12_holdsAt_112 : decode cX12_holdsAt 112 = .ok (.isub, 1) := by decide +kernel
theorem dX12_holdsAt_113 : decode cX12_holdsAt 113 = .ok (.baload, 1) := by decide +kernel
theorem dX12_holdsAt_114 : decode cX12_holdsAt 114 = .ok (.ifCond .eq 16, 3) := by decide +kernel
theorem dX12_holdsAt_117 : decode cX12_holdsAt 117 = .ok (.aload_n 0, 1) := by decide +kernel
theorem dX12_holdsAt_118 : decode cX12_holdsAt 118 = .ok (.getfield 84, 3) := by decide +kernel
theorem dX12_holdsAt_121 : decode cX12_holdsAt 121 = .ok (.iload_n 3, 1) := by decide +kernel
theorem dX12_holdsAt_122 : decode cX12_holdsAt 122 = .ok (.baload, 1) := by decide +kernel
theorem dX12_holdsAt_123 : decode cX12_holdsAt 123 = .ok (.ifCond .eq 7, 3) := by decide +kernel
theorem dX12_holdsAt_126 : decode cX12_holdsAt 126 = .ok (.iconst 1, 1) := by decide +kernel
theorem dX12_holdsAt_127 : decode cX12_holdsAt 127 = .ok (.goto 32, 3) := by decide +kernel
theorem dX12_holdsAt_130 : decode cX12_holdsAt 130 = .ok (.iconst 0, 1) := by decide +kernel
theorem dX12_holdsAt_131 : decode cX12_holdsAt 131 = .ok (.goto 28, 3) := by decide +kernel
theorem dX12_holdsAt_134 : decode cX12_holdsAt 134 = .ok (.aload_n 0, 1) := by decide +kernel
theorem dX12_holdsAt_135 : decode cX12_holdsAt 135 = .ok (.getfield 84, 3) := by decide +kernel
theorem dX12_holdsAt_138 : decode cX12_holdsAt 138 = .ok (.iload_n 3, 1) := by decide +kernel
theorem dX12_holdsAt_139 : decode cX12_holdsAt 139 = .ok (.iconst 1, 1) := by decide +kernel
theorem dX12_holdsAt_140 : decode cX12_holdsAt 140 = .ok (.isub, 1) := by decide +kernel
theorem dX12_holdsAt_141 : decode cX12_holdsAt 141 = .ok (.baload, 1) := by decide +kernel
theorem dX12_holdsAt_142 : decode cX12_holdsAt 142 = .ok (.ifCond .ne 12, 3) := by decide +kernel
theorem dX12_holdsAt_145 : decode cX12_holdsAt 145 = .ok (.aload_n 0, 1) := by decide +kernel
theorem dX12_holdsAt_146 : decode cX12_holdsAt 146 = .ok (.getfield 84, 3) := by decide +kernel
theorem dX12_holdsAt_149 : decode cX12_holdsAt 149 = .ok (.iload_n 3, 1) := by decide +kernel
theorem dX12_holdsAt_150 : decode cX12_holdsAt 150 = .ok (.baload, 1) := by decide +kernel
theorem dX12_holdsAt_151 : decode cX12_holdsAt 151 = .ok (.ifCond .eq 7, 3) := by decide +kernel
theorem dX12_holdsAt_154 : decode cX12_holdsAt 154 = .ok (.iconst 1, 1) := by decide +kernel
theorem dX12_holdsAt_155 : decode cX12_holdsAt 155 = .ok (.goto 4, 3) := by decide +kernel
theorem dX12_holdsAt_158 : decode cX12_holdsAt 158 = .ok (.iconst 0, 1) := by decide +kernel
theorem dX12_holdsAt_159 : decode cX12_holdsAt 159 = .ok (.bastore, 1) := by decide +kernel
theorem dX12_holdsAt_160 : decode cX12_holdsAt 160 = .ok (.goto 102, 3) := by decide +kernel
theorem dX12_holdsAt_163 : decode cX12_holdsAt 163 = .ok (.aload_n 0, 1) := by decide +kernel
theorem dX12_holdsAt_164 : decode cX12_holdsAt 164 = .ok (.iload 4, 2) := by decide +kernel
theorem dX12_holdsAt_166 : decode cX12_holdsAt 166 = .ok (.iload_n 2, 1) := by decide +kernel
theorem dX12_holdsAt_167 : decode cX12_holdsAt 167 = .ok (.invokevirtual 350, 3) := by decide +kernel
theorem dX12_holdsAt_170 : decode cX12_holdsAt 170 = .ok (.istore 5, 2) := by decide +kernel
theorem dX12_holdsAt_172 : decode cX12_holdsAt 172 = .ok (.aload_n 0, 1) := by decide +kernel
theorem dX12_holdsAt_173 : decode cX12_holdsAt 173 = .ok (.getfield 84, 3) := by decide +kernel
theorem dX12_holdsAt_176 : decode cX12_holdsAt 176 = .ok (.iload_n 3, 1) := by decide +kernel
theorem dX12_holdsAt_177 : decode cX12_holdsAt 177 = .ok (.aload_n 0, 1) := by decide +kernel
theorem dX12_holdsAt_178 : decode cX12_holdsAt 178 = .ok (.getfield 72, 3) := by decide +kernel
theorem dX12_holdsAt_181 : decode cX12_holdsAt 181 = .ok (.iload 4, 2) := by decide +kernel
theorem dX12_holdsAt_183 : decode cX12_holdsAt 183 = .ok (.iaload, 1) := by decide +kernel
theorem dX12_holdsAt_184 : decode cX12_holdsAt 184 = .ok (.bipush 60, 2) := by decide +kernel
theorem dX12_holdsAt_186 : decode cX12_holdsAt 186 = .ok (.if_icmp .ne 23, 3) := by decide +kernel
theorem dX12_holdsAt_189 : decode cX12_holdsAt 189 = .ok (.iload 5, 2) := by decide +kernel
theorem dX12_holdsAt_191 : decode cX12_holdsAt 191 = .ok (.aload_n 0, 1) := by decide +kernel
theorem dX12_holdsAt_192 : decode cX12_holdsAt 192 = .ok (.getfield 75, 3) := by decide +kernel
theorem dX12_holdsAt_195 : decode cX12_holdsAt 195 = .ok (.iload 4, 2) := by decide +kernel
theorem dX12_holdsAt_197 : decode cX12_holdsAt 197 = .ok (.iaload, 1) := by decide +kernel
theorem dX12_holdsAt_198 : decode cX12_holdsAt 198 = .ok (.if_icmp .ge 7, 3) := by decide +kernel
theorem dX12_holdsAt_201 : decode cX12_holdsAt 201 = .ok (.iconst 1, 1) := by decide +kernel
theorem dX12_holdsAt_202 : decode cX12_holdsAt 202 = .ok (.goto 56, 3) := by decide +kernel
theorem dX12_holdsAt_205 : decode cX12_holdsAt 205 = .ok (.iconst 0, 1) := by decide +kernel
theorem dX12_holdsAt_206 : decode cX12_holdsAt 206 = .ok (.goto 52, 3) := by decide +kernel
theorem dX12_holdsAt_209 : decode cX12_holdsAt 209 = .ok (.aload_n 0, 1) := by decide +kernel
theorem dX12_holdsAt_210 : decode cX12_holdsAt 210 = .ok (.getfield 72, 3) := by decide +kernel
theorem dX12_holdsAt_213 : decode cX12_holdsAt 213 = .ok (.iload 4, 2) := by decide +kernel
theorem dX12_holdsAt_215 : decode cX12_holdsAt 215 = .ok (.iaload, 1) := by decide +kernel
theorem dX12_holdsAt_216 : decode cX12_holdsAt 216 = .ok (.bipush 61, 2) := by decide +kernel
theorem dX12_holdsAt_218 : decode cX12_holdsAt 218 = .ok (.if_icmp .ne 23, 3) := by decide +kernel
theorem dX12_holdsAt_221 : decode cX12_holdsAt 221 = .ok (.iload 5, 2) := by decide +kernel
theorem dX12_holdsAt_223 : decode cX12_holdsAt 223 = .ok (.aload_n 0, 1) := by decide +kernel
theorem dX12_holdsAt_224 : decode cX12_holdsAt 224 = .ok (.getfield 75, 3) := by decide +kernel
theorem dX12_holdsAt_227 : decode cX12_holdsAt 227 = .ok (.iload 4, 2) := by decide +kernel
theorem dX12_holdsAt_229 : decode cX12_holdsAt 229 = .ok (.iaload, 1) := by decide +kernel
theorem dX12_holdsAt_230 : decode cX12_holdsAt 230 = .ok (.if_icmp .ne 7, 3) := by decide +kernel
theorem dX12_holdsAt_233 : decode cX12_holdsAt 233 = .ok (.iconst 1, 1) := by decide +kernel
theorem dX12_holdsAt_234 : decode cX12_holdsAt 234 = .ok (.goto 24, 3) := by decide +kernel
theorem dX12_holdsAt_237 : decode cX12_holdsAt 237 = .ok (.iconst 0, 1) := by decide +kernel
theorem dX12_holdsAt_238 : decode cX12_holdsAt 238 = .ok (.goto 20, 3) := by decide +kernel
theorem dX12_holdsAt_241 : decode cX12_holdsAt 241 = .ok (.iload 5, 2) := by decide +kernel
theorem dX12_holdsAt_243 : decode cX12_holdsAt 243 = .ok (.aload_n 0, 1) := by decide +kernel
theorem dX12_holdsAt_244 : decode cX12_holdsAt 244 = .ok (.getfield 75, 3) := by decide +kernel
theorem dX12_holdsAt_247 : decode cX12_holdsAt 247 = .ok (.iload 4, 2) := by decide +kernel
theorem dX12_holdsAt_249 : decode cX12_holdsAt 249 = .ok (.iaload, 1) := by decide +kernel
theorem dX12_holdsAt_250 : decode cX12_holdsAt 250 = .ok (.if_icmp .le 7, 3) := by decide +kernel
theorem dX12_holdsAt_253 : decode cX12_holdsAt 253 = .ok (.iconst 1, 1) := by decide +kernel
theorem dX12_holdsAt_254 : decode cX12_holdsAt 254 = .ok (.goto 4, 3) := by decide +kernel
theorem dX12_holdsAt_257 : decode cX12_holdsAt 257 = .ok (.iconst 0, 1) := by decide +kernel
theorem dX12_holdsAt_258 : decode cX12_holdsAt 258 = .ok (.bastore, 1) := by decide +kernel
theorem dX12_holdsAt_259 : decode cX12_holdsAt 259 = .ok (.iinc 3 1, 3) := by decide +kernel
theorem dX12_holdsAt_262 : decode cX12_holdsAt 262 = .ok (.iinc 4 1, 3) := by decide +kernel
theorem dX12_holdsAt_265 : decode cX12_holdsAt 265 = .ok (.goto (-255), 3) := by decide +kernel
theorem dX12_holdsAt_268 : decode cX12_holdsAt 268 = .ok (.aload_n 0, 1) := by decide +kernel
theorem dX12_holdsAt_269 : decode cX12_holdsAt 269 = .ok (.getfield 84, 3) := by decide +kernel
theorem dX12_holdsAt_272 : decode cX12_holdsAt 272 = .ok (.iconst 0, 1) := by decide +kernel
theorem dX12_holdsAt_273 : decode cX12_holdsAt 273 = .ok (.baload, 1) := by decide +kernel
theorem dX12_holdsAt_274 : decode cX12_holdsAt 274 = .ok (.ireturn, 1) := by decide +kernel
def M_holdsAt_262 (K : Int32 → th_St → Prop) (k10 : Int32 → Int32 → Int32 → Int32 → th_St → Prop) (x1 : Int32) (x2 : Int32) (x3 : Int32) (x4 : Int32) (u : th_St) : Prop :=
  ∀ x4_1 : Int32, x4_1 = x4 + (1 : Int32) → k10 x1 x2 x3 x4_1 u
set_option maxHeartbeats 4000000 in
set_option maxRecDepth 100000 in
theorem M_holdsAt_262_w {K : Int32 → th_St → Prop} {k10 : Int32 → Int32 → Int32 → Int32 → th_St → Prop} (C : th_Cx p s m args meth c cX12_holdsAt RX12 6 (some .boolean) (dC, dI) (th_ty cs) th_E0 A) (hk10 : ∀ (x1 : Int32) (x2 : Int32) (x3 : Int32) (x4 : Int32) (u : th_St) (H : Heap) (locs : List Loc) (ls : Array Slot), k10 x1 x2 x3 x4 u → th_wI (dC, dI) (wM cs q) A s.heap u H locs → lv_has ls 6 [(0, .ref (q 0)), (1, .int x1), (2, .int x2), (3, .int x3), (4, .int x4)] → W p l e (th_rm 2 0 0) s m args below meth c H locs 0 0 (MQ below (va_Qi K (th_Post (dC, dI) (wM cs q) A) A) args s 0 0 A) (F0 m 10 ls [])) (x1 : Int32) (x2 : Int32) (x3 : Int32) (x4 : Int32) (u : th_St) (H : Heap) (locs : List Loc) (ls : Array Slot) (hf : M_holdsAt_262 K k10 x1 x2 x3 x4 u) (hw : th_wI (dC, dI) (wM cs q) A s.heap u H locs) (hl : lv_has ls 6 [(0, .ref (q 0)), (1, .int x1), (2, .int x2), (3, .int x3), (4, .int x4)]) : W p l e (th_rm 2 0 0) s m args below meth c H locs 0 0 (MQ below (va_Qi K (th_Post (dC, dI) (wM cs q) A) A) args s 0 0 A) (F0 m 262 ls []) := by
  have hx := C.1
  have hb := C.2.1
  unfold M_holdsAt_262 at hf
  obtain ⟨x4_1, e9⟩ : ∃ y : Int32, y = x4 + (1 : Int32) := ⟨_, rfl⟩
  replace hf := hf x4_1 e9
  refine lv_iinc (v := x4_1) (lv' := [(4, .int x4_1), (0, .ref (q 0)), (1, .int x1), (2, .int x2), (3, .int x3)]) hx hb dX12_holdsAt_262 hl (k := 4) rfl (by rw [e9]; rfl) (by decide) rfl (fun ls hl => ?_)
  clear e9
  refine lv_goto (tgt := 10) hx hb dX12_holdsAt_265 (by decide) ?_
  exact hk10 x1 x2 x3 x4_1 u _ _ _ hf hw (lv_sub hl [1, 2, 3, 4, 0] rfl)
def M_holdsAt_56 (K : Int32 → th_St → Prop) (k10 : Int32 → Int32 → Int32 → Int32 → th_St → Prop) (x1 : Int32) (x2 : Int32) (x3 : Int32) (x4 : Int32) (z0 : Int32) (z1 : Int32) (u : th_St) : Prop :=
  (vp_in z1 60 ∧ ∀ u_1 : th_St, u_1 = th_sa u 34 (upd (u.2.2.1 34) (z1).toNatClampNeg (vp_nar .boolean z0)) → M_holdsAt_262 K k10 x1 x2 x3 x4 u_1)
set_option maxHeartbeats 4000000 in
set_option maxRecDepth 100000 in
theorem M_holdsAt_56_w {K : Int32 → th_St → Prop} {k10 : Int32 → Int32 → Int32 → Int32 → th_St → Prop} (C : th_Cx p s m args meth c cX12_holdsAt RX12 6 (some .boolean) (dC, dI) (th_ty cs) th_E0 A) (hk10 : ∀ (x1 : Int32) (x2 : Int32) (x3 : Int32) (x4 : Int32) (u : th_St) (H : Heap) (locs : List Loc) (ls : Array Slot), k10 x1 x2 x3 x4 u → th_wI (dC, dI) (wM cs q) A s.heap u H locs → lv_has ls 6 [(0, .ref (q 0)), (1, .int x1), (2, .int x2), (3, .int x3), (4, .int x4)] → W p l e (th_rm 2 0 0) s m args below meth c H locs 0 0 (MQ below (va_Qi K (th_Post (dC, dI) (wM cs q) A) A) args s 0 0 A) (F0 m 10 ls [])) (x1 : Int32) (x2 : Int32) (x3 : Int32) (x4 : Int32) (z0 : Int32) (z1 : Int32) (u : th_St) (H : Heap) (locs : List Loc) (ls : Array Slot) (hf : M_holdsAt_56 K k10 x1 x2 x3 x4 z0 z1 u) (hw : th_wI (dC, dI) (wM cs q) A s.heap u H locs) (hl : lv_has ls 6 [(0, .ref (q 0)), (1, .int x1), (2, .int x2), (3, .int x3), (4, .int x4)]) : W p l e (th_rm 2 0 0) s m args below meth c H locs 0 0 (MQ below (va_Qi K (th_Post (dC, dI) (wM cs q) A) A) args s 0 0 A) (F0 m 56 ls [.int z0, .int z1, .ref (q 34)]) := by
  have hx := C.1
  have hb := C.2.1
  unfold M_holdsAt_56 at hf
  refine ms_34 C hw hf.1 dX12_holdsAt_56 (fun u_1 e9 H locs hw => ?_)
  replace hf := hf.2 u_1 e9
  clear e9
  refine lv_goto (tgt := 262) hx hb dX12_holdsAt_57 (by decide) ?_
  exact M_holdsAt_262_w C hk10 x1 x2 x3 x4 u_1 _ _ _ hf hw (lv_sub hl [0, 1, 2, 3, 4] rfl)
def M_holdsAt_159 (K : Int32 → th_St → Prop) (k10 : Int32 → Int32 → Int32 → Int32 → th_St → Prop) (x1 : Int32) (x2 : Int32) (x3 : Int32) (x4 : Int32) (z0 : Int32) (z1 : Int32) (u : th_St) : Prop :=
  (vp_in z1 60 ∧ ∀ u_1 : th_St, u_1 = th_sa u 34 (upd (u.2.2.1 34) (z1).toNatClampNeg (vp_nar .boolean z0)) → M_holdsAt_262 K k10 x1 x2 x3 x4 u_1)
set_option maxHeartbeats 4000000 in
set_option maxRecDepth 100000 in
theorem M_holdsAt_159_w {K : Int32 → th_St → Prop} {k10 : Int32 → Int32 → Int32 → Int32 → th_St → Prop} (C : th_Cx p s m args meth c cX12_holdsAt RX12 6 (some .boolean) (dC, dI) (th_ty cs) th_E0 A) (hk10 : ∀ (x1 : Int32) (x2 : Int32) (x3 : Int32) (x4 : Int32) (u : th_St) (H : Heap) (locs : List Loc) (ls : Array Slot), k10 x1 x2 x3 x4 u → th_wI (dC, dI) (wM cs q) A s.heap u H locs → lv_has ls 6 [(0, .ref (q 0)), (1, .int x1), (2, .int x2), (3, .int x3), (4, .int x4)] → W p l e (th_rm 2 0 0) s m args below meth c H locs 0 0 (MQ below (va_Qi K (th_Post (dC, dI) (wM cs q) A) A) args s 0 0 A) (F0 m 10 ls [])) (x1 : Int32) (x2 : Int32) (x3 : Int32) (x4 : Int32) (z0 : Int32) (z1 : Int32) (u : th_St) (H : Heap) (locs : List Loc) (ls : Array Slot) (hf : M_holdsAt_159 K k10 x1 x2 x3 x4 z0 z1 u) (hw : th_wI (dC, dI) (wM cs q) A s.heap u H locs) (hl : lv_has ls 6 [(0, .ref (q 0)), (1, .int x1), (2, .int x2), (3, .int x3), (4, .int x4)]) : W p l e (th_rm 2 0 0) s m args below meth c H locs 0 0 (MQ below (va_Qi K (th_Post (dC, dI) (wM cs q) A) A) args s 0 0 A) (F0 m 159 ls [.int z0, .int z1, .ref (q 34)]) := by
  have hx := C.1
  have hb := C.2.1
  unfold M_holdsAt_159 at hf
  refine ms_34 C hw hf.1 dX12_holdsAt_159 (fun u_1 e9 H locs hw => ?_)
  replace hf := hf.2 u_1 e9
  clear e9
  refine lv_goto (tgt := 262) hx hb dX12_holdsAt_160 (by decide) ?_
  exact M_holdsAt_262_w C hk10 x1 x2 x3 x4 u_1 _ _ _ hf hw (lv_sub hl [0, 1, 2, 3, 4] rfl)
def M_holdsAt_130 (K : Int32 → th_St → Prop) (k10 : Int32 → Int32 → Int32 → Int32 → th_St → Prop) (x1 : Int32) (x2 : Int32) (x3 : Int32) (x4 : Int32) (z0 : Int32) (u : th_St) : Prop :=
  M_holdsAt_159 K k10 x1 x2 x3 x4 (0 : Int32) z0 u
set_option maxHeartbeats 4000000 in
set_option maxRecDepth 100000 in
theorem M_holdsAt_130_w {K : Int32 → th_St → Prop} {k10 : Int32 → Int32 → Int32 → Int32 → th_St → Prop} (C : th_Cx p s m args meth c cX12_holdsAt RX12 6 (some .boolean) (dC, dI) (th_ty cs) th_E0 A) (hk10 : ∀ (x1 : Int32) (x2 : Int32) (x3 : Int32) (x4 : Int32) (u : th_St) (H : Heap) (locs : List Loc) (ls : Array Slot), k10 x1 x2 x3 x4 u → th_wI (dC, dI) (wM cs q) A s.heap u H locs → lv_has ls 6 [(0, .ref (q 0)), (1, .int x1), (2, .int x2), (3, .int x3), (4, .int x4)] → W p l e (th_rm 2 0 0) s m args below meth c H locs 0 0 (MQ below (va_Qi K (th_Post (dC, dI) (wM cs q) A) A) args s 0 0 A) (F0 m 10 ls [])) (x1 : Int32) (x2 : Int32) (x3 : Int32) (x4 : Int32) (z0 : Int32) (u : th_St) (H : Heap) (locs : List Loc) (ls : Array Slot) (hf : M_holdsAt_130 K k10 x1 x2 x3 x4 z0 u) (hw : th_wI (dC, dI) (wM cs q) A s.heap u H locs) (hl : lv_has ls 6 [(0, .ref (q 0)), (1, .int x1), (2, .int x2), (3, .int x3), (4, .int x4)]) : W p l e (th_rm 2 0 0) s m args below meth c H locs 0 0 (MQ below (va_Qi K (th_Post (dC, dI) (wM cs q) A) A) args s 0 0 A) (F0 m 130 ls [.int z0, .ref (q 34)]) := by
  have hx := C.1
  have hb := C.2.1
  unfold M_holdsAt_130 at hf
  refine lv_iconst (v := (0 : Int32)) hx hb dX12_holdsAt_130 (by decide) ?_
  refine lv_goto (tgt := 159) hx hb dX12_holdsAt_131 (by decide) ?_
  exact M_holdsAt_159_w C hk10 x1 x2 x3 x4 (0 : Int32) z0 u _ _ _ hf hw (lv_sub hl [0, 1, 2, 3, 4] rfl)
def M_holdsAt_154 (K : Int32 → th_St → Prop) (k10 : Int32 → Int32 → Int32 → Int32 → th_St → Prop) (x1 : Int32) (x2 : Int32) (x3 : Int32) (x4 : Int32) (z0 : Int32) (u : th_St) : Prop :=
  M_holdsAt_159 K k10 x1 x2 x3 x4 (1 : Int32) z0 u
set_option maxHeartbeats 4000000 in
set_option maxRecDepth 100000 in
theorem M_holdsAt_154_w {K : Int32 → th_St → Prop} {k10 : Int32 → Int32 → Int32 → Int32 → th_St → Prop} (C : th_Cx p s m args meth c cX12_holdsAt RX12 6 (some .boolean) (dC, dI) (th_ty cs) th_E0 A) (hk10 : ∀ (x1 : Int32) (x2 : Int32) (x3 : Int32) (x4 : Int32) (u : th_St) (H : Heap) (locs : List Loc) (ls : Array Slot), k10 x1 x2 x3 x4 u → th_wI (dC, dI) (wM cs q) A s.heap u H locs → lv_has ls 6 [(0, .ref (q 0)), (1, .int x1), (2, .int x2), (3, .int x3), (4, .int x4)] → W p l e (th_rm 2 0 0) s m args below meth c H locs 0 0 (MQ below (va_Qi K (th_Post (dC, dI) (wM cs q) A) A) args s 0 0 A) (F0 m 10 ls [])) (x1 : Int32) (x2 : Int32) (x3 : Int32) (x4 : Int32) (z0 : Int32) (u : th_St) (H : Heap) (locs : List Loc) (ls : Array Slot) (hf : M_holdsAt_154 K k10 x1 x2 x3 x4 z0 u) (hw : th_wI (dC, dI) (wM cs q) A s.heap u H locs) (hl : lv_has ls 6 [(0, .ref (q 0)), (1, .int x1), (2, .int x2), (3, .int x3), (4, .int x4)]) : W p l e (th_rm 2 0 0) s m args below meth c H locs 0 0 (MQ below (va_Qi K (th_Post (dC, dI) (wM cs q) A) A) args s 0 0 A) (F0 m 154 ls [.int z0, .ref (q 34)]) := by
  have hx := C.1
  have hb := C.2.1
  unfold M_holdsAt_154 at hf
  refine lv_iconst (v := (1 : Int32)) hx hb dX12_holdsAt_154 (by decide) ?_
  refine lv_goto (tgt := 159) hx hb dX12_holdsAt_155 (by decide) ?_
  exact M_holdsAt_159_w C hk10 x1 x2 x3 x4 (1 : Int32) z0 u _ _ _ hf hw (lv_sub hl [0, 1, 2, 3, 4] rfl)
def M_holdsAt_84 (K : Int32 → th_St → Prop) (k10 : Int32 → Int32 → Int32 → Int32 → th_St → Prop) (x1 : Int32) (x2 : Int32) (x3 : Int32) (x4 : Int32) (u : th_St) : Prop :=
  ∀ x3_1 : Int32, x3_1 = x3 + (-1 : Int32) → (vp_in x4 400 ∧ ∀ y_2 : Int32, y_2 = u.2.2.1 16 (x4).toNatClampNeg → ((¬ y_2 = (11 : Int32) → (vp_in (x3_1 - (1 : Int32)) 60 ∧ ∀ y_3 : Int32, y_3 = u.2.2.1 34 ((x3_1 - (1 : Int32))).toNatClampNeg → ((¬ y_3 = 0 → M_holdsAt_154 K k10 x1 x2 x3_1 x4 (x3_1 - (1 : Int32)) u) ∧ (y_3 = 0 → (vp_in x3_1 60 ∧ ∀ y_4 : Int32, y_4 = u.2.2.1 34 (x3_1).toNatClampNeg → ((y_4 = 0 → M_holdsAt_159 K k10 x1 x2 x3_1 x4 (0 : Int32) (x3_1 - (1 : Int32)) u) ∧ (¬ y_4 = 0 → M_holdsAt_154 K k10 x1 x2 x3_1 x4 (x3_1 - (1 : Int32)) u))))))) ∧ (y_2 = (11 : Int32) → (vp_in (x3_1 - (1 : Int32)) 60 ∧ ∀ y_5 : Int32, y_5 = u.2.2.1 34 ((x3_1 - (1 : Int32))).toNatClampNeg → ((y_5 = 0 → M_holdsAt_130 K k10 x1 x2 x3_1 x4 (x3_1 - (1 : Int32)) u) ∧ (¬ y_5 = 0 → (vp_in x3_1 60 ∧ ∀ y_6 : Int32, y_6 = u.2.2.1 34 (x3_1).toNatClampNeg → ((y_6 = 0 → M_holdsAt_130 K k10 x1 x2 x3_1 x4 (x3_1 - (1 : Int32)) u) ∧ (¬ y_6 = 0 → M_holdsAt_159 K k10 x1 x2 x3_1 x4 (1 : Int32) (x3_1 - (1 : Int32)) u)))))))))
set_option maxHeartbeats 4000000 in
set_option maxRecDepth 100000 in
theorem M_holdsAt_84_w {K : Int32 → th_St → Prop} {k10 : Int32 → Int32 → Int32 → Int32 → th_St → Prop} (C : th_Cx p s m args meth c cX12_holdsAt RX12 6 (some .boolean) (dC, dI) (th_ty cs) th_E0 A) (hk10 : ∀ (x1 : Int32) (x2 : Int32) (x3 : Int32) (x4 : Int32) (u : th_St) (H : Heap) (locs : List Loc) (ls : Array Slot), k10 x1 x2 x3 x4 u → th_wI (dC, dI) (wM cs q) A s.heap u H locs → lv_has ls 6 [(0, .ref (q 0)), (1, .int x1), (2, .int x2), (3, .int x3), (4, .int x4)] → W p l e (th_rm 2 0 0) s m args below meth c H locs 0 0 (MQ below (va_Qi K (th_Post (dC, dI) (wM cs q) A) A) args s 0 0 A) (F0 m 10 ls [])) (x1 : Int32) (x2 : Int32) (x3 : Int32) (x4 : Int32) (u : th_St) (H : Heap) (locs : List Loc) (ls : Array Slot) (hf : M_holdsAt_84 K k10 x1 x2 x3 x4 u) (hw : th_wI (dC, dI) (wM cs q) A s.heap u H locs) (hl : lv_has ls 6 [(0, .ref (q 0)), (1, .int x1), (2, .int x2), (3, .int x3), (4, .int x4)]) : W p l e (th_rm 2 0 0) s m args below meth c H locs 0 0 (MQ below (va_Qi K (th_Post (dC, dI) (wM cs q) A) A) args s 0 0 A) (F0 m 84 ls []) := by
  have hx := C.1
  have hb := C.2.1
  unfold M_holdsAt_84 at hf
  obtain ⟨x3_1, e9⟩ : ∃ y : Int32, y = x3 + (-1 : Int32) := ⟨_, rfl⟩
  replace hf := hf x3_1 e9
  refine lv_iinc (v := x3_1) (lv' := [(3, .int x3_1), (0, .ref (q 0)), (1, .int x1), (2, .int x2), (4, .int x4)]) hx hb dX12_holdsAt_84 hl (k := 3) rfl (by rw [e9]; rfl) (by decide) rfl (fun ls hl => ?_)
  clear e9
  refine lv_aload_n hx hb dX12_holdsAt_87 rfl (lv_at hl 1 rfl) ?_
  refine mg_34 C hw dX12_holdsAt_88 ?_
  refine lv_iload_n hx hb dX12_holdsAt_91 rfl (lv_at hl 0 rfl) ?_
  refine lv_iconst (v := (1 : Int32)) hx hb dX12_holdsAt_92 (by decide) ?_
  refine lv_isub hx hb dX12_holdsAt_93 ?_
  refine lv_aload_n hx hb dX12_holdsAt_94 rfl (lv_at hl 1 rfl) ?_
  refine mg_16 C hw dX12_holdsAt_95 ?_
  refine lv_iload hx hb dX12_holdsAt_98 (lv_at hl 4 rfl) ?_
  refine ml_16 C hw hf.1 dX12_holdsAt_100 (fun y_2 e9 => ?_)
  replace hf := hf.2 y_2 e9
  clear e9
  refine lv_bipush (v := (11 : Int32)) hx hb dX12_holdsAt_101 (by decide) ?_
  refine lv_icmp_ne (tgt := 134) hx hb dX12_holdsAt_103 (by decide) (fun hc => ?_) (fun hc => ?_)
  · replace hf := hf.1 hc
    clear hc
    refine lv_aload_n hx hb dX12_holdsAt_134 rfl (lv_at hl 1 rfl) ?_
    refine mg_34 C hw dX12_holdsAt_135 ?_
    refine lv_iload_n hx hb dX12_holdsAt_138 rfl (lv_at hl 0 rfl) ?_
    refine lv_iconst (v := (1 : Int32)) hx hb dX12_holdsAt_139 (by decide) ?_
    refine lv_isub hx hb dX12_holdsAt_140 ?_
    refine ml_34 C hw hf.1 dX12_holdsAt_141 (fun y_3 e9 => ?_)
    replace hf := hf.2 y_3 e9
    clear e9
    refine lv_if_ne (tgt := 154) hx hb dX12_holdsAt_142 (by decide) (fun hc => ?_) (fun hc => ?_)
    · replace hf := hf.1 hc
      clear hc
      exact M_holdsAt_154_w C hk10 x1 x2 x3_1 x4 (x3_1 - (1 : Int32)) u _ _ _ hf hw (lv_sub hl [1, 2, 3, 0, 4] rfl)
    · replace hf := hf.2 hc
      clear hc
      refine lv_aload_n hx hb dX12_holdsAt_145 rfl (lv_at hl 1 rfl) ?_
      refine mg_34 C hw dX12_holdsAt_146 ?_
      refine lv_iload_n hx hb dX12_holdsAt_149 rfl (lv_at hl 0 rfl) ?_
      refine ml_34 C hw hf.1 dX12_holdsAt_150 (fun y_4 e9 => ?_)
      replace hf := hf.2 y_4 e9
      clear e9
      refine lv_if_eq (tgt := 158) hx hb dX12_holdsAt_151 (by decide) (fun hc => ?_) (fun hc => ?_)
      · replace hf := hf.1 hc
        clear hc
        refine lv_iconst (v := (0 : Int32)) hx hb dX12_holdsAt_158 (by decide) ?_
        exact M_holdsAt_159_w C hk10 x1 x2 x3_1 x4 (0 : Int32) (x3_1 - (1 : Int32)) u _ _ _ hf hw (lv_sub hl [1, 2, 3, 0, 4] rfl)
      · replace hf := hf.2 hc
        clear hc
        exact M_holdsAt_154_w C hk10 x1 x2 x3_1 x4 (x3_1 - (1 : Int32)) u _ _ _ hf hw (lv_sub hl [1, 2, 3, 0, 4] rfl)
  · replace hf := hf.2 hc
    clear hc
    refine lv_aload_n hx hb dX12_holdsAt_106 rfl (lv_at hl 1 rfl) ?_
    refine mg_34 C hw dX12_holdsAt_107 ?_
    refine lv_iload_n hx hb dX12_holdsAt_110 rfl (lv_at hl 0 rfl) ?_
    refine lv_iconst (v := (1 : Int32)) hx hb dX12_holdsAt_111 (by decide) ?_
    refine lv_isub hx hb dX12_holdsAt_112 ?_
    refine ml_34 C hw hf.1 dX12_holdsAt_113 (fun y_5 e9 => ?_)
    replace hf := hf.2 y_5 e9
    clear e9
    refine lv_if_eq (tgt := 130) hx hb dX12_holdsAt_114 (by decide) (fun hc => ?_) (fun hc => ?_)
    · replace hf := hf.1 hc
      clear hc
      exact M_holdsAt_130_w C hk10 x1 x2 x3_1 x4 (x3_1 - (1 : Int32)) u _ _ _ hf hw (lv_sub hl [1, 2, 3, 0, 4] rfl)
    · replace hf := hf.2 hc
      clear hc
      refine lv_aload_n hx hb dX12_holdsAt_117 rfl (lv_at hl 1 rfl) ?_
      refine mg_34 C hw dX12_holdsAt_118 ?_
      refine lv_iload_n hx hb dX12_holdsAt_121 rfl (lv_at hl 0 rfl) ?_
      refine ml_34 C hw hf.1 dX12_holdsAt_122 (fun y_6 e9 => ?_)
      replace hf := hf.2 y_6 e9
      clear e9
      refine lv_if_eq (tgt := 130) hx hb dX12_holdsAt_123 (by decide) (fun hc => ?_) (fun hc => ?_)
      · replace hf := hf.1 hc
        clear hc
        exact M_holdsAt_130_w C hk10 x1 x2 x3_1 x4 (x3_1 - (1 : Int32)) u _ _ _ hf hw (lv_sub hl [1, 2, 3, 0, 4] rfl)
      · replace hf := hf.2 hc
        clear hc
        refine lv_iconst (v := (1 : Int32)) hx hb dX12_holdsAt_126 (by decide) ?_
        refine lv_goto (tgt := 159) hx hb dX12_holdsAt_127 (by decide) ?_
        exact M_holdsAt_159_w C hk10 x1 x2 x3_1 x4 (1 : Int32) (x3_1 - (1 : Int32)) u _ _ _ hf hw (lv_sub hl [1, 2, 3, 0, 4] rfl)
def M_holdsAt_258 (K : Int32 → th_St → Prop) (k10 : Int32 → Int32 → Int32 → Int32 → th_St → Prop) (x1 : Int32) (x2 : Int32) (x3 : Int32) (x4 : Int32) (z0 : Int32) (z1 : Int32) (u : th_St) : Prop :=
  (vp_in z1 60 ∧ ∀ u_1 : th_St, u_1 = th_sa u 34 (upd (u.2.2.1 34) (z1).toNatClampNeg (vp_nar .boolean z0)) → ∀ x3_2 : Int32, x3_2 = x3 + (1 : Int32) → M_holdsAt_262 K k10 x1 x2 x3_2 x4 u_1)
set_option maxHeartbeats 4000000 in
set_option maxRecDepth 100000 in
theorem M_holdsAt_258_w {K : Int32 → th_St → Prop} {k10 : Int32 → Int32 → Int32 → Int32 → th_St → Prop} (C : th_Cx p s m args meth c cX12_holdsAt RX12 6 (some .boolean) (dC, dI) (th_ty cs) th_E0 A) (hk10 : ∀ (x1 : Int32) (x2 : Int32) (x3 : Int32) (x4 : Int32) (u : th_St) (H : Heap) (locs : List Loc) (ls : Array Slot), k10 x1 x2 x3 x4 u → th_wI (dC, dI) (wM cs q) A s.heap u H locs → lv_has ls 6 [(0, .ref (q 0)), (1, .int x1), (2, .int x2), (3, .int x3), (4, .int x4)] → W p l e (th_rm 2 0 0) s m args below meth c H locs 0 0 (MQ below (va_Qi K (th_Post (dC, dI) (wM cs q) A) A) args s 0 0 A) (F0 m 10 ls [])) (x1 : Int32) (x2 : Int32) (x3 : Int32) (x4 : Int32) (z0 : Int32) (z1 : Int32) (u : th_St) (H : Heap) (locs : List Loc) (ls : Array Slot) (hf : M_holdsAt_258 K k10 x1 x2 x3 x4 z0 z1 u) (hw : th_wI (dC, dI) (wM cs q) A s.heap u H locs) (hl : lv_has ls 6 [(0, .ref (q 0)), (1, .int x1), (2, .int x2), (3, .int x3), (4, .int x4)]) : W p l e (th_rm 2 0 0) s m args below meth c H locs 0 0 (MQ below (va_Qi K (th_Post (dC, dI) (wM cs q) A) A) args s 0 0 A) (F0 m 258 ls [.int z0, .int z1, .ref (q 34)]) := by
  have hx := C.1
  have hb := C.2.1
  unfold M_holdsAt_258 at hf
  refine ms_34 C hw hf.1 dX12_holdsAt_258 (fun u_1 e9 H locs hw => ?_)
  replace hf := hf.2 u_1 e9
  clear e9
  obtain ⟨x3_2, e9⟩ : ∃ y : Int32, y = x3 + (1 : Int32) := ⟨_, rfl⟩
  replace hf := hf x3_2 e9
  refine lv_iinc (v := x3_2) (lv' := [(3, .int x3_2), (0, .ref (q 0)), (1, .int x1), (2, .int x2), (4, .int x4)]) hx hb dX12_holdsAt_259 hl (k := 3) rfl (by rw [e9]; rfl) (by decide) rfl (fun ls hl => ?_)
  clear e9
  exact M_holdsAt_262_w C hk10 x1 x2 x3_2 x4 u_1 _ _ _ hf hw (lv_sub hl [1, 2, 3, 0, 4] rfl)
def M_holdsAt_10 (K : Int32 → th_St → Prop) (k10 : Int32 → Int32 → Int32 → Int32 → th_St → Prop) (x1 : Int32) (x2 : Int32) (x3 : Int32) (x4 : Int32) (u : th_St) : Prop :=
  (vp_in x1 12 ∧ ∀ y_1 : Int32, y_1 = u.2.2.1 9 (x1).toNatClampNeg → ((y_1 ≤ x4 → (vp_in (0 : Int32) 60 ∧ ∀ y_2 : Int32, y_2 = u.2.2.1 34 ((0 : Int32)).toNatClampNeg → ((y_2 = 0 ∨ y_2 = 1) ∧ K y_2 u))) ∧ (¬ y_1 ≤ x4 → (vp_in x4 400 ∧ ∀ y_3 : Int32, y_3 = u.2.2.1 16 (x4).toNatClampNeg → ((¬ y_3 = (10 : Int32) → (vp_in x4 400 ∧ ∀ y_4 : Int32, y_4 = u.2.2.1 16 (x4).toNatClampNeg → ((y_4 = (11 : Int32) → M_holdsAt_84 K k10 x1 x2 x3 x4 u) ∧ (¬ y_4 = (11 : Int32) → (vp_in x4 400 ∧ ∀ y_5 : Int32, y_5 = u.2.2.1 16 (x4).toNatClampNeg → ((¬ y_5 = (12 : Int32) → M_asks x4 x2 u (fun r_7 u_6 => (vp_in x4 400 ∧ ∀ y_8 : Int32, y_8 = u_6.2.2.1 17 (x4).toNatClampNeg → ((¬ y_8 = (60 : Int32) → (vp_in x4 400 ∧ ∀ y_9 : Int32, y_9 = u_6.2.2.1 17 (x4).toNatClampNeg → ((¬ y_9 = (61 : Int32) → (vp_in x4 400 ∧ ∀ y_10 : Int32, y_10 = u_6.2.2.1 18 (x4).toNatClampNeg → ((r_7 ≤ y_10 → M_holdsAt_258 K k10 x1 x2 x3 x4 (0 : Int32) x3 u_6) ∧ (¬ r_7 ≤ y_10 → M_holdsAt_258 K k10 x1 x2 x3 x4 (1 : Int32) x3 u_6)))) ∧ (y_9 = (61 : Int32) → (vp_in x4 400 ∧ ∀ y_11 : Int32, y_11 = u_6.2.2.1 18 (x4).toNatClampNeg → ((¬ r_7 = y_11 → M_holdsAt_258 K k10 x1 x2 x3 x4 (0 : Int32) x3 u_6) ∧ (r_7 = y_11 → M_holdsAt_258 K k10 x1 x2 x3 x4 (1 : Int32) x3 u_6))))))) ∧ (y_8 = (60 : Int32) → (vp_in x4 400 ∧ ∀ y_12 : Int32, y_12 = u_6.2.2.1 18 (x4).toNatClampNeg → ((y_12 ≤ r_7 → M_holdsAt_258 K k10 x1 x2 x3 x4 (0 : Int32) x3 u_6) ∧ (¬ y_12 ≤ r_7 → M_holdsAt_258 K k10 x1 x2 x3 x4 (1 : Int32) x3 u_6)))))))) ∧ (y_5 = (12 : Int32) → M_holdsAt_84 K k10 x1 x2 x3 x4 u))))))) ∧ (y_3 = (10 : Int32) → (vp_in (x3 - (1 : Int32)) 60 ∧ ∀ y_13 : Int32, y_13 = u.2.2.1 34 ((x3 - (1 : Int32))).toNatClampNeg → ((¬ y_13 = 0 → M_holdsAt_56 K k10 x1 x2 x3 x4 (0 : Int32) (x3 - (1 : Int32)) u) ∧ (y_13 = 0 → M_holdsAt_56 K k10 x1 x2 x3 x4 (1 : Int32) (x3 - (1 : Int32)) u)))))))))
set_option maxHeartbeats 4000000 in
set_option maxRecDepth 100000 in
theorem M_holdsAt_10_w {K : Int32 → th_St → Prop} {k10 : Int32 → Int32 → Int32 → Int32 → th_St → Prop} (C : th_Cx p s m args meth c cX12_holdsAt RX12 6 (some .boolean) (dC, dI) (th_ty cs) th_E0 A) (hk10 : ∀ (x1 : Int32) (x2 : Int32) (x3 : Int32) (x4 : Int32) (u : th_St) (H : Heap) (locs : List Loc) (ls : Array Slot), k10 x1 x2 x3 x4 u → th_wI (dC, dI) (wM cs q) A s.heap u H locs → lv_has ls 6 [(0, .ref (q 0)), (1, .int x1), (2, .int x2), (3, .int x3), (4, .int x4)] → W p l e (th_rm 2 0 0) s m args below meth c H locs 0 0 (MQ below (va_Qi K (th_Post (dC, dI) (wM cs q) A) A) args s 0 0 A) (F0 m 10 ls [])) (x1 : Int32) (x2 : Int32) (x3 : Int32) (x4 : Int32) (u : th_St) (H : Heap) (locs : List Loc) (ls : Array Slot) (hf : M_holdsAt_10 K k10 x1 x2 x3 x4 u) (hw : th_wI (dC, dI) (wM cs q) A s.heap u H locs) (hl : lv_has ls 6 [(0, .ref (q 0)), (1, .int x1), (2, .int x2), (3, .int x3), (4, .int x4)]) : W p l e (th_rm 2 0 0) s m args below meth c H locs 0 0 (MQ below (va_Qi K (th_Post (dC, dI) (wM cs q) A) A) args s 0 0 A) (F0 m 10 ls []) := by
  have hx := C.1
  have hb := C.2.1
  unfold M_holdsAt_10 at hf
  refine lv_iload hx hb dX12_holdsAt_10 (lv_at hl 4 rfl) ?_
  refine lv_aload_n hx hb dX12_holdsAt_12 rfl (lv_at hl 0 rfl) ?_
  refine mg_9 C hw dX12_holdsAt_13 ?_
  refine lv_iload_n hx hb dX12_holdsAt_16 rfl (lv_at hl 1 rfl) ?_
  refine ml_9 C hw hf.1 dX12_holdsAt_17 (fun y_1 e9 => ?_)
  replace hf := hf.2 y_1 e9
  clear e9
  refine lv_icmp_ge (tgt := 268) hx hb dX12_holdsAt_18 (by decide) (fun hc => ?_) (fun hc => ?_)
  · replace hf := hf.1 hc
    clear hc
    refine lv_aload_n hx hb dX12_holdsAt_268 rfl (lv_at hl 0 rfl) ?_
    refine mg_34 C hw dX12_holdsAt_269 ?_
    refine lv_iconst (v := (0 : Int32)) hx hb dX12_holdsAt_272 (by decide) ?_
    refine ml_34 C hw hf.1 dX12_holdsAt_273 (fun y_2 e9 => ?_)
    replace hf := hf.2 y_2 e9
    clear e9
    exact th_zret C hw hf dX12_holdsAt_274
  · replace hf := hf.2 hc
    clear hc
    refine lv_aload_n hx hb dX12_holdsAt_21 rfl (lv_at hl 0 rfl) ?_
    refine mg_16 C hw dX12_holdsAt_22 ?_
    refine lv_iload hx hb dX12_holdsAt_25 (lv_at hl 4 rfl) ?_
    refine ml_16 C hw hf.1 dX12_holdsAt_27 (fun y_3 e9 => ?_)
    replace hf := hf.2 y_3 e9
    clear e9
    refine lv_bipush (v := (10 : Int32)) hx hb dX12_holdsAt_28 (by decide) ?_
    refine lv_icmp_ne (tgt := 60) hx hb dX12_holdsAt_30 (by decide) (fun hc => ?_) (fun hc => ?_)
    · replace hf := hf.1 hc
      clear hc
      refine lv_aload_n hx hb dX12_holdsAt_60 rfl (lv_at hl 0 rfl) ?_
      refine mg_16 C hw dX12_holdsAt_61 ?_
      refine lv_iload hx hb dX12_holdsAt_64 (lv_at hl 4 rfl) ?_
      refine ml_16 C hw hf.1 dX12_holdsAt_66 (fun y_4 e9 => ?_)
      replace hf := hf.2 y_4 e9
      clear e9
      refine lv_bipush (v := (11 : Int32)) hx hb dX12_holdsAt_67 (by decide) ?_
      refine lv_icmp_eq (tgt := 84) hx hb dX12_holdsAt_69 (by decide) (fun hc => ?_) (fun hc => ?_)
      · replace hf := hf.1 hc
        clear hc
        exact M_holdsAt_84_w C hk10 x1 x2 x3 x4 u _ _ _ hf hw (lv_sub hl [0, 1, 2, 3, 4] rfl)
      · replace hf := hf.2 hc
        clear hc
        refine lv_aload_n hx hb dX12_holdsAt_72 rfl (lv_at hl 0 rfl) ?_
        refine mg_16 C hw dX12_holdsAt_73 ?_
        refine lv_iload hx hb dX12_holdsAt_76 (lv_at hl 4 rfl) ?_
        refine ml_16 C hw hf.1 dX12_holdsAt_78 (fun y_5 e9 => ?_)
        replace hf := hf.2 y_5 e9
        clear e9
        refine lv_bipush (v := (12 : Int32)) hx hb dX12_holdsAt_79 (by decide) ?_
        refine lv_icmp_ne (tgt := 163) hx hb dX12_holdsAt_81 (by decide) (fun hc => ?_) (fun hc => ?_)
        · replace hf := hf.1 hc
          clear hc
          refine lv_aload_n hx hb dX12_holdsAt_163 rfl (lv_at hl 0 rfl) ?_
          refine lv_iload hx hb dX12_holdsAt_164 (lv_at hl 4 rfl) ?_
          refine lv_iload_n hx hb dX12_holdsAt_166 rfl (lv_at hl 2 rfl) ?_
          refine th_callVi (As := [.int x4, .int x2]) (rest := []) C lkX12_350 (M_asks_c hf) hw (mRc C hw) rfl rfl ⟨Nat.le_of_ble_eq_true rfl, Nat.le_of_ble_eq_true rfl⟩ hl.1 (Nat.le_of_ble_eq_true rfl) ⟨Nat.le_refl _, Nat.le_refl _⟩ dX12_holdsAt_167 (fun r_7 u_6 H locs hf hw => ?_)
          refine lv_istore (lv' := [(5, .int r_7), (0, .ref (q 0)), (1, .int x1), (2, .int x2), (3, .int x3), (4, .int x4)]) hx hb dX12_holdsAt_170 hl (by decide) rfl (fun ls hl => ?_)
          refine lv_aload_n hx hb dX12_holdsAt_172 rfl (lv_at hl 1 rfl) ?_
          refine mg_34 C hw dX12_holdsAt_173 ?_
          refine lv_iload_n hx hb dX12_holdsAt_176 rfl (lv_at hl 4 rfl) ?_
          refine lv_aload_n hx hb dX12_holdsAt_177 rfl (lv_at hl 1 rfl) ?_
          refine mg_17 C hw dX12_holdsAt_178 ?_
          refine lv_iload hx hb dX12_holdsAt_181 (lv_at hl 5 rfl) ?_
          refine ml_17 C hw hf.1 dX12_holdsAt_183 (fun y_8 e9 => ?_)
          replace hf := hf.2 y_8 e9
          clear e9
          refine lv_bipush (v := (60 : Int32)) hx hb dX12_holdsAt_184 (by decide) ?_
          refine lv_icmp_ne (tgt := 209) hx hb dX12_holdsAt_186 (by decide) (fun hc => ?_) (fun hc => ?_)
          · replace hf := hf.1 hc
            clear hc
            refine lv_aload_n hx hb dX12_holdsAt_209 rfl (lv_at hl 1 rfl) ?_
            refine mg_17 C hw dX12_holdsAt_210 ?_
            refine lv_iload hx hb dX12_holdsAt_213 (lv_at hl 5 rfl) ?_
            refine ml_17 C hw hf.1 dX12_holdsAt_215 (fun y_9 e9 => ?_)
            replace hf := hf.2 y_9 e9
            clear e9
            refine lv_bipush (v := (61 : Int32)) hx hb dX12_holdsAt_216 (by decide) ?_
            refine lv_icmp_ne (tgt := 241) hx hb dX12_holdsAt_218 (by decide) (fun hc => ?_) (fun hc => ?_)
            · replace hf := hf.1 hc
              clear hc
              refine lv_iload hx hb dX12_holdsAt_241 (lv_at hl 0 rfl) ?_
              refine lv_aload_n hx hb dX12_holdsAt_243 rfl (lv_at hl 1 rfl) ?_
              refine mg_18 C hw dX12_holdsAt_244 ?_
              refine lv_iload hx hb dX12_holdsAt_247 (lv_at hl 5 rfl) ?_
              refine ml_18 C hw hf.1 dX12_holdsAt_249 (fun y_10 e9 => ?_)
              replace hf := hf.2 y_10 e9
              clear e9
              refine lv_icmp_le (tgt := 257) hx hb dX12_holdsAt_250 (by decide) (fun hc => ?_) (fun hc => ?_)
              · replace hf := hf.1 hc
                clear hc
                refine lv_iconst (v := (0 : Int32)) hx hb dX12_holdsAt_257 (by decide) ?_
                exact M_holdsAt_258_w C hk10 x1 x2 x3 x4 (0 : Int32) x3 u_6 _ _ _ hf hw (lv_sub hl [1, 2, 3, 4, 5] rfl)
              · replace hf := hf.2 hc
                clear hc
                refine lv_iconst (v := (1 : Int32)) hx hb dX12_holdsAt_253 (by decide) ?_
                refine lv_goto (tgt := 258) hx hb dX12_holdsAt_254 (by decide) ?_
                exact M_holdsAt_258_w C hk10 x1 x2 x3 x4 (1 : Int32) x3 u_6 _ _ _ hf hw (lv_sub hl [1, 2, 3, 4, 5] rfl)
            · replace hf := hf.2 hc
              clear hc
              refine lv_iload hx hb dX12_holdsAt_221 (lv_at hl 0 rfl) ?_
              refine lv_aload_n hx hb dX12_holdsAt_223 rfl (lv_at hl 1 rfl) ?_
              refine mg_18 C hw dX12_holdsAt_224 ?_
              refine lv_iload hx hb dX12_holdsAt_227 (lv_at hl 5 rfl) ?_
              refine ml_18 C hw hf.1 dX12_holdsAt_229 (fun y_11 e9 => ?_)
              replace hf := hf.2 y_11 e9
              clear e9
              refine lv_icmp_ne (tgt := 237) hx hb dX12_holdsAt_230 (by decide) (fun hc => ?_) (fun hc => ?_)
              · replace hf := hf.1 hc
                clear hc
                refine lv_iconst (v := (0 : Int32)) hx hb dX12_holdsAt_237 (by decide) ?_
                refine lv_goto (tgt := 258) hx hb dX12_holdsAt_238 (by decide) ?_
                exact M_holdsAt_258_w C hk10 x1 x2 x3 x4 (0 : Int32) x3 u_6 _ _ _ hf hw (lv_sub hl [1, 2, 3, 4, 5] rfl)
              · replace hf := hf.2 hc
                clear hc
                refine lv_iconst (v := (1 : Int32)) hx hb dX12_holdsAt_233 (by decide) ?_
                refine lv_goto (tgt := 258) hx hb dX12_holdsAt_234 (by decide) ?_
                exact M_holdsAt_258_w C hk10 x1 x2 x3 x4 (1 : Int32) x3 u_6 _ _ _ hf hw (lv_sub hl [1, 2, 3, 4, 5] rfl)
          · replace hf := hf.2 hc
            clear hc
            refine lv_iload hx hb dX12_holdsAt_189 (lv_at hl 0 rfl) ?_
            refine lv_aload_n hx hb dX12_holdsAt_191 rfl (lv_at hl 1 rfl) ?_
            refine mg_18 C hw dX12_holdsAt_192 ?_
            refine lv_iload hx hb dX12_holdsAt_195 (lv_at hl 5 rfl) ?_
            refine ml_18 C hw hf.1 dX12_holdsAt_197 (fun y_12 e9 => ?_)
            replace hf := hf.2 y_12 e9
            clear e9
            refine lv_icmp_ge (tgt := 205) hx hb dX12_holdsAt_198 (by decide) (fun hc => ?_) (fun hc => ?_)
            · replace hf := hf.1 hc
              clear hc
              refine lv_iconst (v := (0 : Int32)) hx hb dX12_holdsAt_205 (by decide) ?_
              refine lv_goto (tgt := 258) hx hb dX12_holdsAt_206 (by decide) ?_
              exact M_holdsAt_258_w C hk10 x1 x2 x3 x4 (0 : Int32) x3 u_6 _ _ _ hf hw (lv_sub hl [1, 2, 3, 4, 5] rfl)
            · replace hf := hf.2 hc
              clear hc
              refine lv_iconst (v := (1 : Int32)) hx hb dX12_holdsAt_201 (by decide) ?_
              refine lv_goto (tgt := 258) hx hb dX12_holdsAt_202 (by decide) ?_
              exact M_holdsAt_258_w C hk10 x1 x2 x3 x4 (1 : Int32) x3 u_6 _ _ _ hf hw (lv_sub hl [1, 2, 3, 4, 5] rfl)
        · replace hf := hf.2 hc
          clear hc
          exact M_holdsAt_84_w C hk10 x1 x2 x3 x4 u _ _ _ hf hw (lv_sub hl [0, 1, 2, 3, 4] rfl)
    · replace hf := hf.2 hc
      clear hc
      refine lv_aload_n hx hb dX12_holdsAt_33 rfl (lv_at hl 0 rfl) ?_
      refine mg_34 C hw dX12_holdsAt_34 ?_
      refine lv_iload_n hx hb dX12_holdsAt_37 rfl (lv_at hl 3 rfl) ?_
      refine lv_iconst (v := (1 : Int32)) hx hb dX12_holdsAt_38 (by decide) ?_
      refine lv_isub hx hb dX12_holdsAt_39 ?_
      refine lv_aload_n hx hb dX12_holdsAt_40 rfl (lv_at hl 0 rfl) ?_
      refine mg_34 C hw dX12_holdsAt_41 ?_
      refine lv_iload_n hx hb dX12_holdsAt_44 rfl (lv_at hl 3 rfl) ?_
      refine lv_iconst (v := (1 : Int32)) hx hb dX12_holdsAt_45 (by decide) ?_
      refine lv_isub hx hb dX12_holdsAt_46 ?_
      refine ml_34 C hw hf.1 dX12_holdsAt_47 (fun y_13 e9 => ?_)
      replace hf := hf.2 y_13 e9
      clear e9
      refine lv_if_ne (tgt := 55) hx hb dX12_holdsAt_48 (by decide) (fun hc => ?_) (fun hc => ?_)
      · replace hf := hf.1 hc
        clear hc
        refine lv_iconst (v := (0 : Int32)) hx hb dX12_holdsAt_55 (by decide) ?_
        exact M_holdsAt_56_w C hk10 x1 x2 x3 x4 (0 : Int32) (x3 - (1 : Int32)) u _ _ _ hf hw (lv_sub hl [0, 1, 2, 3, 4] rfl)
      · replace hf := hf.2 hc
        clear hc
        refine lv_iconst (v := (1 : Int32)) hx hb dX12_holdsAt_51 (by decide) ?_
        refine lv_goto (tgt := 56) hx hb dX12_holdsAt_52 (by decide) ?_
        exact M_holdsAt_56_w C hk10 x1 x2 x3 x4 (1 : Int32) (x3 - (1 : Int32)) u _ _ _ hf hw (lv_sub hl [0, 1, 2, 3, 4] rfl)
def M_holdsAt_10_lp (K : Int32 → th_St → Prop) : Nat → Int32 → Int32 → Int32 → Int32 → th_St → Prop
  | 0, _, _, _, _, _ => False
  | n + 1, x1, x2, x3, x4, u => M_holdsAt_10 K (M_holdsAt_10_lp K n) x1 x2 x3 x4 u
set_option maxHeartbeats 4000000 in
set_option maxRecDepth 100000 in
theorem M_holdsAt_10_lw {K : Int32 → th_St → Prop} (C : th_Cx p s m args meth c cX12_holdsAt RX12 6 (some .boolean) (dC, dI) (th_ty cs) th_E0 A) (n : Nat) : ∀ (x1 : Int32) (x2 : Int32) (x3 : Int32) (x4 : Int32) (u : th_St) (H : Heap) (locs : List Loc) (ls : Array Slot), M_holdsAt_10_lp K n x1 x2 x3 x4 u → th_wI (dC, dI) (wM cs q) A s.heap u H locs → lv_has ls 6 [(0, .ref (q 0)), (1, .int x1), (2, .int x2), (3, .int x3), (4, .int x4)] → W p l e (th_rm 2 0 0) s m args below meth c H locs 0 0 (MQ below (va_Qi K (th_Post (dC, dI) (wM cs q) A) A) args s 0 0 A) (F0 m 10 ls []) := by
  induction n with
  | zero => intro x1 x2 x3 x4 u H locs ls hf; exact hf.elim
  | succ n ih =>
    intro x1 x2 x3 x4 u H locs ls hf hw hl
    exact M_holdsAt_10_w C ih x1 x2 x3 x4 u H locs ls hf hw hl
def M_holdsAt (a1 : Int32) (a2 : Int32) (u : th_St) (K : Int32 → th_St → Prop) : Prop :=
  (vp_in a1 12 ∧ ∀ y_1 : Int32, y_1 = u.2.2.1 8 (a1).toNatClampNeg → ∃ n, M_holdsAt_10_lp K n a1 a2 (0 : Int32) y_1 u)
set_option maxHeartbeats 4000000 in
set_option maxRecDepth 100000 in
theorem M_holdsAt_c {l : Launch} {dC : Nat → ClassId} {dI : Nat → Nat → Nat} {cs : Nat → ClassId} {q : Nat → Nat} {a1 : Int32} {a2 : Int32} {u : th_St} {K : Int32 → th_St → Prop} (hf : M_holdsAt a1 a2 u K) : th_Ci l yX12_holdsAt cX12_holdsAt 6 (some .boolean) 2 0 0 (dC, dI) (th_ty cs) th_E0 (wM cs q) [.ref (q 0), .int a1, .int a2] u K := by
  refine th_ofi (by decide) (Nat.le_of_ble_eq_true rfl) th_E0_ok ?_
  intro p e s m below meth c A ls C hw hl
  have C : th_Cx p s m _ meth c cX12_holdsAt RX12 6 (some .boolean) (dC, dI) (th_ty cs) th_E0 A := C
  have hl : lv_has ls 6 [(0, .ref (q 0)), (1, .int a1), (2, .int a2)] := hl
  generalize (List.toArray _ : Array Value) = args at C ⊢
  have hx := C.1
  have hb := C.2.1
  unfold M_holdsAt at hf
  refine lv_iconst (v := (0 : Int32)) hx hb dX12_holdsAt_0 (by decide) ?_
  refine lv_istore_n (lv' := [(3, .int (0 : Int32)), (0, .ref (q 0)), (1, .int a1), (2, .int a2)]) hx hb dX12_holdsAt_1 rfl hl (by decide) rfl (fun ls hl => ?_)
  refine lv_aload_n hx hb dX12_holdsAt_2 rfl (lv_at hl 1 rfl) ?_
  refine mg_8 C hw dX12_holdsAt_3 ?_
  refine lv_iload_n hx hb dX12_holdsAt_6 rfl (lv_at hl 2 rfl) ?_
  refine ml_8 C hw hf.1 dX12_holdsAt_7 (fun y_1 e9 => ?_)
  replace hf := hf.2 y_1 e9
  clear e9
  refine lv_istore (lv' := [(4, .int y_1), (3, .int (0 : Int32)), (0, .ref (q 0)), (1, .int a1), (2, .int a2)]) hx hb dX12_holdsAt_8 hl (by decide) rfl (fun ls hl => ?_)
  obtain ⟨n, hf⟩ := hf
  exact M_holdsAt_10_lw C n a1 a2 (0 : Int32) y_1 u _ _ _ hf hw (lv_sub hl [2, 3, 4, 1, 0] rfl)
end

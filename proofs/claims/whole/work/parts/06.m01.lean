section
variable {p : Program} {l : Launch} {e : Env} {s : State} {m : MethodId} {args : Array Value} {below : List Frame} {meth : Method} {c : Code} {dC : Nat → ClassId} {dI : Nat → Nat → Nat} {cs : Nat → ClassId} {q : Nat → Nat} {A : Nat → Prop}
/-! X12_count -/
theorem dX12_count_0 : decode cX12_count 0 = .ok (.aload_n 0, 1) := by decide +kernel
theorem dX12_count_1 : decode cX12_count 1 = .ok (.iconst 0, 1) := by decide +kernel
theorem dX12_count_2 : decode cX12_count 2 = .ok (.putfield 1, 3) := by decide +kernel
theorem dX12_count_5 : decode cX12_count 5 = .ok (.iload_n 1, 1) := by decide +kernel
theorem dX12_count_6 : decode cX12_count 6 = .ok (.tableswitch 72 0 5 #[38, 43, 50, 55, 62, 67], 38) := by decide +kernel
theorem dX12_count_44 : decode cX12_count 44 = .ok (.aload_n 0, 1) := by decide +kernel
theorem dX12_count_45 : decode cX12_count 45 = .ok (.getfield 28, 3) := by decide +kernel
theorem dX12_count_48 : decode cX12_count 48 = .ok (.ireturn, 1) := by decide +kernel
theorem dX12_count_49 : decode cX12_count 49 = .ok (.aload_n 0, 1) := by decide +kernel
theorem dX12_count_50 : decode cX12_count 50 = .ok (.getfield 54, 3) := by decide +kernel
theorem dX12_count_53 : decode cX12_count 53 = .ok (.iconst 0, 1) := by decide +kernel
theorem dX12_count_54 : decode cX12_count 54 = .ok (.iaload, 1) := by decide +kernel
theorem dX12_count_55 : decode cX12_count 55 = .ok (.ireturn, 1) := by decide +kernel
theorem dX12_count_56 : decode cX12_count 56 = .ok (.aload_n 0, 1) := by decide +kernel
theorem dX12_count_57 : decode cX12_count 57 = .ok (.getfield 167, 3) := by decide +kernel
theorem dX12_count_60 : decode cX12_count 60 = .ok (.ireturn, 1) := by decide +kernel
theorem dX12_count_61 : decode cX12_count 61 = .ok (.aload_n 0, 1) := by decide +kernel
theorem dX12_count_62 : decode cX12_count 62 = .ok (.getfield 66, 3) := by decide +kernel
theorem dX12_count_65 : decode cX12_count 65 = .ok (.iconst 0, 1) := by decide +kernel
theorem dX12_count_66 : decode cX12_count 66 = .ok (.iaload, 1) := by decide +kernel
theorem dX12_count_67 : decode cX12_count 67 = .ok (.ireturn, 1) := by decide +kernel
theorem dX12_count_68 : decode cX12_count 68 = .ok (.aload_n 0, 1) := by decide +kernel
theorem dX12_count_69 : decode cX12_count 69 = .ok (.getfield 317, 3) := by decide +kernel
theorem dX12_count_72 : decode cX12_count 72 = .ok (.ireturn, 1) := by decide +kernel
theorem dX12_count_73 : decode cX12_count 73 = .ok (.aload_n 0, 1) := by decide +kernel
theorem dX12_count_74 : decode cX12_count 74 = .ok (.getfield 7, 3) := by decide +kernel
theorem dX12_count_77 : decode cX12_count 77 = .ok (.ireturn, 1) := by decide +kernel
theorem dX12_count_78 : decode cX12_count 78 = .ok (.iconst (-1), 1) := by decide +kernel
theorem dX12_count_79 : decode cX12_count 79 = .ok (.ireturn, 1) := by decide +kernel
def M_count (a1 : Int32) (u : th_St) (K : Int32 → th_St → Prop) : Prop :=
  ∀ u_1 : th_St, u_1 = th_si u 0 (0 : Int32) → ((a1 = (0 : Int32) → K (u_1.1 5) u_1) ∧ (a1 = (1 : Int32) → (vp_in (0 : Int32) 2 ∧ ∀ y_2 : Int32, y_2 = u_1.2.2.1 11 ((0 : Int32)).toNatClampNeg → K y_2 u_1)) ∧ (a1 = (2 : Int32) → K (u_1.1 30) u_1) ∧ (a1 = (3 : Int32) → (vp_in (0 : Int32) 2 ∧ ∀ y_3 : Int32, y_3 = u_1.2.2.1 15 ((0 : Int32)).toNatClampNeg → K y_3 u_1)) ∧ (a1 = (4 : Int32) → K (u_1.1 31) u_1) ∧ (a1 = (5 : Int32) → K (u_1.1 2) u_1) ∧ (¬ (a1 = (0 : Int32) ∨ a1 = (1 : Int32) ∨ a1 = (2 : Int32) ∨ a1 = (3 : Int32) ∨ a1 = (4 : Int32) ∨ a1 = (5 : Int32)) → K (-1 : Int32) u_1))
set_option maxHeartbeats 4000000 in
set_option maxRecDepth 100000 in
theorem M_count_c {l : Launch} {dC : Nat → ClassId} {dI : Nat → Nat → Nat} {cs : Nat → ClassId} {q : Nat → Nat} {a1 : Int32} {u : th_St} {K : Int32 → th_St → Prop} (hf : M_count a1 u K) : th_Ci l yX12_count cX12_count 2 (some .int) 0 0 0 (dC, dI) (th_ty cs) th_E0 (wM cs q) [.ref (q 0), .int a1] u K := by
  refine th_ofi (by decide) (Nat.le_of_ble_eq_true rfl) th_E0_ok ?_
  intro p e s m below meth c A ls C hw hl
  have C : th_Cx p s m _ meth c cX12_count RX12 2 (some .int) (dC, dI) (th_ty cs) th_E0 A := C
  have hl : lv_has ls 2 [(0, .ref (q 0)), (1, .int a1)] := hl
  generalize (List.toArray _ : Array Value) = args at C ⊢
  have hx := C.1
  have hb := C.2.1
  unfold M_count at hf
  refine lv_aload_n hx hb dX12_count_0 rfl (lv_at hl 0 rfl) ?_
  refine lv_iconst (v := (0 : Int32)) hx hb dX12_count_1 (by decide) ?_
  refine mp_0 C hw dX12_count_2 (fun u_1 e9 H locs hw => ?_)
  replace hf := hf u_1 e9
  clear e9
  refine lv_iload_n hx hb dX12_count_5 rfl (lv_at hl 1 rfl) ?_
  by_cases hc : a1 = (0 : Int32) ∨ a1 = (1 : Int32) ∨ a1 = (2 : Int32) ∨ a1 = (3 : Int32) ∨ a1 = (4 : Int32) ∨ a1 = (5 : Int32)
  · rcases hc with hc | hc | hc | hc | hc | hc
    · replace hf := hf.1 hc
      refine lv_tableIn (tgt := 44) hx hb dX12_count_6 (by rw [hc]; decide) (by rw [hc]; decide) (by rw [hc]; rfl) (by decide) ?_
      refine lv_aload_n hx hb dX12_count_44 rfl (lv_at hl 0 rfl) ?_
      refine mg_5 C hw dX12_count_45 ?_
      exact th_iret C hw hf dX12_count_48
    · replace hf := hf.2.1 hc
      refine lv_tableIn (tgt := 49) hx hb dX12_count_6 (by rw [hc]; decide) (by rw [hc]; decide) (by rw [hc]; rfl) (by decide) ?_
      refine lv_aload_n hx hb dX12_count_49 rfl (lv_at hl 0 rfl) ?_
      refine mg_11 C hw dX12_count_50 ?_
      refine lv_iconst (v := (0 : Int32)) hx hb dX12_count_53 (by decide) ?_
      refine ml_11 C hw hf.1 dX12_count_54 (fun y_2 e9 => ?_)
      replace hf := hf.2 y_2 e9
      clear e9
      exact th_iret C hw hf dX12_count_55
    · replace hf := hf.2.2.1 hc
      refine lv_tableIn (tgt := 56) hx hb dX12_count_6 (by rw [hc]; decide) (by rw [hc]; decide) (by rw [hc]; rfl) (by decide) ?_
      refine lv_aload_n hx hb dX12_count_56 rfl (lv_at hl 0 rfl) ?_
      refine mg_30 C hw dX12_count_57 ?_
      exact th_iret C hw hf dX12_count_60
    · replace hf := hf.2.2.2.1 hc
      refine lv_tableIn (tgt := 61) hx hb dX12_count_6 (by rw [hc]; decide) (by rw [hc]; decide) (by rw [hc]; rfl) (by decide) ?_
      refine lv_aload_n hx hb dX12_count_61 rfl (lv_at hl 0 rfl) ?_
      refine mg_15 C hw dX12_count_62 ?_
      refine lv_iconst (v := (0 : Int32)) hx hb dX12_count_65 (by decide) ?_
      refine ml_15 C hw hf.1 dX12_count_66 (fun y_3 e9 => ?_)
      replace hf := hf.2 y_3 e9
      clear e9
      exact th_iret C hw hf dX12_count_67
    · replace hf := hf.2.2.2.2.1 hc
      refine lv_tableIn (tgt := 68) hx hb dX12_count_6 (by rw [hc]; decide) (by rw [hc]; decide) (by rw [hc]; rfl) (by decide) ?_
      refine lv_aload_n hx hb dX12_count_68 rfl (lv_at hl 0 rfl) ?_
      refine mg_31 C hw dX12_count_69 ?_
      exact th_iret C hw hf dX12_count_72
    · replace hf := hf.2.2.2.2.2.1 hc
      refine lv_tableIn (tgt := 73) hx hb dX12_count_6 (by rw [hc]; decide) (by rw [hc]; decide) (by rw [hc]; rfl) (by decide) ?_
      refine lv_aload_n hx hb dX12_count_73 rfl (lv_at hl 0 rfl) ?_
      refine mg_2 C hw dX12_count_74 ?_
      exact th_iret C hw hf dX12_count_77
  · replace hf := hf.2.2.2.2.2.2 hc
    refine lv_tableOut (tgt := 78) hx hb dX12_count_6 (th_sw6 hc) (by decide) ?_
    refine lv_iconst (v := (-1 : Int32)) hx hb dX12_count_78 (by decide) ?_
    exact th_iret C hw hf dX12_count_79
/-! X12_feed -/
theorem dX12_feed_0 : decode cX12_feed 0 = .ok (.aload_n 0, 1) := by decide +kernel
theorem dX12_feed_1 : decode cX12_feed 1 = .ok (.iconst 0, 1) := by decide +kernel
theorem dX12_feed_2 : decode cX12_feed 2 = .ok (.putfield 1, 3) := by decide +kernel
theorem dX12_feed_5 : decode cX12_feed 5 = .ok (.aload_n 0, 1) := by decide +kernel
theorem dX12_feed_6 : decode cX12_feed 6 = .ok (.getfield 7, 3) := by decide +kernel
theorem dX12_feed_9 : decode cX12_feed 9 = .ok (.bipush 20, 2) := by decide +kernel
theorem dX12_feed_11 : decode cX12_feed 11 = .ok (.iadd, 1) := by decide +kernel
theorem dX12_feed_12 : decode cX12_feed 12 = .ok (.sipush 440, 3) := by decide +kernel
theorem dX12_feed_15 : decode cX12_feed 15 = .ok (.if_icmp .le 5, 3) := by decide +kernel
theorem dX12_feed_18 : decode cX12_feed 18 = .ok (.iconst (-1), 1) := by decide +kernel
theorem dX12_feed_19 : decode cX12_feed 19 = .ok (.ireturn, 1) := by decide +kernel
theorem dX12_feed_20 : decode cX12_feed 20 = .ok (.aload_n 0, 1) := by decide +kernel
theorem dX12_feed_21 : decode cX12_feed 21 = .ok (.iload_n 1, 1) := by decide +kernel
theorem dX12_feed_22 : decode cX12_feed 22 = .ok (.invokevirtual 10, 3) := by decide +kernel
theorem dX12_feed_25 : decode cX12_feed 25 = .ok (.aload_n 0, 1) := by decide +kernel
theorem dX12_feed_26 : decode cX12_feed 26 = .ok (.iload_n 2, 1) := by decide +kernel
theorem dX12_feed_27 : decode cX12_feed 27 = .ok (.invokevirtual 10, 3) := by decide +kernel
theorem dX12_feed_30 : decode cX12_feed 30 = .ok (.aload_n 0, 1) := by decide +kernel
theorem dX12_feed_31 : decode cX12_feed 31 = .ok (.iload_n 3, 1) := by decide +kernel
theorem dX12_feed_32 : decode cX12_feed 32 = .ok (.invokevirtual 10, 3) := by decide +kernel
theorem dX12_feed_35 : decode cX12_feed 35 = .ok (.aload_n 0, 1) := by decide +kernel
theorem dX12_feed_36 : decode cX12_feed 36 = .ok (.iload 4, 2) := by decide +kernel
theorem dX12_feed_38 : decode cX12_feed 38 = .ok (.invokevirtual 10, 3) := by decide +kernel
theorem dX12_feed_41 : decode cX12_feed 41 = .ok (.aload_n 0, 1) := by decide +kernel
theorem dX12_feed_42 : decode cX12_feed 42 = .ok (.iload 5, 2) := by decide +kernel
theorem dX12_feed_44 : decode cX12_feed 44 = .ok (.invokevirtual 10, 3) := by decide +kernel
theorem dX12_feed_47 : decode cX12_feed 47 = .ok (.aload_n 0, 1) := by decide +kernel
theorem dX12_feed_48 : decode cX12_feed 48 = .ok (.getfield 7, 3) := by decide +kernel
theorem dX12_feed_51 : decode cX12_feed 51 = .ok (.ireturn, 1) := by decide +kernel
def M_feed (a1 : Int32) (a2 : Int32) (a3 : Int32) (a4 : Int32) (a5 : Int32) (u : th_St) (K : Int32 → th_St → Prop) : Prop :=
  ∀ u_1 : th_St, u_1 = th_si u 0 (0 : Int32) → ((((u_1.1 2) + (20 : Int32)) ≤ (440 : Int32) → M_four a1 u_1 (fun u_2 => M_four a2 u_2 (fun u_4 => M_four a3 u_4 (fun u_6 => M_four a4 u_6 (fun u_8 => M_four a5 u_8 (fun u_10 => K (u_10.1 2) u_10)))))) ∧ (¬ ((u_1.1 2) + (20 : Int32)) ≤ (440 : Int32) → K (-1 : Int32) u_1))
set_option maxHeartbeats 4000000 in
set_option maxRecDepth 100000 in
theorem M_feed_c {l : Launch} {dC : Nat → ClassId} {dI : Nat → Nat → Nat} {cs : Nat → ClassId} {q : Nat → Nat} {a1 : Int32} {a2 : Int32} {a3 : Int32} {a4 : Int32} {a5 : Int32} {u : th_St} {K : Int32 → th_St → Prop} (hf : M_feed a1 a2 a3 a4 a5 u K) : th_Ci l yX12_feed cX12_feed 6 (some .int) 1 0 0 (dC, dI) (th_ty cs) th_E0 (wM cs q) [.ref (q 0), .int a1, .int a2, .int a3, .int a4, .int a5] u K := by
  refine th_ofi (by decide) (Nat.le_of_ble_eq_true rfl) th_E0_ok ?_
  intro p e s m below meth c A ls C hw hl
  have C : th_Cx p s m _ meth c cX12_feed RX12 6 (some .int) (dC, dI) (th_ty cs) th_E0 A := C
  have hl : lv_has ls 6 [(0, .ref (q 0)), (1, .int a1), (2, .int a2), (3, .int a3), (4, .int a4), (5, .int a5)] := hl
  generalize (List.toArray _ : Array Value) = args at C ⊢
  have hx := C.1
  have hb := C.2.1
  unfold M_feed at hf
  refine lv_aload_n hx hb dX12_feed_0 rfl (lv_at hl 0 rfl) ?_
  refine lv_iconst (v := (0 : Int32)) hx hb dX12_feed_1 (by decide) ?_
  refine mp_0 C hw dX12_feed_2 (fun u_1 e9 H locs hw => ?_)
  replace hf := hf u_1 e9
  clear e9
  refine lv_aload_n hx hb dX12_feed_5 rfl (lv_at hl 0 rfl) ?_
  refine mg_2 C hw dX12_feed_6 ?_
  refine lv_bipush (v := (20 : Int32)) hx hb dX12_feed_9 (by decide) ?_
  refine lv_iadd hx hb dX12_feed_11 ?_
  refine lv_sipush (v := (440 : Int32)) hx hb dX12_feed_12 (by decide) ?_
  refine lv_icmp_le (tgt := 20) hx hb dX12_feed_15 (by decide) (fun hc => ?_) (fun hc => ?_)
  · replace hf := hf.1 hc
    clear hc
    refine lv_aload_n hx hb dX12_feed_20 rfl (lv_at hl 0 rfl) ?_
    refine lv_iload_n hx hb dX12_feed_21 rfl (lv_at hl 1 rfl) ?_
    refine th_callVv (As := [.int a1]) (rest := []) C lkX12_10 (M_four_c hf) hw (mRc C hw) rfl rfl ⟨Nat.le_of_ble_eq_true rfl, Nat.le_of_ble_eq_true rfl⟩ hl.1 (Nat.le_of_ble_eq_true rfl) ⟨Nat.le_refl _, Nat.le_refl _⟩ dX12_feed_22 (fun u_2 H locs hf hw => ?_)
    refine lv_aload_n hx hb dX12_feed_25 rfl (lv_at hl 0 rfl) ?_
    refine lv_iload_n hx hb dX12_feed_26 rfl (lv_at hl 2 rfl) ?_
    refine th_callVv (As := [.int a2]) (rest := []) C lkX12_10 (M_four_c hf) hw (mRc C hw) rfl rfl ⟨Nat.le_of_ble_eq_true rfl, Nat.le_of_ble_eq_true rfl⟩ hl.1 (Nat.le_of_ble_eq_true rfl) ⟨Nat.le_refl _, Nat.le_refl _⟩ dX12_feed_27 (fun u_4 H locs hf hw => ?_)
    refine lv_aload_n hx hb dX12_feed_30 rfl (lv_at hl 0 rfl) ?_
    refine lv_iload_n hx hb dX12_feed_31 rfl (lv_at hl 3 rfl) ?_
    refine th_callVv (As := [.int a3]) (rest := []) C lkX12_10 (M_four_c hf) hw (mRc C hw) rfl rfl ⟨Nat.le_of_ble_eq_true rfl, Nat.le_of_ble_eq_true rfl⟩ hl.1 (Nat.le_of_ble_eq_true rfl) ⟨Nat.le_refl _, Nat.le_refl _⟩ dX12_feed_32 (fun u_6 H locs hf hw => ?_)
    refine lv_aload_n hx hb dX12_feed_35 rfl (lv_at hl 0 rfl) ?_
    refine lv_iload hx hb dX12_feed_36 (lv_at hl 4 rfl) ?_
    refine th_callVv (As := [.int a4]) (rest := []) C lkX12_10 (M_four_c hf) hw (mRc C hw) rfl rfl ⟨Nat.le_of_ble_eq_true rfl, Nat.le_of_ble_eq_true rfl⟩ hl.1 (Nat.le_of_ble_eq_true rfl) ⟨Nat.le_refl _, Nat.le_refl _⟩ dX12_feed_38 (fun u_8 H locs hf hw => ?_)
    refine lv_aload_n hx hb dX12_feed_41 rfl (lv_at hl 0 rfl) ?_
    refine lv_iload hx hb dX12_feed_42 (lv_at hl 5 rfl) ?_
    refine th_callVv (As := [.int a5]) (rest := []) C lkX12_10 (M_four_c hf) hw (mRc C hw) rfl rfl ⟨Nat.le_of_ble_eq_true rfl, Nat.le_of_ble_eq_true rfl⟩ hl.1 (Nat.le_of_ble_eq_true rfl) ⟨Nat.le_refl _, Nat.le_refl _⟩ dX12_feed_44 (fun u_10 H locs hf hw => ?_)
    refine lv_aload_n hx hb dX12_feed_47 rfl (lv_at hl 0 rfl) ?_
    refine mg_2 C hw dX12_feed_48 ?_
    exact th_iret C hw hf dX12_feed_51
  · replace hf := hf.2 hc
    clear hc
    refine lv_iconst (v := (-1 : Int32)) hx hb dX12_feed_18 (by decide) ?_
    exact th_iret C hw hf dX12_feed_19
/-! X12_next -/
theorem dX12_next_0 : decode cX12_next 0 = .ok (.aload_n 0, 1) := by decide +kernel
theorem dX12_next_1 : decode cX12_next 1 = .ok (.iconst 0, 1) := by decide +kernel
theorem dX12_next_2 : decode cX12_next 2 = .ok (.putfield 1, 3) := by decide +kernel
theorem dX12_next_5 : decode cX12_next 5 = .ok (.iload_n 1, 1) := by decide +kernel
theorem dX12_next_6 : decode cX12_next 6 = .ok (.iconst 0, 1) := by decide +kernel
theorem dX12_next_7 : decode cX12_next 7 = .ok (.sipush 999, 3) := by decide +kernel
theorem dX12_next_10 : decode cX12_next 10 = .ok (.invokestatic 24, 3) := by decide +kernel
theorem dX12_next_13 : decode cX12_next 13 = .ok (.ifCond .eq 15, 3) := by decide +kernel
theorem dX12_next_16 : decode cX12_next 16 = .ok (.aload_n 0, 1) := by decide +kernel
theorem dX12_next_17 : decode cX12_next 17 = .ok (.getfield 28, 3) := by decide +kernel
theorem dX12_next_20 : decode cX12_next 20 = .ok (.iload_n 1, 1) := by decide +kernel
theorem dX12_next_21 : decode cX12_next 21 = .ok (.iadd, 1) := by decide +kernel
theorem dX12_next_22 : decode cX12_next 22 = .ok (.sipush 999, 3) := by decide +kernel
theorem dX12_next_25 : decode cX12_next 25 = .ok (.if_icmp .le 5, 3) := by decide +kernel
theorem dX12_next_28 : decode cX12_next 28 = .ok (.iconst (-1), 1) := by decide +kernel
theorem dX12_next_29 : decode cX12_next 29 = .ok (.ireturn, 1) := by decide +kernel
theorem dX12_next_30 : decode cX12_next 30 = .ok (.aload_n 0, 1) := by decide +kernel
theorem dX12_next_31 : decode cX12_next 31 = .ok (.dup, 1) := by decide +kernel
theorem dX12_next_32 : decode cX12_next 32 = .ok (.getfield 28, 3) := by decide +kernel
theorem dX12_next_35 : decode cX12_next 35 = .ok (.iload_n 1, 1) := by decide +kernel
theorem dX12_next_36 : decode cX12_next 36 = .ok (.iadd, 1) := by decide +kernel
theorem dX12_next_37 : decode cX12_next 37 = .ok (.putfield 28, 3) := by decide +kernel
theorem dX12_next_40 : decode cX12_next 40 = .ok (.aload_n 0, 1) := by decide +kernel
theorem dX12_next_41 : decode cX12_next 41 = .ok (.getfield 28, 3) := by decide +kernel
theorem dX12_next_44 : decode cX12_next 44 = .ok (.ireturn, 1) := by decide +kernel
def M_next_28 (K : Int32 → th_St → Prop) (u : th_St) : Prop :=
  K (-1 : Int32) u
set_option maxHeartbeats 4000000 in
set_option maxRecDepth 100000 in
theorem M_next_28_w {K : Int32 → th_St → Prop} (C : th_Cx p s m args meth c cX12_next RX12 2 (some .int) (dC, dI) (th_ty cs) th_E0 A) (u : th_St) (H : Heap) (locs : List Loc) (ls : Array Slot) (hf : M_next_28 K u) (hw : th_wI (dC, dI) (wM cs q) A s.heap u H locs) (hl : lv_has ls 2 []) : W p l e (th_rm 1 0 0) s m args below meth c H locs 0 0 (MQ below (va_Qi K (th_Post (dC, dI) (wM cs q) A) A) args s 0 0 A) (F0 m 28 ls []) := by
  have hx := C.1
  have hb := C.2.1
  unfold M_next_28 at hf
  refine lv_iconst (v := (-1 : Int32)) hx hb dX12_next_28 (by decide) ?_
  exact th_iret C hw hf dX12_next_29
def M_next (a1 : Int32) (u : th_St) (K : Int32 → th_St → Prop) : Prop :=
  ∀ u_1 : th_St, u_1 = th_si u 0 (0 : Int32) → M_isIn a1 (0 : Int32) (999 : Int32) u_1 (fun r_3 u_2 => ((r_3 = 0 → M_next_28 K u_2) ∧ (¬ r_3 = 0 → ((((u_2.1 5) + a1) ≤ (999 : Int32) → ∀ u_4 : th_St, u_4 = th_si u_2 5 ((u_2.1 5) + a1) → K (u_4.1 5) u_4) ∧ (¬ ((u_2.1 5) + a1) ≤ (999 : Int32) → M_next_28 K u_2)))))
set_option maxHeartbeats 4000000 in
set_option maxRecDepth 100000 in
theorem M_next_c {l : Launch} {dC : Nat → ClassId} {dI : Nat → Nat → Nat} {cs : Nat → ClassId} {q : Nat → Nat} {a1 : Int32} {u : th_St} {K : Int32 → th_St → Prop} (hf : M_next a1 u K) : th_Ci l yX12_next cX12_next 2 (some .int) 1 0 0 (dC, dI) (th_ty cs) th_E0 (wM cs q) [.ref (q 0), .int a1] u K := by
  refine th_ofi (by decide) (Nat.le_of_ble_eq_true rfl) th_E0_ok ?_
  intro p e s m below meth c A ls C hw hl
  have C : th_Cx p s m _ meth c cX12_next RX12 2 (some .int) (dC, dI) (th_ty cs) th_E0 A := C
  have hl : lv_has ls 2 [(0, .ref (q 0)), (1, .int a1)] := hl
  generalize (List.toArray _ : Array Value) = args at C ⊢
  have hx := C.1
  have hb := C.2.1
  unfold M_next at hf
  refine lv_aload_n hx hb dX12_next_0 rfl (lv_at hl 0 rfl) ?_
  refine lv_iconst (v := (0 : Int32)) hx hb dX12_next_1 (by decide) ?_
  refine mp_0 C hw dX12_next_2 (fun u_1 e9 H locs hw => ?_)
  replace hf := hf u_1 e9
  clear e9
  refine lv_iload_n hx hb dX12_next_5 rfl (lv_at hl 1 rfl) ?_
  refine lv_iconst (v := (0 : Int32)) hx hb dX12_next_6 (by decide) ?_
  refine lv_sipush (v := (999 : Int32)) hx hb dX12_next_7 (by decide) ?_
  refine th_callSi (As := [.int a1, .int (0 : Int32), .int (999 : Int32)]) (rest := []) C lkX12_24 (M_isIn_c hf) hw rfl rfl ⟨Nat.le_of_ble_eq_true rfl, Nat.le_of_ble_eq_true rfl⟩ hl.1 (Nat.le_of_ble_eq_true rfl) ⟨Nat.le_refl _, Nat.le_refl _⟩ dX12_next_10 (fun r_3 u_2 H locs hf hw => ?_)
  refine lv_if_eq (tgt := 28) hx hb dX12_next_13 (by decide) (fun hc => ?_) (fun hc => ?_)
  · replace hf := hf.1 hc
    clear hc
    exact M_next_28_w C  u_2 _ _ _ hf hw (lv_sub hl [] rfl)
  · replace hf := hf.2 hc
    clear hc
    refine lv_aload_n hx hb dX12_next_16 rfl (lv_at hl 0 rfl) ?_
    refine mg_5 C hw dX12_next_17 ?_
    refine lv_iload_n hx hb dX12_next_20 rfl (lv_at hl 1 rfl) ?_
    refine lv_iadd hx hb dX12_next_21 ?_
    refine lv_sipush (v := (999 : Int32)) hx hb dX12_next_22 (by decide) ?_
    refine lv_icmp_le (tgt := 30) hx hb dX12_next_25 (by decide) (fun hc => ?_) (fun hc => ?_)
    · replace hf := hf.1 hc
      clear hc
      refine lv_aload_n hx hb dX12_next_30 rfl (lv_at hl 0 rfl) ?_
      refine lv_dup hx hb dX12_next_31 rfl ?_
      refine mg_5 C hw dX12_next_32 ?_
      refine lv_iload_n hx hb dX12_next_35 rfl (lv_at hl 1 rfl) ?_
      refine lv_iadd hx hb dX12_next_36 ?_
      refine mp_5 C hw dX12_next_37 (fun u_4 e9 H locs hw => ?_)
      replace hf := hf u_4 e9
      clear e9
      refine lv_aload_n hx hb dX12_next_40 rfl (lv_at hl 0 rfl) ?_
      refine mg_5 C hw dX12_next_41 ?_
      exact th_iret C hw hf dX12_next_44
    · replace hf := hf.2 hc
      clear hc
      exact M_next_28_w C  u_2 _ _ _ hf hw (lv_sub hl [] rfl)
/-! X12_next_ -/
theorem dX12_next__0 : decode cX12_next_ 0 = .ok (.aload_n 0, 1) := by decide +kernel
theorem dX12_next__1 : decode cX12_next_ 1 = .ok (.invokevirtual 189, 3) := by decide +kernel
theorem dX12_next__4 : decode cX12_next_ 4 = .ok (.bipush 32, 2) := by decide +kernel
theorem dX12_next__6 : decode cX12_next_ 6 = .ok (.if_icmp .eq 12, 3) := by decide +kernel
theorem dX12_next__9 : decode cX12_next_ 9 = .ok (.aload_n 0, 1) := by decide +kernel
theorem dX12_next__10 : decode cX12_next_ 10 = .ok (.invokevirtual 189, 3) := by decide +kernel
theorem dX12_next__13 : decode cX12_next_ 13 = .ok (.bipush 10, 2) := by decide +kernel
theorem dX12_next__15 : decode cX12_next_ 15 = .ok (.if_icmp .ne 16, 3) := by decide +kernel
theorem dX12_next__18 : decode cX12_next_ 18 = .ok (.aload_n 0, 1) := by decide +kernel
theorem dX12_next__19 : decode cX12_next_ 19 = .ok (.dup, 1) := by decide +kernel
theorem dX12_next__20 : decode cX12_next_ 20 = .ok (.getfield 21, 3) := by decide +kernel
theorem dX12_next__23 : decode cX12_next_ 23 = .ok (.iconst 1, 1) := by decide +kernel
theorem dX12_next__24 : decode cX12_next_ 24 = .ok (.iadd, 1) := by decide +kernel
theorem dX12_next__25 : decode cX12_next_ 25 = .ok (.putfield 21, 3) := by decide +kernel
theorem dX12_next__28 : decode cX12_next_ 28 = .ok (.goto (-28), 3) := by decide +kernel
theorem dX12_next__31 : decode cX12_next_ 31 = .ok (.aload_n 0, 1) := by decide +kernel
theorem dX12_next__32 : decode cX12_next_ 32 = .ok (.aload_n 0, 1) := by decide +kernel
theorem dX12_next__33 : decode cX12_next_ 33 = .ok (.getfield 21, 3) := by decide +kernel
theorem dX12_next__36 : decode cX12_next_ 36 = .ok (.putfield 192, 3) := by decide +kernel
theorem dX12_next__39 : decode cX12_next_ 39 = .ok (.aload_n 0, 1) := by decide +kernel
theorem dX12_next__40 : decode cX12_next_ 40 = .ok (.iconst 0, 1) := by decide +kernel
theorem dX12_next__41 : decode cX12_next_ 41 = .ok (.putfield 195, 3) := by decide +kernel
theorem dX12_next__44 : decode cX12_next_ 44 = .ok (.aload_n 0, 1) := by decide +kernel
theorem dX12_next__45 : decode cX12_next_ 45 = .ok (.getfield 18, 3) := by decide +kernel
theorem dX12_next__48 : decode cX12_next_ 48 = .ok (.sipush 400, 3) := by decide +kernel
theorem dX12_next__51 : decode cX12_next_ 51 = .ok (.if_icmp .le 26, 3) := by decide +kernel
theorem dX12_next__54 : decode cX12_next_ 54 = .ok (.aload_n 0, 1) := by decide +kernel
theorem dX12_next__55 : decode cX12_next_ 55 = .ok (.getfield 21, 3) := by decide +kernel
theorem dX12_next__58 : decode cX12_next_ 58 = .ok (.sipush 400, 3) := by decide +kernel
theorem dX12_next__61 : decode cX12_next_ 61 = .ok (.if_icmp .lt 16, 3) := by decide +kernel
theorem dX12_next__64 : decode cX12_next_ 64 = .ok (.aload_n 0, 1) := by decide +kernel
theorem dX12_next__65 : decode cX12_next_ 65 = .ok (.sipush 400, 3) := by decide +kernel
theorem dX12_next__68 : decode cX12_next_ 68 = .ok (.putfield 192, 3) := by decide +kernel
theorem dX12_next__71 : decode cX12_next_ 71 = .ok (.aload_n 0, 1) := by decide +kernel
theorem dX12_next__72 : decode cX12_next_ 72 = .ok (.iconst 4, 1) := by decide +kernel
theorem dX12_next__73 : decode cX12_next_ 73 = .ok (.putfield 198, 3) := by decide +kernel
theorem dX12_next__76 : decode cX12_next_ 76 = .ok (.return_, 1) := by decide +kernel
theorem dX12_next__77 : decode cX12_next_ 77 = .ok (.aload_n 0, 1) := by decide +kernel
theorem dX12_next__78 : decode cX12_next_ 78 = .ok (.invokevirtual 189, 3) := by decide +kernel
theorem dX12_next__81 : decode cX12_next_ 81 = .ok (.istore_n 1, 1) := by decide +kernel
theorem dX12_next__82 : decode cX12_next_ 82 = .ok (.iload_n 1, 1) := by decide +kernel
theorem dX12_next__83 : decode cX12_next_ 83 = .ok (.ifCond .ge 9, 3) := by decide +kernel
theorem dX12_next__86 : decode cX12_next_ 86 = .ok (.aload_n 0, 1) := by decide +kernel
theorem dX12_next__87 : decode cX12_next_ 87 = .ok (.iconst 0, 1) := by decide +kernel
theorem dX12_next__88 : decode cX12_next_ 88 = .ok (.putfield 198, 3) := by decide +kernel
theorem dX12_next__91 : decode cX12_next_ 91 = .ok (.return_, 1) := by decide +kernel
theorem dX12_next__92 : decode cX12_next_ 92 = .ok (.iload_n 1, 1) := by decide +kernel
theorem dX12_next__93 : decode cX12_next_ 93 = .ok (.invokestatic 201, 3) := by decide +kernel
theorem dX12_next__96 : decode cX12_next_ 96 = .ok (.ifCond .ne 65, 3) := by decide +kernel
theorem dX12_next__99 : decode cX12_next_ 99 = .ok (.iload_n 1, 1) := by decide +kernel
theorem dX12_next__100 : decode cX12_next_ 100 = .ok (.invokestatic 205, 3) := by decide +kernel
theorem dX12_next__103 : decode cX12_next_ 103 = .ok (.ifCond .ne 58, 3) := by decide +kernel
theorem dX12_next__106 : decode cX12_next_ 106 = .ok (.aload_n 0, 1) := by decide +kernel
theorem dX12_next__107 : decode cX12_next_ 107 = .ok (.iload_n 1, 1) := by decide +kernel
theorem dX12_next__108 : decode cX12_next_ 108 = .ok (.bipush 59, 2) := by decide +kernel
theorem dX12_next__110 : decode cX12_next_ 110 = .ok (.if_icmp .eq 27, 3) := by decide +kernel
theorem dX12_next__113 : decode cX12_next_ 113 = .ok (.iload_n 1, 1) := by decide +kernel
theorem dX12_next__114 : decode cX12_next_ 114 = .ok (.bipush 40, 2) := by decide +kernel
theorem dX12_next__116 : decode cX12_next_ 116 = .ok (.if_icmp .eq 21, 3) := by decide +kernel
theorem dX12_next__119 : decode cX12_next_ 119 = .ok (.iload_n 1, 1) := by decide +kernel
theorem dX12_next__120 : decode cX12_next_ 120 = .ok (.bipush 41, 2) := by decide +kernel
theorem dX12_next__122 : decode cX12_next_ 122 = .ok (.if_icmp .eq 15, 3) := by decide +kernel
theorem dX12_next__125 : decode cX12_next_ 125 = .ok (.iload_n 1, 1) := by decide +kernel
theorem dX12_next__126 : decode cX12_next_ 126 = .ok (.bipush 60, 2) := by decide +kernel
theorem dX12_next__128 : decode cX12_next_ 128 = .ok (.if_icmp .lt 13, 3) := by decide +kernel
theorem dX12_next__131 : decode cX12_next_ 131 = .ok (.iload_n 1, 1) := by decide +kernel
theorem dX12_next__132 : decode cX12_next_ 132 = .ok (.bipush 62, 2) := by decide +kernel
theorem dX12_next__134 : decode cX12_next_ 134 = .ok (.if_icmp .gt 7, 3) := by decide +kernel
theorem dX12_next__137 : decode cX12_next_ 137 = .ok (.iconst 3, 1) := by decide +kernel
theorem dX12_next__138 : decode cX12_next_ 138 = .ok (.goto 4, 3) := by decide +kernel
theorem dX12_next__141 : decode cX12_next_ 141 = .ok (.iconst 4, 1) := by decide +kernel
theorem dX12_next__142 : decode cX12_next_ 142 = .ok (.putfield 198, 3) := by decide +kernel
theorem dX12_next__145 : decode cX12_next_ 145 = .ok (.aload_n 0, 1) := by decide +kernel
theorem dX12_next__146 : decode cX12_next_ 146 = .ok (.iload_n 1, 1) := by decide +kernel
theorem dX12_next__147 : decode cX12_next_ 147 = .ok (.putfield 208, 3) := by decide +kernel
theorem dX12_next__150 : decode cX12_next_ 150 = .ok (.aload_n 0, 1) := by decide +kernel
theorem dX12_next__151 : decode cX12_next_ 151 = .ok (.dup, 1) := by decide +kernel
theorem dX12_next__152 : decode cX12_next_ 152 = .ok (.getfield 21, 3) := by decide +kernel
theorem dX12_next__155 : decode cX12_next_ 155 = .ok (.iconst 1, 1) := by decide +kernel
theorem dX12_next__156 : decode cX12_next_ 156 = .ok (.iadd, 1) := by decide +kernel
theorem dX12_next__157 : decode cX12_next_ 157 = .ok (.putfield 21, 3) := by decide +kernel
theorem dX12_next__160 : decode cX12_next_ 160 = .ok (.return_, 1) := by decide +kernel
theorem dX12_next__161 : decode cX12_next_ 161 = .ok (.iload_n 1, 1) := by decide +kernel
theorem dX12_next__162 : decode cX12_next_ 162 = .ok (.invokestatic 201, 3) := by decide +kernel
theorem dX12_next__165 : decode cX12_next_ 165 = .ok (.istore_n 2, 1) := by decide +kernel
theorem dX12_next__166 : decode cX12_next_ 166 = .ok (.iconst 1, 1) := by decide +kernel
theorem dX12_next__167 : decode cX12_next_ 167 = .ok (.istore_n 3, 1) := by decide +kernel
theorem dX12_next__168 : decode cX12_next_ 168 = .ok (.aload_n 0, 1) := by decide +kernel
theorem dX12_next__169 : decode cX12_next_ 169 = .ok (.lconst 0, 1) := by decide +kernel
theorem dX12_next__170 : decode cX12_next_ 170 = .ok (.putfield 211, 3) := by decide +kernel
theorem dX12_next__173 : decode cX12_next_ 173 = .ok (.aload_n 0, 1) := by decide +kernel
theorem dX12_next__174 : decode cX12_next_ 174 = .ok (.iconst 0, 1) := by decide +kernel
theorem dX12_next__175 : decode cX12_next_ 175 = .ok (.putfield 208, 3) := by decide +kernel
theorem dX12_next__178 : decode cX12_next_ 178 = .ok (.aload_n 0, 1) := by decide +kernel
theorem dX12_next__179 : decode cX12_next_ 179 = .ok (.invokevirtual 189, 3) := by decide +kernel
theorem dX12_next__182 : decode cX12_next_ 182 = .ok (.invokestatic 201, 3) := by decide +kernel
theorem dX12_next__185 : decode cX12_next_ 185 = .ok (.ifCond .ne 13, 3) := by decide +kernel
theorem dX12_next__188 : decode cX12_next_ 188 = .ok (.aload_n 0, 1) := by decide +kernel
theorem dX12_next__189 : decode cX12_next_ 189 = .ok (.invokevirtual 189, 3) := by decide +kernel
theorem dX12_next__192 : decode cX12_next_ 192 = .ok (.invokestatic 205, 3) := by decide +kernel
theorem dX12_next__195 : decode cX12_next_ 195 = .ok (.ifCond .eq 100, 3) := by decide +kernel
theorem dX12_next__198 : decode cX12_next_ 198 = .ok (.iload_n 3, 1) := by decide +kernel
theorem dX12_next__199 : decode cX12_next_ 199 = .ok (.ifCond .eq 18, 3) := by decide +kernel
theorem dX12_next__202 : decode cX12_next_ 202 = .ok (.aload_n 0, 1) := by decide +kernel
theorem dX12_next__203 : decode cX12_next_ 203 = .ok (.invokevirtual 189, 3) := by decide +kernel
theorem dX12_next__206 : decode cX12_next_ 206 = .ok (.invokestatic 201, 3) := by decide +kernel
theorem dX12_next__209 : decode cX12_next_ 209 = .ok (.iload_n 2, 1) := by decide +kernel
theorem dX12_next__210 : decode cX12_next_ 210 = .ok (.if_icmp .ne 7, 3) := by decide +kernel
theorem dX12_next__213 : decode cX12_next_ 213 = .ok (.iconst 1, 1) := by decide +kernel
theorem dX12_next__214 : decode cX12_next_ 214 = .ok (.goto 4, 3) := by decide +kernel
theorem dX12_next__217 : decode cX12_next_ 217 = .ok (.iconst 0, 1) := by decide +kernel
theorem dX12_next__218 : decode cX12_next_ 218 = .ok (.istore_n 3, 1) := by decide +kernel
theorem dX12_next__219 : decode cX12_next_ 219 = .ok (.aload_n 0, 1) := by decide +kernel
theorem dX12_next__220 : decode cX12_next_ 220 = .ok (.getfield 195, 3) := by decide +kernel
theorem dX12_next__223 : decode cX12_next_ 223 = .ok (.bipush 8, 2) := by decide +kernel
theorem dX12_next__225 : decode cX12_next_ 225 = .ok (.if_icmp .ge 20, 3) := by decide +kernel
theorem dX12_next__228 : decode cX12_next_ 228 = .ok (.aload_n 0, 1) := by decide +kernel
theorem dX12_next__229 : decode cX12_next_ 229 = .ok (.aload_n 0, 1) := by decide +kernel
theorem dX12_next__230 : decode cX12_next_ 230 = .ok (.getfield 211, 3) := by decide +kernel
theorem dX12_next__233 : decode cX12_next_ 233 = .ok (.bipush 8, 2) := by decide +kernel
theorem dX12_next__235 : decode cX12_next_ 235 = .ok (.lshl, 1) := by decide +kernel
theorem dX12_next__236 : decode cX12_next_ 236 = .ok (.aload_n 0, 1) := by decide +kernel
theorem dX12_next__237 : decode cX12_next_ 237 = .ok (.invokevirtual 189, 3) := by decide +kernel
theorem dX12_next__240 : decode cX12_next_ 240 = .ok (.i2l, 1) := by decide +kernel
theorem dX12_next__241 : decode cX12_next_ 241 = .ok (.lor, 1) := by decide +kernel
theorem dX12_next__242 : decode cX12_next_ 242 = .ok (.putfield 211, 3) := by decide +kernel
theorem dX12_next__245 : decode cX12_next_ 245 = .ok (.aload_n 0, 1) := by decide +kernel
theorem dX12_next__246 : decode cX12_next_ 246 = .ok (.getfield 195, 3) := by decide +kernel
theorem dX12_next__249 : decode cX12_next_ 249 = .ok (.iconst 4, 1) := by decide +kernel
theorem dX12_next__250 : decode cX12_next_ 250 = .ok (.if_icmp .ge 22, 3) := by decide +kernel
theorem dX12_next__253 : decode cX12_next_ 253 = .ok (.aload_n 0, 1) := by decide +kernel
theorem dX12_next__254 : decode cX12_next_ 254 = .ok (.bipush 10, 2) := by decide +kernel
theorem dX12_next__256 : decode cX12_next_ 256 = .ok (.aload_n 0, 1) := by decide +kernel
theorem dX12_next__257 : decode cX12_next_ 257 = .ok (.getfield 208, 3) := by decide +kernel
theorem dX12_next__260 : decode cX12_next_ 260 = .ok (.imul, 1) := by decide +kernel
theorem dX12_next__261 : decode cX12_next_ 261 = .ok (.aload_n 0, 1) := by decide +kernel
theorem dX12_next__262 : decode cX12_next_ 262 = .ok (.invokevirtual 189, 3) := by decide +kernel
theorem dX12_next__265 : decode cX12_next_ 265 = .ok (.iadd, 1) := by decide +kernel
theorem dX12_next__266 : decode cX12_next_ 266 = .ok (.bipush 48, 2) := by decide +kernel
theorem dX12_next__268 : decode cX12_next_ 268 = .ok (.isub, 1) := by decide +kernel
theorem dX12_next__269 : decode cX12_next_ 269 = .ok (.putfield 208, 3) := by decide +kernel
theorem dX12_next__272 : decode cX12_next_ 272 = .ok (.aload_n 0, 1) := by decide +kernel
theorem dX12_next__273 : decode cX12_next_ 273 = .ok (.dup, 1) := by decide +kernel
theorem dX12_next__274 : decode cX12_next_ 274 = .ok (.getfield 195, 3) := by decide +kernel
theorem dX12_next__277 : decode cX12_next_ 277 = .ok (.iconst 1, 1) := by decide +kernel
theorem dX12_next__278 : decode cX12_next_ 278 = .ok (.iadd, 1) := by decide +kernel
theorem dX12_next__279 : decode cX12_next_ 279 = .ok (.putfield 195, 3) := by decide +kernel
theorem dX12_next__282 : decode cX12_next_ 282 = .ok (.aload_n 0, 1) := by decide +kernel
theorem dX12_next__283 : decode cX12_next_ 283 = .ok (.dup, 1) := by decide +kernel
theorem dX12_next__284 : decode cX12_next_ 284 = .ok (.getfield 21, 3) := by decide +kernel
theorem dX12_next__287 : decode cX12_next_ 287 = .ok (.iconst 1, 1) := by decide +kernel
theorem dX12_next__288 : decode cX12_next_ 288 = .ok (.iadd, 1) := by decide +kernel
theorem dX12_next__289 : decode cX12_next_ 289 = .ok (.putfield 21, 3) := by decide +kernel
theorem dX12_next__292 : decode cX12_next_ 292 = .ok (.goto (-114), 3) := by decide +kernel
theorem dX12_next__295 : decode cX12_next_ 295 = .ok (.aload_n 0, 1) := by decide +kernel
theorem dX12_next__296 : decode cX12_next_ 296 = .ok (.iload_n 3, 1) := by decide +kernel
theorem dX12_next__297 : decode cX12_next_ 297 = .ok (.ifCond .eq 20, 3) := by decide +kernel
theorem dX12_next__300 : decode cX12_next_ 300 = .ok (.aload_n 0, 1) := by decide +kernel
theorem dX12_next__301 : decode cX12_next_ 301 = .ok (.getfield 195, 3) := by decide +kernel
theorem dX12_next__304 : decode cX12_next_ 304 = .ok (.iload_n 2, 1) := by decide +kernel
theorem dX12_next__305 : decode cX12_next_ 305 = .ok (.ifCond .eq 8, 3) := by decide +kernel
theorem dX12_next__308 : decode cX12_next_ 308 = .ok (.bipush 8, 2) := by decide +kernel
theorem dX12_next__310 : decode cX12_next_ 310 = .ok (.goto 4, 3) := by decide +kernel
theorem dX12_next__313 : decode cX12_next_ 313 = .ok (.iconst 4, 1) := by decide +kernel
theorem dX12_next__314 : decode cX12_next_ 314 = .ok (.if_icmp .le 7, 3) := by decide +kernel
theorem dX12_next__317 : decode cX12_next_ 317 = .ok (.iconst 4, 1) := by decide +kernel
theorem dX12_next__318 : decode cX12_next_ 318 = .ok (.goto 12, 3) := by decide +kernel
theorem dX12_next__321 : decode cX12_next_ 321 = .ok (.iload_n 2, 1) := by decide +kernel
theorem dX12_next__322 : decode cX12_next_ 322 = .ok (.ifCond .eq 7, 3) := by decide +kernel
theorem dX12_next__325 : decode cX12_next_ 325 = .ok (.iconst 1, 1) := by decide +kernel
theorem dX12_next__326 : decode cX12_next_ 326 = .ok (.goto 4, 3) := by decide +kernel
theorem dX12_next__329 : decode cX12_next_ 329 = .ok (.iconst 2, 1) := by decide +kernel
theorem dX12_next__330 : decode cX12_next_ 330 = .ok (.putfield 198, 3) := by decide +kernel
theorem dX12_next__333 : decode cX12_next_ 333 = .ok (.return_, 1) := by decide +kernel
def M_next__18 (K : th_St → Prop) (k0 : th_St → Prop) (u : th_St) : Prop :=
  ∀ u_1 : th_St, u_1 = th_si u 4 ((u.1 4) + (1 : Int32)) → k0 u_1
set_option maxHeartbeats 4000000 in
set_option maxRecDepth 100000 in
theorem M_next__18_w {K : th_St → Prop} {k0 : th_St → Prop} (C : th_Cx p s m args meth c cX12_next_ RX12 4 (none) (dC, dI) (th_ty cs) th_E0 A) (hk0 : ∀ (u : th_St) (H : Heap) (locs : List Loc) (ls : Array Slot), k0 u → th_wI (dC, dI) (wM cs q) A s.heap u H locs → lv_has ls 4 [(0, .ref (q 0))] → W p l e (th_rm 1 0 0) s m args below meth c H locs 0 0 (MQ below (va_Qv K (th_Post (dC, dI) (wM cs q) A) A) args s 0 0 A) (F0 m 0 ls [])) (u : th_St) (H : Heap) (locs : List Loc) (ls : Array Slot) (hf : M_next__18 K k0 u) (hw : th_wI (dC, dI) (wM cs q) A s.heap u H locs) (hl : lv_has ls 4 [(0, .ref (q 0))]) : W p l e (th_rm 1 0 0) s m args below meth c H locs 0 0 (MQ below (va_Qv K (th_Post (dC, dI) (wM cs q) A) A) args s 0 0 A) (F0 m 18 ls []) := by
  have hx := C.1
  have hb := C.2.1
  unfold M_next__18 at hf
  refine lv_aload_n hx hb dX12_next__18 rfl (lv_at hl 0 rfl) ?_
  refine lv_dup hx hb dX12_next__19 rfl ?_
  refine mg_4 C hw dX12_next__20 ?_
  refine lv_iconst (v := (1 : Int32)) hx hb dX12_next__23 (by decide) ?_
  refine lv_iadd hx hb dX12_next__24 ?_
  refine mp_4 C hw dX12_next__25 (fun u_1 e9 H locs hw => ?_)
  replace hf := hf u_1 e9
  clear e9
  refine lv_goto (tgt := 0) hx hb dX12_next__28 (by decide) ?_
  exact hk0  u_1 _ _ _ hf hw (lv_sub hl [0] rfl)
def M_next__142 (K : th_St → Prop) (x1 : Int32) (z0 : Int32) (u : th_St) : Prop :=
  ∀ u_1 : th_St, u_1 = th_si u 24 z0 → ∀ u_2 : th_St, u_2 = th_si u_1 27 x1 → ∀ u_3 : th_St, u_3 = th_si u_2 4 ((u_2.1 4) + (1 : Int32)) → K u_3
set_option maxHeartbeats 4000000 in
set_option maxRecDepth 100000 in
theorem M_next__142_w {K : th_St → Prop} (C : th_Cx p s m args meth c cX12_next_ RX12 4 (none) (dC, dI) (th_ty cs) th_E0 A) (x1 : Int32) (z0 : Int32) (u : th_St) (H : Heap) (locs : List Loc) (ls : Array Slot) (hf : M_next__142 K x1 z0 u) (hw : th_wI (dC, dI) (wM cs q) A s.heap u H locs) (hl : lv_has ls 4 [(0, .ref (q 0)), (1, .int x1)]) : W p l e (th_rm 1 0 0) s m args below meth c H locs 0 0 (MQ below (va_Qv K (th_Post (dC, dI) (wM cs q) A) A) args s 0 0 A) (F0 m 142 ls [.int z0, .ref (q 0)]) := by
  have hx := C.1
  have hb := C.2.1
  unfold M_next__142 at hf
  refine mp_24 C hw dX12_next__142 (fun u_1 e9 H locs hw => ?_)
  replace hf := hf u_1 e9
  clear e9
  refine lv_aload_n hx hb dX12_next__145 rfl (lv_at hl 0 rfl) ?_
  refine lv_iload_n hx hb dX12_next__146 rfl (lv_at hl 1 rfl) ?_
  refine mp_27 C hw dX12_next__147 (fun u_2 e9 H locs hw => ?_)
  replace hf := hf u_2 e9
  clear e9
  refine lv_aload_n hx hb dX12_next__150 rfl (lv_at hl 0 rfl) ?_
  refine lv_dup hx hb dX12_next__151 rfl ?_
  refine mg_4 C hw dX12_next__152 ?_
  refine lv_iconst (v := (1 : Int32)) hx hb dX12_next__155 (by decide) ?_
  refine lv_iadd hx hb dX12_next__156 ?_
  refine mp_4 C hw dX12_next__157 (fun u_3 e9 H locs hw => ?_)
  replace hf := hf u_3 e9
  clear e9
  exact th_vret C hw hf dX12_next__160
def M_next__137 (K : th_St → Prop) (x1 : Int32) (u : th_St) : Prop :=
  M_next__142 K x1 (3 : Int32) u
set_option maxHeartbeats 4000000 in
set_option maxRecDepth 100000 in
theorem M_next__137_w {K : th_St → Prop} (C : th_Cx p s m args meth c cX12_next_ RX12 4 (none) (dC, dI) (th_ty cs) th_E0 A) (x1 : Int32) (u : th_St) (H : Heap) (locs : List Loc) (ls : Array Slot) (hf : M_next__137 K x1 u) (hw : th_wI (dC, dI) (wM cs q) A s.heap u H locs) (hl : lv_has ls 4 [(0, .ref (q 0)), (1, .int x1)]) : W p l e (th_rm 1 0 0) s m args below meth c H locs 0 0 (MQ below (va_Qv K (th_Post (dC, dI) (wM cs q) A) A) args s 0 0 A) (F0 m 137 ls [.ref (q 0)]) := by
  have hx := C.1
  have hb := C.2.1
  unfold M_next__137 at hf
  refine lv_iconst (v := (3 : Int32)) hx hb dX12_next__137 (by decide) ?_
  refine lv_goto (tgt := 142) hx hb dX12_next__138 (by decide) ?_
  exact M_next__142_w C x1 (3 : Int32) u _ _ _ hf hw (lv_sub hl [0, 1] rfl)
def M_next__141 (K : th_St → Prop) (x1 : Int32) (u : th_St) : Prop :=
  M_next__142 K x1 (4 : Int32) u
set_option maxHeartbeats 4000000 in
set_option maxRecDepth 100000 in
theorem M_next__141_w {K : th_St → Prop} (C : th_Cx p s m args meth c cX12_next_ RX12 4 (none) (dC, dI) (th_ty cs) th_E0 A) (x1 : Int32) (u : th_St) (H : Heap) (locs : List Loc) (ls : Array Slot) (hf : M_next__141 K x1 u) (hw : th_wI (dC, dI) (wM cs q) A s.heap u H locs) (hl : lv_has ls 4 [(0, .ref (q 0)), (1, .int x1)]) : W p l e (th_rm 1 0 0) s m args below meth c H locs 0 0 (MQ below (va_Qv K (th_Post (dC, dI) (wM cs q) A) A) args s 0 0 A) (F0 m 141 ls [.ref (q 0)]) := by
  have hx := C.1
  have hb := C.2.1
  unfold M_next__141 at hf
  refine lv_iconst (v := (4 : Int32)) hx hb dX12_next__141 (by decide) ?_
  exact M_next__142_w C x1 (4 : Int32) u _ _ _ hf hw (lv_sub hl [0, 1] rfl)
def M_next__272 (K : th_St → Prop) (k178 : Int32 → Int32 → th_St → Prop) (x2 : Int32) (x3 : Int32) (u : th_St) : Prop :=
  ∀ u_1 : th_St, u_1 = th_si u 26 ((u.1 26) + (1 : Int32)) → ∀ u_2 : th_St, u_2 = th_si u_1 4 ((u_1.1 4) + (1 : Int32)) → k178 x2 x3 u_2
set_option maxHeartbeats 4000000 in
set_option maxRecDepth 100000 in
theorem M_next__272_w {K : th_St → Prop} {k178 : Int32 → Int32 → th_St → Prop} (C : th_Cx p s m args meth c cX12_next_ RX12 4 (none) (dC, dI) (th_ty cs) th_E0 A) (hk178 : ∀ (x2 : Int32) (x3 : Int32) (u : th_St) (H : Heap) (locs : List Loc) (ls : Array Slot), k178 x2 x3 u → th_wI (dC, dI) (wM cs q) A s.heap u H locs → lv_has ls 4 [(0, .ref (q 0)), (2, .int x2), (3, .int x3)] → W p l e (th_rm 1 0 0) s m args below meth c H locs 0 0 (MQ below (va_Qv K (th_Post (dC, dI) (wM cs q) A) A) args s 0 0 A) (F0 m 178 ls [])) (x2 : Int32) (x3 : Int32) (u : th_St) (H : Heap) (locs : List Loc) (ls : Array Slot) (hf : M_next__272 K k178 x2 x3 u) (hw : th_wI (dC, dI) (wM cs q) A s.heap u H locs) (hl : lv_has ls 4 [(0, .ref (q 0)), (2, .int x2), (3, .int x3)]) : W p l e (th_rm 1 0 0) s m args below meth c H locs 0 0 (MQ below (va_Qv K (th_Post (dC, dI) (wM cs q) A) A) args s 0 0 A) (F0 m 272 ls []) := by
  have hx := C.1
  have hb := C.2.1
  unfold M_next__272 at hf
  refine lv_aload_n hx hb dX12_next__272 rfl (lv_at hl 0 rfl) ?_
  refine lv_dup hx hb dX12_next__273 rfl ?_
  refine mg_26 C hw dX12_next__274 ?_
  refine lv_iconst (v := (1 : Int32)) hx hb dX12_next__277 (by decide) ?_
  refine lv_iadd hx hb dX12_next__278 ?_
  refine mp_26 C hw dX12_next__279 (fun u_1 e9 H locs hw => ?_)
  replace hf := hf u_1 e9
  clear e9
  refine lv_aload_n hx hb dX12_next__282 rfl (lv_at hl 0 rfl) ?_
  refine lv_dup hx hb dX12_next__283 rfl ?_
  refine mg_4 C hw dX12_next__284 ?_
  refine lv_iconst (v := (1 : Int32)) hx hb dX12_next__287 (by decide) ?_
  refine lv_iadd hx hb dX12_next__288 ?_
  refine mp_4 C hw dX12_next__289 (fun u_2 e9 H locs hw => ?_)
  replace hf := hf u_2 e9
  clear e9
  refine lv_goto (tgt := 178) hx hb dX12_next__292 (by decide) ?_
  exact hk178 x2 x3 u_2 _ _ _ hf hw (lv_sub hl [0, 1, 2] rfl)
def M_next__245 (K : th_St → Prop) (k178 : Int32 → Int32 → th_St → Prop) (x2 : Int32) (x3 : Int32) (u : th_St) : Prop :=
  (((4 : Int32) ≤ (u.1 26) → M_next__272 K k178 x2 x3 u) ∧ (¬ (4 : Int32) ≤ (u.1 26) → M_peek u (fun r_2 u_1 => ∀ u_3 : th_St, u_3 = th_si u_1 27 ((((10 : Int32) * (u.1 27)) + r_2) - (48 : Int32)) → M_next__272 K k178 x2 x3 u_3)))
set_option maxHeartbeats 4000000 in
set_option maxRecDepth 100000 in
theorem M_next__245_w {K : th_St → Prop} {k178 : Int32 → Int32 → th_St → Prop} (C : th_Cx p s m args meth c cX12_next_ RX12 4 (none) (dC, dI) (th_ty cs) th_E0 A) (hk178 : ∀ (x2 : Int32) (x3 : Int32) (u : th_St) (H : Heap) (locs : List Loc) (ls : Array Slot), k178 x2 x3 u → th_wI (dC, dI) (wM cs q) A s.heap u H locs → lv_has ls 4 [(0, .ref (q 0)), (2, .int x2), (3, .int x3)] → W p l e (th_rm 1 0 0) s m args below meth c H locs 0 0 (MQ below (va_Qv K (th_Post (dC, dI) (wM cs q) A) A) args s 0 0 A) (F0 m 178 ls [])) (x2 : Int32) (x3 : Int32) (u : th_St) (H : Heap) (locs : List Loc) (ls : Array Slot) (hf : M_next__245 K k178 x2 x3 u) (hw : th_wI (dC, dI) (wM cs q) A s.heap u H locs) (hl : lv_has ls 4 [(0, .ref (q 0)), (2, .int x2), (3, .int x3)]) : W p l e (th_rm 1 0 0) s m args below meth c H locs 0 0 (MQ below (va_Qv K (th_Post (dC, dI) (wM cs q) A) A) args s 0 0 A) (F0 m 245 ls []) := by
  have hx := C.1
  have hb := C.2.1
  unfold M_next__245 at hf
  refine lv_aload_n hx hb dX12_next__245 rfl (lv_at hl 0 rfl) ?_
  refine mg_26 C hw dX12_next__246 ?_
  refine lv_iconst (v := (4 : Int32)) hx hb dX12_next__249 (by decide) ?_
  refine lv_icmp_ge (tgt := 272) hx hb dX12_next__250 (by decide) (fun hc => ?_) (fun hc => ?_)
  · replace hf := hf.1 hc
    clear hc
    exact M_next__272_w C hk178 x2 x3 u _ _ _ hf hw (lv_sub hl [0, 1, 2] rfl)
  · replace hf := hf.2 hc
    clear hc
    refine lv_aload_n hx hb dX12_next__253 rfl (lv_at hl 0 rfl) ?_
    refine lv_bipush (v := (10 : Int32)) hx hb dX12_next__254 (by decide) ?_
    refine lv_aload_n hx hb dX12_next__256 rfl (lv_at hl 0 rfl) ?_
    refine mg_27 C hw dX12_next__257 ?_
    refine lv_imul hx hb dX12_next__260 ?_
    refine lv_aload_n hx hb dX12_next__261 rfl (lv_at hl 0 rfl) ?_
    refine th_callVi (As := []) (rest := [.int ((10 : Int32) * (u.1 27)), .ref (q 0)]) C lkX12_189 (M_peek_c hf) hw (mRc C hw) rfl rfl ⟨Nat.le_of_ble_eq_true rfl, Nat.le_of_ble_eq_true rfl⟩ hl.1 (Nat.le_of_ble_eq_true rfl) ⟨Nat.le_refl _, Nat.le_refl _⟩ dX12_next__262 (fun r_2 u_1 H locs hf hw => ?_)
    refine lv_iadd hx hb dX12_next__265 ?_
    refine lv_bipush (v := (48 : Int32)) hx hb dX12_next__266 (by decide) ?_
    refine lv_isub hx hb dX12_next__268 ?_
    refine mp_27 C hw dX12_next__269 (fun u_3 e9 H locs hw => ?_)
    replace hf := hf u_3 e9
    clear e9
    exact M_next__272_w C hk178 x2 x3 u_3 _ _ _ hf hw (lv_sub hl [0, 1, 2] rfl)
def M_next__218 (K : th_St → Prop) (k178 : Int32 → Int32 → th_St → Prop) (x2 : Int32) (z0 : Int32) (u : th_St) : Prop :=
  (((8 : Int32) ≤ (u.1 26) → M_next__245 K k178 x2 z0 u) ∧ (¬ (8 : Int32) ≤ (u.1 26) → M_peek u (fun r_2 u_1 => ∀ u_3 : th_St, u_3 = th_sj u_1 32 (((u.2.1 32) <<< (((8 : Int32)).toInt64 &&& 63)) ||| (r_2).toInt64) → M_next__245 K k178 x2 z0 u_3)))
set_option maxHeartbeats 4000000 in
set_option maxRecDepth 100000 in
theorem M_next__218_w {K : th_St → Prop} {k178 : Int32 → Int32 → th_St → Prop} (C : th_Cx p s m args meth c cX12_next_ RX12 4 (none) (dC, dI) (th_ty cs) th_E0 A) (hk178 : ∀ (x2 : Int32) (x3 : Int32) (u : th_St) (H : Heap) (locs : List Loc) (ls : Array Slot), k178 x2 x3 u → th_wI (dC, dI) (wM cs q) A s.heap u H locs → lv_has ls 4 [(0, .ref (q 0)), (2, .int x2), (3, .int x3)] → W p l e (th_rm 1 0 0) s m args below meth c H locs 0 0 (MQ below (va_Qv K (th_Post (dC, dI) (wM cs q) A) A) args s 0 0 A) (F0 m 178 ls [])) (x2 : Int32) (z0 : Int32) (u : th_St) (H : Heap) (locs : List Loc) (ls : Array Slot) (hf : M_next__218 K k178 x2 z0 u) (hw : th_wI (dC, dI) (wM cs q) A s.heap u H locs) (hl : lv_has ls 4 [(0, .ref (q 0)), (2, .int x2)]) : W p l e (th_rm 1 0 0) s m args below meth c H locs 0 0 (MQ below (va_Qv K (th_Post (dC, dI) (wM cs q) A) A) args s 0 0 A) (F0 m 218 ls [.int z0]) := by
  have hx := C.1
  have hb := C.2.1
  unfold M_next__218 at hf
  refine lv_istore_n (lv' := [(3, .int z0), (0, .ref (q 0)), (2, .int x2)]) hx hb dX12_next__218 rfl hl (by decide) rfl (fun ls hl => ?_)
  refine lv_aload_n hx hb dX12_next__219 rfl (lv_at hl 1 rfl) ?_
  refine mg_26 C hw dX12_next__220 ?_
  refine lv_bipush (v := (8 : Int32)) hx hb dX12_next__223 (by decide) ?_
  refine lv_icmp_ge (tgt := 245) hx hb dX12_next__225 (by decide) (fun hc => ?_) (fun hc => ?_)
  · replace hf := hf.1 hc
    clear hc
    exact M_next__245_w C hk178 x2 z0 u _ _ _ hf hw (lv_sub hl [1, 2, 0] rfl)
  · replace hf := hf.2 hc
    clear hc
    refine lv_aload_n hx hb dX12_next__228 rfl (lv_at hl 1 rfl) ?_
    refine lv_aload_n hx hb dX12_next__229 rfl (lv_at hl 1 rfl) ?_
    refine mg_32 C hw dX12_next__230 ?_
    refine lv_bipush (v := (8 : Int32)) hx hb dX12_next__233 (by decide) ?_
    refine lv_lshl hx hb dX12_next__235 rfl ?_
    refine lv_aload_n hx hb dX12_next__236 rfl (lv_at hl 1 rfl) ?_
    refine th_callVi (As := []) (rest := [.long ((u.2.1 32) <<< (((8 : Int32)).toInt64 &&& 63)), .ref (q 0)]) C lkX12_189 (M_peek_c hf) hw (mRc C hw) rfl rfl ⟨Nat.le_of_ble_eq_true rfl, Nat.le_of_ble_eq_true rfl⟩ hl.1 (Nat.le_of_ble_eq_true rfl) ⟨Nat.le_refl _, Nat.le_refl _⟩ dX12_next__237 (fun r_2 u_1 H locs hf hw => ?_)
    refine lv_i2l hx hb dX12_next__240 rfl ?_
    refine lv_lor hx hb dX12_next__241 ?_
    refine mp_32 C hw dX12_next__242 (fun u_3 e9 H locs hw => ?_)
    replace hf := hf u_3 e9
    clear e9
    exact M_next__245_w C hk178 x2 z0 u_3 _ _ _ hf hw (lv_sub hl [1, 2, 0] rfl)
def M_next__217 (K : th_St → Prop) (k178 : Int32 → Int32 → th_St → Prop) (x2 : Int32) (u : th_St) : Prop :=
  M_next__218 K k178 x2 (0 : Int32) u
set_option maxHeartbeats 4000000 in
set_option maxRecDepth 100000 in
theorem M_next__217_w {K : th_St → Prop} {k178 : Int32 → Int32 → th_St → Prop} (C : th_Cx p s m args meth c cX12_next_ RX12 4 (none) (dC, dI) (th_ty cs) th_E0 A) (hk178 : ∀ (x2 : Int32) (x3 : Int32) (u : th_St) (H : Heap) (locs : List Loc) (ls : Array Slot), k178 x2 x3 u → th_wI (dC, dI) (wM cs q) A s.heap u H locs → lv_has ls 4 [(0, .ref (q 0)), (2, .int x2), (3, .int x3)] → W p l e (th_rm 1 0 0) s m args below meth c H locs 0 0 (MQ below (va_Qv K (th_Post (dC, dI) (wM cs q) A) A) args s 0 0 A) (F0 m 178 ls [])) (x2 : Int32) (u : th_St) (H : Heap) (locs : List Loc) (ls : Array Slot) (hf : M_next__217 K k178 x2 u) (hw : th_wI (dC, dI) (wM cs q) A s.heap u H locs) (hl : lv_has ls 4 [(0, .ref (q 0)), (2, .int x2)]) : W p l e (th_rm 1 0 0) s m args below meth c H locs 0 0 (MQ below (va_Qv K (th_Post (dC, dI) (wM cs q) A) A) args s 0 0 A) (F0 m 217 ls []) := by
  have hx := C.1
  have hb := C.2.1
  unfold M_next__217 at hf
  refine lv_iconst (v := (0 : Int32)) hx hb dX12_next__217 (by decide) ?_
  exact M_next__218_w C hk178 x2 (0 : Int32) u _ _ _ hf hw (lv_sub hl [0, 1] rfl)
def M_next__198 (K : th_St → Prop) (k178 : Int32 → Int32 → th_St → Prop) (x2 : Int32) (x3 : Int32) (u : th_St) : Prop :=
  ((x3 = 0 → M_next__217 K k178 x2 u) ∧ (¬ x3 = 0 → M_peek u (fun r_2 u_1 => M_isSmall r_2 u_1 (fun r_4 u_3 => ((¬ r_4 = x2 → M_next__217 K k178 x2 u_3) ∧ (r_4 = x2 → M_next__218 K k178 x2 (1 : Int32) u_3))))))
set_option maxHeartbeats 4000000 in
set_option maxRecDepth 100000 in
theorem M_next__198_w {K : th_St → Prop} {k178 : Int32 → Int32 → th_St → Prop} (C : th_Cx p s m args meth c cX12_next_ RX12 4 (none) (dC, dI) (th_ty cs) th_E0 A) (hk178 : ∀ (x2 : Int32) (x3 : Int32) (u : th_St) (H : Heap) (locs : List Loc) (ls : Array Slot), k178 x2 x3 u → th_wI (dC, dI) (wM cs q) A s.heap u H locs → lv_has ls 4 [(0, .ref (q 0)), (2, .int x2), (3, .int x3)] → W p l e (th_rm 1 0 0) s m args below meth c H locs 0 0 (MQ below (va_Qv K (th_Post (dC, dI) (wM cs q) A) A) args s 0 0 A) (F0 m 178 ls [])) (x2 : Int32) (x3 : Int32) (u : th_St) (H : Heap) (locs : List Loc) (ls : Array Slot) (hf : M_next__198 K k178 x2 x3 u) (hw : th_wI (dC, dI) (wM cs q) A s.heap u H locs) (hl : lv_has ls 4 [(0, .ref (q 0)), (2, .int x2), (3, .int x3)]) : W p l e (th_rm 1 0 0) s m args below meth c H locs 0 0 (MQ below (va_Qv K (th_Post (dC, dI) (wM cs q) A) A) args s 0 0 A) (F0 m 198 ls []) := by
  have hx := C.1
  have hb := C.2.1
  unfold M_next__198 at hf
  refine lv_iload_n hx hb dX12_next__198 rfl (lv_at hl 2 rfl) ?_
  refine lv_if_eq (tgt := 217) hx hb dX12_next__199 (by decide) (fun hc => ?_) (fun hc => ?_)
  · replace hf := hf.1 hc
    clear hc
    exact M_next__217_w C hk178 x2 u _ _ _ hf hw (lv_sub hl [0, 1] rfl)
  · replace hf := hf.2 hc
    clear hc
    refine lv_aload_n hx hb dX12_next__202 rfl (lv_at hl 0 rfl) ?_
    refine th_callVi (As := []) (rest := []) C lkX12_189 (M_peek_c hf) hw (mRc C hw) rfl rfl ⟨Nat.le_of_ble_eq_true rfl, Nat.le_of_ble_eq_true rfl⟩ hl.1 (Nat.le_of_ble_eq_true rfl) ⟨Nat.le_refl _, Nat.le_refl _⟩ dX12_next__203 (fun r_2 u_1 H locs hf hw => ?_)
    refine th_callSi (As := [.int r_2]) (rest := []) C lkX12_201 (M_isSmall_c hf) hw rfl rfl ⟨Nat.le_of_ble_eq_true rfl, Nat.le_of_ble_eq_true rfl⟩ hl.1 (Nat.le_of_ble_eq_true rfl) ⟨Nat.le_refl _, Nat.le_refl _⟩ dX12_next__206 (fun r_4 u_3 H locs hf hw => ?_)
    refine lv_iload_n hx hb dX12_next__209 rfl (lv_at hl 1 rfl) ?_
    refine lv_icmp_ne (tgt := 217) hx hb dX12_next__210 (by decide) (fun hc => ?_) (fun hc => ?_)
    · replace hf := hf.1 hc
      clear hc
      exact M_next__217_w C hk178 x2 u_3 _ _ _ hf hw (lv_sub hl [0, 1] rfl)
    · replace hf := hf.2 hc
      clear hc
      refine lv_iconst (v := (1 : Int32)) hx hb dX12_next__213 (by decide) ?_
      refine lv_goto (tgt := 218) hx hb dX12_next__214 (by decide) ?_
      exact M_next__218_w C hk178 x2 (1 : Int32) u_3 _ _ _ hf hw (lv_sub hl [0, 1] rfl)
def M_next__330 (K : th_St → Prop) (z0 : Int32) (u : th_St) : Prop :=
  ∀ u_1 : th_St, u_1 = th_si u 24 z0 → K u_1
set_option maxHeartbeats 4000000 in
set_option maxRecDepth 100000 in
theorem M_next__330_w {K : th_St → Prop} (C : th_Cx p s m args meth c cX12_next_ RX12 4 (none) (dC, dI) (th_ty cs) th_E0 A) (z0 : Int32) (u : th_St) (H : Heap) (locs : List Loc) (ls : Array Slot) (hf : M_next__330 K z0 u) (hw : th_wI (dC, dI) (wM cs q) A s.heap u H locs) (hl : lv_has ls 4 []) : W p l e (th_rm 1 0 0) s m args below meth c H locs 0 0 (MQ below (va_Qv K (th_Post (dC, dI) (wM cs q) A) A) args s 0 0 A) (F0 m 330 ls [.int z0, .ref (q 0)]) := by
  have hx := C.1
  have hb := C.2.1
  unfold M_next__330 at hf
  refine mp_24 C hw dX12_next__330 (fun u_1 e9 H locs hw => ?_)
  replace hf := hf u_1 e9
  clear e9
  exact th_vret C hw hf dX12_next__333
def M_next__317 (K : th_St → Prop) (u : th_St) : Prop :=
  M_next__330 K (4 : Int32) u
set_option maxHeartbeats 4000000 in
set_option maxRecDepth 100000 in
theorem M_next__317_w {K : th_St → Prop} (C : th_Cx p s m args meth c cX12_next_ RX12 4 (none) (dC, dI) (th_ty cs) th_E0 A) (u : th_St) (H : Heap) (locs : List Loc) (ls : Array Slot) (hf : M_next__317 K u) (hw : th_wI (dC, dI) (wM cs q) A s.heap u H locs) (hl : lv_has ls 4 []) : W p l e (th_rm 1 0 0) s m args below meth c H locs 0 0 (MQ below (va_Qv K (th_Post (dC, dI) (wM cs q) A) A) args s 0 0 A) (F0 m 317 ls [.ref (q 0)]) := by
  have hx := C.1
  have hb := C.2.1
  unfold M_next__317 at hf
  refine lv_iconst (v := (4 : Int32)) hx hb dX12_next__317 (by decide) ?_
  refine lv_goto (tgt := 330) hx hb dX12_next__318 (by decide) ?_
  exact M_next__330_w C (4 : Int32) u _ _ _ hf hw (lv_sub hl [] rfl)
def M_next__314 (K : th_St → Prop) (x2 : Int32) (z0 : Int32) (z1 : Int32) (u : th_St) : Prop :=
  ((z1 ≤ z0 → ((x2 = 0 → M_next__330 K (2 : Int32) u) ∧ (¬ x2 = 0 → M_next__330 K (1 : Int32) u))) ∧ (¬ z1 ≤ z0 → M_next__317 K u))
set_option maxHeartbeats 4000000 in
set_option maxRecDepth 100000 in
theorem M_next__314_w {K : th_St → Prop} (C : th_Cx p s m args meth c cX12_next_ RX12 4 (none) (dC, dI) (th_ty cs) th_E0 A) (x2 : Int32) (z0 : Int32) (z1 : Int32) (u : th_St) (H : Heap) (locs : List Loc) (ls : Array Slot) (hf : M_next__314 K x2 z0 z1 u) (hw : th_wI (dC, dI) (wM cs q) A s.heap u H locs) (hl : lv_has ls 4 [(2, .int x2)]) : W p l e (th_rm 1 0 0) s m args below meth c H locs 0 0 (MQ below (va_Qv K (th_Post (dC, dI) (wM cs q) A) A) args s 0 0 A) (F0 m 314 ls [.int z0, .int z1, .ref (q 0)]) := by
  have hx := C.1
  have hb := C.2.1
  unfold M_next__314 at hf
  refine lv_icmp_le (tgt := 321) hx hb dX12_next__314 (by decide) (fun hc => ?_) (fun hc => ?_)
  · replace hf := hf.1 hc
    clear hc
    refine lv_iload_n hx hb dX12_next__321 rfl (lv_at hl 0 rfl) ?_
    refine lv_if_eq (tgt := 329) hx hb dX12_next__322 (by decide) (fun hc => ?_) (fun hc => ?_)
    · replace hf := hf.1 hc
      clear hc
      refine lv_iconst (v := (2 : Int32)) hx hb dX12_next__329 (by decide) ?_
      exact M_next__330_w C (2 : Int32) u _ _ _ hf hw (lv_sub hl [] rfl)
    · replace hf := hf.2 hc
      clear hc
      refine lv_iconst (v := (1 : Int32)) hx hb dX12_next__325 (by decide) ?_
      refine lv_goto (tgt := 330) hx hb dX12_next__326 (by decide) ?_
      exact M_next__330_w C (1 : Int32) u _ _ _ hf hw (lv_sub hl [] rfl)
  · replace hf := hf.2 hc
    clear hc
    exact M_next__317_w C  u _ _ _ hf hw (lv_sub hl [] rfl)
def M_next__178 (K : th_St → Prop) (k178 : Int32 → Int32 → th_St → Prop) (x2 : Int32) (x3 : Int32) (u : th_St) : Prop :=
  M_peek u (fun r_2 u_1 => M_isSmall r_2 u_1 (fun r_4 u_3 => ((¬ r_4 = 0 → M_next__198 K k178 x2 x3 u_3) ∧ (r_4 = 0 → M_peek u_3 (fun r_6 u_5 => M_isDigit r_6 u_5 (fun r_8 u_7 => ((r_8 = 0 → ((x3 = 0 → M_next__317 K u_7) ∧ (¬ x3 = 0 → ((x2 = 0 → M_next__314 K x2 (4 : Int32) (u_7.1 26) u_7) ∧ (¬ x2 = 0 → M_next__314 K x2 (8 : Int32) (u_7.1 26) u_7))))) ∧ (¬ r_8 = 0 → M_next__198 K k178 x2 x3 u_7))))))))
set_option maxHeartbeats 4000000 in
set_option maxRecDepth 100000 in
theorem M_next__178_w {K : th_St → Prop} {k178 : Int32 → Int32 → th_St → Prop} (C : th_Cx p s m args meth c cX12_next_ RX12 4 (none) (dC, dI) (th_ty cs) th_E0 A) (hk178 : ∀ (x2 : Int32) (x3 : Int32) (u : th_St) (H : Heap) (locs : List Loc) (ls : Array Slot), k178 x2 x3 u → th_wI (dC, dI) (wM cs q) A s.heap u H locs → lv_has ls 4 [(0, .ref (q 0)), (2, .int x2), (3, .int x3)] → W p l e (th_rm 1 0 0) s m args below meth c H locs 0 0 (MQ below (va_Qv K (th_Post (dC, dI) (wM cs q) A) A) args s 0 0 A) (F0 m 178 ls [])) (x2 : Int32) (x3 : Int32) (u : th_St) (H : Heap) (locs : List Loc) (ls : Array Slot) (hf : M_next__178 K k178 x2 x3 u) (hw : th_wI (dC, dI) (wM cs q) A s.heap u H locs) (hl : lv_has ls 4 [(0, .ref (q 0)), (2, .int x2), (3, .int x3)]) : W p l e (th_rm 1 0 0) s m args below meth c H locs 0 0 (MQ below (va_Qv K (th_Post (dC, dI) (wM cs q) A) A) args s 0 0 A) (F0 m 178 ls []) := by
  have hx := C.1
  have hb := C.2.1
  unfold M_next__178 at hf
  refine lv_aload_n hx hb dX12_next__178 rfl (lv_at hl 0 rfl) ?_
  refine th_callVi (As := []) (rest := []) C lkX12_189 (M_peek_c hf) hw (mRc C hw) rfl rfl ⟨Nat.le_of_ble_eq_true rfl, Nat.le_of_ble_eq_true rfl⟩ hl.1 (Nat.le_of_ble_eq_true rfl) ⟨Nat.le_refl _, Nat.le_refl _⟩ dX12_next__179 (fun r_2 u_1 H locs hf hw => ?_)
  refine th_callSi (As := [.int r_2]) (rest := []) C lkX12_201 (M_isSmall_c hf) hw rfl rfl ⟨Nat.le_of_ble_eq_true rfl, Nat.le_of_ble_eq_true rfl⟩ hl.1 (Nat.le_of_ble_eq_true rfl) ⟨Nat.le_refl _, Nat.le_refl _⟩ dX12_next__182 (fun r_4 u_3 H locs hf hw => ?_)
  refine lv_if_ne (tgt := 198) hx hb dX12_next__185 (by decide) (fun hc => ?_) (fun hc => ?_)
  · replace hf := hf.1 hc
    clear hc
    exact M_next__198_w C hk178 x2 x3 u_3 _ _ _ hf hw (lv_sub hl [0, 1, 2] rfl)
  · replace hf := hf.2 hc
    clear hc
    refine lv_aload_n hx hb dX12_next__188 rfl (lv_at hl 0 rfl) ?_
    refine th_callVi (As := []) (rest := []) C lkX12_189 (M_peek_c hf) hw (mRc C hw) rfl rfl ⟨Nat.le_of_ble_eq_true rfl, Nat.le_of_ble_eq_true rfl⟩ hl.1 (Nat.le_of_ble_eq_true rfl) ⟨Nat.le_refl _, Nat.le_refl _⟩ dX12_next__189 (fun r_6 u_5 H locs hf hw => ?_)
    refine th_callSi (As := [.int r_6]) (rest := []) C lkX12_205 (M_isDigit_c hf) hw rfl rfl ⟨Nat.le_of_ble_eq_true rfl, Nat.le_of_ble_eq_true rfl⟩ hl.1 (Nat.le_of_ble_eq_true rfl) ⟨Nat.le_refl _, Nat.le_refl _⟩ dX12_next__192 (fun r_8 u_7 H locs hf hw => ?_)
    refine lv_if_eq (tgt := 295) hx hb dX12_next__195 (by decide) (fun hc => ?_) (fun hc => ?_)
    · replace hf := hf.1 hc
      clear hc
      refine lv_aload_n hx hb dX12_next__295 rfl (lv_at hl 0 rfl) ?_
      refine lv_iload_n hx hb dX12_next__296 rfl (lv_at hl 2 rfl) ?_
      refine lv_if_eq (tgt := 317) hx hb dX12_next__297 (by decide) (fun hc => ?_) (fun hc => ?_)
      · replace hf := hf.1 hc
        clear hc
        exact M_next__317_w C  u_7 _ _ _ hf hw (lv_sub hl [] rfl)
      · replace hf := hf.2 hc
        clear hc
        refine lv_aload_n hx hb dX12_next__300 rfl (lv_at hl 0 rfl) ?_
        refine mg_26 C hw dX12_next__301 ?_
        refine lv_iload_n hx hb dX12_next__304 rfl (lv_at hl 1 rfl) ?_
        refine lv_if_eq (tgt := 313) hx hb dX12_next__305 (by decide) (fun hc => ?_) (fun hc => ?_)
        · replace hf := hf.1 hc
          clear hc
          refine lv_iconst (v := (4 : Int32)) hx hb dX12_next__313 (by decide) ?_
          exact M_next__314_w C x2 (4 : Int32) (u_7.1 26) u_7 _ _ _ hf hw (lv_sub hl [1] rfl)
        · replace hf := hf.2 hc
          clear hc
          refine lv_bipush (v := (8 : Int32)) hx hb dX12_next__308 (by decide) ?_
          refine lv_goto (tgt := 314) hx hb dX12_next__310 (by decide) ?_
          exact M_next__314_w C x2 (8 : Int32) (u_7.1 26) u_7 _ _ _ hf hw (lv_sub hl [1] rfl)
    · replace hf := hf.2 hc
      clear hc
      exact M_next__198_w C hk178 x2 x3 u_7 _ _ _ hf hw (lv_sub hl [0, 1, 2] rfl)
def M_next__178_lp (K : th_St → Prop) : Nat → Int32 → Int32 → th_St → Prop
  | 0, _, _, _ => False
  | n + 1, x2, x3, u => M_next__178 K (M_next__178_lp K n) x2 x3 u
set_option maxHeartbeats 4000000 in
set_option maxRecDepth 100000 in
theorem M_next__178_lw {K : th_St → Prop} (C : th_Cx p s m args meth c cX12_next_ RX12 4 (none) (dC, dI) (th_ty cs) th_E0 A) (n : Nat) : ∀ (x2 : Int32) (x3 : Int32) (u : th_St) (H : Heap) (locs : List Loc) (ls : Array Slot), M_next__178_lp K n x2 x3 u → th_wI (dC, dI) (wM cs q) A s.heap u H locs → lv_has ls 4 [(0, .ref (q 0)), (2, .int x2), (3, .int x3)] → W p l e (th_rm 1 0 0) s m args below meth c H locs 0 0 (MQ below (va_Qv K (th_Post (dC, dI) (wM cs q) A) A) args s 0 0 A) (F0 m 178 ls []) := by
  induction n with
  | zero => intro x2 x3 u H locs ls hf; exact hf.elim
  | succ n ih =>
    intro x2 x3 u H locs ls hf hw hl
    exact M_next__178_w C ih x2 x3 u H locs ls hf hw hl
def M_next__161 (K : th_St → Prop) (x1 : Int32) (u : th_St) : Prop :=
  M_isSmall x1 u (fun r_2 u_1 => ∀ u_3 : th_St, u_3 = th_sj u_1 32 (0 : Int64) → ∀ u_4 : th_St, u_4 = th_si u_3 27 (0 : Int32) → ∃ n, M_next__178_lp K n r_2 (1 : Int32) u_4)
set_option maxHeartbeats 4000000 in
set_option maxRecDepth 100000 in
theorem M_next__161_w {K : th_St → Prop} (C : th_Cx p s m args meth c cX12_next_ RX12 4 (none) (dC, dI) (th_ty cs) th_E0 A) (x1 : Int32) (u : th_St) (H : Heap) (locs : List Loc) (ls : Array Slot) (hf : M_next__161 K x1 u) (hw : th_wI (dC, dI) (wM cs q) A s.heap u H locs) (hl : lv_has ls 4 [(0, .ref (q 0)), (1, .int x1)]) : W p l e (th_rm 1 0 0) s m args below meth c H locs 0 0 (MQ below (va_Qv K (th_Post (dC, dI) (wM cs q) A) A) args s 0 0 A) (F0 m 161 ls []) := by
  have hx := C.1
  have hb := C.2.1
  unfold M_next__161 at hf
  refine lv_iload_n hx hb dX12_next__161 rfl (lv_at hl 1 rfl) ?_
  refine th_callSi (As := [.int x1]) (rest := []) C lkX12_201 (M_isSmall_c hf) hw rfl rfl ⟨Nat.le_of_ble_eq_true rfl, Nat.le_of_ble_eq_true rfl⟩ hl.1 (Nat.le_of_ble_eq_true rfl) ⟨Nat.le_refl _, Nat.le_refl _⟩ dX12_next__162 (fun r_2 u_1 H locs hf hw => ?_)
  refine lv_istore_n (lv' := [(2, .int r_2), (0, .ref (q 0)), (1, .int x1)]) hx hb dX12_next__165 rfl hl (by decide) rfl (fun ls hl => ?_)
  refine lv_iconst (v := (1 : Int32)) hx hb dX12_next__166 (by decide) ?_
  refine lv_istore_n (lv' := [(3, .int (1 : Int32)), (2, .int r_2), (0, .ref (q 0)), (1, .int x1)]) hx hb dX12_next__167 rfl hl (by decide) rfl (fun ls hl => ?_)
  refine lv_aload_n hx hb dX12_next__168 rfl (lv_at hl 2 rfl) ?_
  refine lv_lconst (v := (0 : Int64)) hx hb dX12_next__169 (by decide) ?_
  refine mp_32 C hw dX12_next__170 (fun u_3 e9 H locs hw => ?_)
  replace hf := hf u_3 e9
  clear e9
  refine lv_aload_n hx hb dX12_next__173 rfl (lv_at hl 2 rfl) ?_
  refine lv_iconst (v := (0 : Int32)) hx hb dX12_next__174 (by decide) ?_
  refine mp_27 C hw dX12_next__175 (fun u_4 e9 H locs hw => ?_)
  replace hf := hf u_4 e9
  clear e9
  obtain ⟨n, hf⟩ := hf
  exact M_next__178_lw C n r_2 (1 : Int32) u_4 _ _ _ hf hw (lv_sub hl [2, 1, 0] rfl)
def M_next__77 (K : th_St → Prop) (u : th_St) : Prop :=
  M_peek u (fun r_2 u_1 => ((0 ≤ r_2 → M_isSmall r_2 u_1 (fun r_4 u_3 => ((¬ r_4 = 0 → M_next__161 K r_2 u_3) ∧ (r_4 = 0 → M_isDigit r_2 u_3 (fun r_6 u_5 => ((¬ r_6 = 0 → M_next__161 K r_2 u_5) ∧ (r_6 = 0 → ((r_2 = (59 : Int32) → M_next__137 K r_2 u_5) ∧ (¬ r_2 = (59 : Int32) → ((r_2 = (40 : Int32) → M_next__137 K r_2 u_5) ∧ (¬ r_2 = (40 : Int32) → ((r_2 = (41 : Int32) → M_next__137 K r_2 u_5) ∧ (¬ r_2 = (41 : Int32) → ((r_2 < (60 : Int32) → M_next__141 K r_2 u_5) ∧ (¬ r_2 < (60 : Int32) → (((62 : Int32) < r_2 → M_next__141 K r_2 u_5) ∧ (¬ (62 : Int32) < r_2 → M_next__137 K r_2 u_5))))))))))))))))) ∧ (¬ 0 ≤ r_2 → ∀ u_7 : th_St, u_7 = th_si u_1 24 (0 : Int32) → K u_7)))
set_option maxHeartbeats 4000000 in
set_option maxRecDepth 100000 in
theorem M_next__77_w {K : th_St → Prop} (C : th_Cx p s m args meth c cX12_next_ RX12 4 (none) (dC, dI) (th_ty cs) th_E0 A) (u : th_St) (H : Heap) (locs : List Loc) (ls : Array Slot) (hf : M_next__77 K u) (hw : th_wI (dC, dI) (wM cs q) A s.heap u H locs) (hl : lv_has ls 4 [(0, .ref (q 0))]) : W p l e (th_rm 1 0 0) s m args below meth c H locs 0 0 (MQ below (va_Qv K (th_Post (dC, dI) (wM cs q) A) A) args s 0 0 A) (F0 m 77 ls []) := by
  have hx := C.1
  have hb := C.2.1
  unfold M_next__77 at hf
  refine lv_aload_n hx hb dX12_next__77 rfl (lv_at hl 0 rfl) ?_
  refine th_callVi (As := []) (rest := []) C lkX12_189 (M_peek_c hf) hw (mRc C hw) rfl rfl ⟨Nat.le_of_ble_eq_true rfl, Nat.le_of_ble_eq_true rfl⟩ hl.1 (Nat.le_of_ble_eq_true rfl) ⟨Nat.le_refl _, Nat.le_refl _⟩ dX12_next__78 (fun r_2 u_1 H locs hf hw => ?_)
  refine lv_istore_n (lv' := [(1, .int r_2), (0, .ref (q 0))]) hx hb dX12_next__81 rfl hl (by decide) rfl (fun ls hl => ?_)
  refine lv_iload_n hx hb dX12_next__82 rfl (lv_at hl 0 rfl) ?_
  refine lv_if_ge (tgt := 92) hx hb dX12_next__83 (by decide) (fun hc => ?_) (fun hc => ?_)
  · replace hf := hf.1 hc
    clear hc
    refine lv_iload_n hx hb dX12_next__92 rfl (lv_at hl 0 rfl) ?_
    refine th_callSi (As := [.int r_2]) (rest := []) C lkX12_201 (M_isSmall_c hf) hw rfl rfl ⟨Nat.le_of_ble_eq_true rfl, Nat.le_of_ble_eq_true rfl⟩ hl.1 (Nat.le_of_ble_eq_true rfl) ⟨Nat.le_refl _, Nat.le_refl _⟩ dX12_next__93 (fun r_4 u_3 H locs hf hw => ?_)
    refine lv_if_ne (tgt := 161) hx hb dX12_next__96 (by decide) (fun hc => ?_) (fun hc => ?_)
    · replace hf := hf.1 hc
      clear hc
      exact M_next__161_w C r_2 u_3 _ _ _ hf hw (lv_sub hl [1, 0] rfl)
    · replace hf := hf.2 hc
      clear hc
      refine lv_iload_n hx hb dX12_next__99 rfl (lv_at hl 0 rfl) ?_
      refine th_callSi (As := [.int r_2]) (rest := []) C lkX12_205 (M_isDigit_c hf) hw rfl rfl ⟨Nat.le_of_ble_eq_true rfl, Nat.le_of_ble_eq_true rfl⟩ hl.1 (Nat.le_of_ble_eq_true rfl) ⟨Nat.le_refl _, Nat.le_refl _⟩ dX12_next__100 (fun r_6 u_5 H locs hf hw => ?_)
      refine lv_if_ne (tgt := 161) hx hb dX12_next__103 (by decide) (fun hc => ?_) (fun hc => ?_)
      · replace hf := hf.1 hc
        clear hc
        exact M_next__161_w C r_2 u_5 _ _ _ hf hw (lv_sub hl [1, 0] rfl)
      · replace hf := hf.2 hc
        clear hc
        refine lv_aload_n hx hb dX12_next__106 rfl (lv_at hl 1 rfl) ?_
        refine lv_iload_n hx hb dX12_next__107 rfl (lv_at hl 0 rfl) ?_
        refine lv_bipush (v := (59 : Int32)) hx hb dX12_next__108 (by decide) ?_
        refine lv_icmp_eq (tgt := 137) hx hb dX12_next__110 (by decide) (fun hc => ?_) (fun hc => ?_)
        · replace hf := hf.1 hc
          clear hc
          exact M_next__137_w C r_2 u_5 _ _ _ hf hw (lv_sub hl [1, 0] rfl)
        · replace hf := hf.2 hc
          clear hc
          refine lv_iload_n hx hb dX12_next__113 rfl (lv_at hl 0 rfl) ?_
          refine lv_bipush (v := (40 : Int32)) hx hb dX12_next__114 (by decide) ?_
          refine lv_icmp_eq (tgt := 137) hx hb dX12_next__116 (by decide) (fun hc => ?_) (fun hc => ?_)
          · replace hf := hf.1 hc
            clear hc
            exact M_next__137_w C r_2 u_5 _ _ _ hf hw (lv_sub hl [1, 0] rfl)
          · replace hf := hf.2 hc
            clear hc
            refine lv_iload_n hx hb dX12_next__119 rfl (lv_at hl 0 rfl) ?_
            refine lv_bipush (v := (41 : Int32)) hx hb dX12_next__120 (by decide) ?_
            refine lv_icmp_eq (tgt := 137) hx hb dX12_next__122 (by decide) (fun hc => ?_) (fun hc => ?_)
            · replace hf := hf.1 hc
              clear hc
              exact M_next__137_w C r_2 u_5 _ _ _ hf hw (lv_sub hl [1, 0] rfl)
            · replace hf := hf.2 hc
              clear hc
              refine lv_iload_n hx hb dX12_next__125 rfl (lv_at hl 0 rfl) ?_
              refine lv_bipush (v := (60 : Int32)) hx hb dX12_next__126 (by decide) ?_
              refine lv_icmp_lt (tgt := 141) hx hb dX12_next__128 (by decide) (fun hc => ?_) (fun hc => ?_)
              · replace hf := hf.1 hc
                clear hc
                exact M_next__141_w C r_2 u_5 _ _ _ hf hw (lv_sub hl [1, 0] rfl)
              · replace hf := hf.2 hc
                clear hc
                refine lv_iload_n hx hb dX12_next__131 rfl (lv_at hl 0 rfl) ?_
                refine lv_bipush (v := (62 : Int32)) hx hb dX12_next__132 (by decide) ?_
                refine lv_icmp_gt (tgt := 141) hx hb dX12_next__134 (by decide) (fun hc => ?_) (fun hc => ?_)
                · replace hf := hf.1 hc
                  clear hc
                  exact M_next__141_w C r_2 u_5 _ _ _ hf hw (lv_sub hl [1, 0] rfl)
                · replace hf := hf.2 hc
                  clear hc
                  exact M_next__137_w C r_2 u_5 _ _ _ hf hw (lv_sub hl [1, 0] rfl)
  · replace hf := hf.2 hc
    clear hc
    refine lv_aload_n hx hb dX12_next__86 rfl (lv_at hl 1 rfl) ?_
    refine lv_iconst (v := (0 : Int32)) hx hb dX12_next__87 (by decide) ?_
    refine mp_24 C hw dX12_next__88 (fun u_7 e9 H locs hw => ?_)
    replace hf := hf u_7 e9
    clear e9
    exact th_vret C hw hf dX12_next__91
def M_next__0 (K : th_St → Prop) (k0 : th_St → Prop) (u : th_St) : Prop :=
  M_peek u (fun r_2 u_1 => ((r_2 = (32 : Int32) → M_next__18 K k0 u_1) ∧ (¬ r_2 = (32 : Int32) → M_peek u_1 (fun r_4 u_3 => ((¬ r_4 = (10 : Int32) → ∀ u_5 : th_St, u_5 = th_si u_3 25 (u_3.1 4) → ∀ u_6 : th_St, u_6 = th_si u_5 26 (0 : Int32) → (((u_6.1 3) ≤ (400 : Int32) → M_next__77 K u_6) ∧ (¬ (u_6.1 3) ≤ (400 : Int32) → (((u_6.1 4) < (400 : Int32) → M_next__77 K u_6) ∧ (¬ (u_6.1 4) < (400 : Int32) → ∀ u_7 : th_St, u_7 = th_si u_6 25 (400 : Int32) → ∀ u_8 : th_St, u_8 = th_si u_7 24 (4 : Int32) → K u_8))))) ∧ (r_4 = (10 : Int32) → M_next__18 K k0 u_3))))))
set_option maxHeartbeats 4000000 in
set_option maxRecDepth 100000 in
theorem M_next__0_w {K : th_St → Prop} {k0 : th_St → Prop} (C : th_Cx p s m args meth c cX12_next_ RX12 4 (none) (dC, dI) (th_ty cs) th_E0 A) (hk0 : ∀ (u : th_St) (H : Heap) (locs : List Loc) (ls : Array Slot), k0 u → th_wI (dC, dI) (wM cs q) A s.heap u H locs → lv_has ls 4 [(0, .ref (q 0))] → W p l e (th_rm 1 0 0) s m args below meth c H locs 0 0 (MQ below (va_Qv K (th_Post (dC, dI) (wM cs q) A) A) args s 0 0 A) (F0 m 0 ls [])) (u : th_St) (H : Heap) (locs : List Loc) (ls : Array Slot) (hf : M_next__0 K k0 u) (hw : th_wI (dC, dI) (wM cs q) A s.heap u H locs) (hl : lv_has ls 4 [(0, .ref (q 0))]) : W p l e (th_rm 1 0 0) s m args below meth c H locs 0 0 (MQ below (va_Qv K (th_Post (dC, dI) (wM cs q) A) A) args s 0 0 A) (F0 m 0 ls []) := by
  have hx := C.1
  have hb := C.2.1
  unfold M_next__0 at hf
  refine lv_aload_n hx hb dX12_next__0 rfl (lv_at hl 0 rfl) ?_
  refine th_callVi (As := []) (rest := []) C lkX12_189 (M_peek_c hf) hw (mRc C hw) rfl rfl ⟨Nat.le_of_ble_eq_true rfl, Nat.le_of_ble_eq_true rfl⟩ hl.1 (Nat.le_of_ble_eq_true rfl) ⟨Nat.le_refl _, Nat.le_refl _⟩ dX12_next__1 (fun r_2 u_1 H locs hf hw => ?_)
  refine lv_bipush (v := (32 : Int32)) hx hb dX12_next__4 (by decide) ?_
  refine lv_icmp_eq (tgt := 18) hx hb dX12_next__6 (by decide) (fun hc => ?_) (fun hc => ?_)
  · replace hf := hf.1 hc
    clear hc
    exact M_next__18_w C hk0  u_1 _ _ _ hf hw (lv_sub hl [0] rfl)
  · replace hf := hf.2 hc
    clear hc
    refine lv_aload_n hx hb dX12_next__9 rfl (lv_at hl 0 rfl) ?_
    refine th_callVi (As := []) (rest := []) C lkX12_189 (M_peek_c hf) hw (mRc C hw) rfl rfl ⟨Nat.le_of_ble_eq_true rfl, Nat.le_of_ble_eq_true rfl⟩ hl.1 (Nat.le_of_ble_eq_true rfl) ⟨Nat.le_refl _, Nat.le_refl _⟩ dX12_next__10 (fun r_4 u_3 H locs hf hw => ?_)
    refine lv_bipush (v := (10 : Int32)) hx hb dX12_next__13 (by decide) ?_
    refine lv_icmp_ne (tgt := 31) hx hb dX12_next__15 (by decide) (fun hc => ?_) (fun hc => ?_)
    · replace hf := hf.1 hc
      clear hc
      refine lv_aload_n hx hb dX12_next__31 rfl (lv_at hl 0 rfl) ?_
      refine lv_aload_n hx hb dX12_next__32 rfl (lv_at hl 0 rfl) ?_
      refine mg_4 C hw dX12_next__33 ?_
      refine mp_25 C hw dX12_next__36 (fun u_5 e9 H locs hw => ?_)
      replace hf := hf u_5 e9
      clear e9
      refine lv_aload_n hx hb dX12_next__39 rfl (lv_at hl 0 rfl) ?_
      refine lv_iconst (v := (0 : Int32)) hx hb dX12_next__40 (by decide) ?_
      refine mp_26 C hw dX12_next__41 (fun u_6 e9 H locs hw => ?_)
      replace hf := hf u_6 e9
      clear e9
      refine lv_aload_n hx hb dX12_next__44 rfl (lv_at hl 0 rfl) ?_
      refine mg_3 C hw dX12_next__45 ?_
      refine lv_sipush (v := (400 : Int32)) hx hb dX12_next__48 (by decide) ?_
      refine lv_icmp_le (tgt := 77) hx hb dX12_next__51 (by decide) (fun hc => ?_) (fun hc => ?_)
      · replace hf := hf.1 hc
        clear hc
        exact M_next__77_w C  u_6 _ _ _ hf hw (lv_sub hl [0] rfl)
      · replace hf := hf.2 hc
        clear hc
        refine lv_aload_n hx hb dX12_next__54 rfl (lv_at hl 0 rfl) ?_
        refine mg_4 C hw dX12_next__55 ?_
        refine lv_sipush (v := (400 : Int32)) hx hb dX12_next__58 (by decide) ?_
        refine lv_icmp_lt (tgt := 77) hx hb dX12_next__61 (by decide) (fun hc => ?_) (fun hc => ?_)
        · replace hf := hf.1 hc
          clear hc
          exact M_next__77_w C  u_6 _ _ _ hf hw (lv_sub hl [0] rfl)
        · replace hf := hf.2 hc
          clear hc
          refine lv_aload_n hx hb dX12_next__64 rfl (lv_at hl 0 rfl) ?_
          refine lv_sipush (v := (400 : Int32)) hx hb dX12_next__65 (by decide) ?_
          refine mp_25 C hw dX12_next__68 (fun u_7 e9 H locs hw => ?_)
          replace hf := hf u_7 e9
          clear e9
          refine lv_aload_n hx hb dX12_next__71 rfl (lv_at hl 0 rfl) ?_
          refine lv_iconst (v := (4 : Int32)) hx hb dX12_next__72 (by decide) ?_
          refine mp_24 C hw dX12_next__73 (fun u_8 e9 H locs hw => ?_)
          replace hf := hf u_8 e9
          clear e9
          exact th_vret C hw hf dX12_next__76
    · replace hf := hf.2 hc
      clear hc
      exact M_next__18_w C hk0  u_3 _ _ _ hf hw (lv_sub hl [0] rfl)
def M_next__0_lp (K : th_St → Prop) : Nat → th_St → Prop
  | 0, _ => False
  | n + 1, u => M_next__0 K (M_next__0_lp K n) u
set_option maxHeartbeats 4000000 in
set_option maxRecDepth 100000 in
theorem M_next__0_lw {K : th_St → Prop} (C : th_Cx p s m args meth c cX12_next_ RX12 4 (none) (dC, dI) (th_ty cs) th_E0 A) (n : Nat) : ∀ (u : th_St) (H : Heap) (locs : List Loc) (ls : Array Slot), M_next__0_lp K n u → th_wI (dC, dI) (wM cs q) A s.heap u H locs → lv_has ls 4 [(0, .ref (q 0))] → W p l e (th_rm 1 0 0) s m args below meth c H locs 0 0 (MQ below (va_Qv K (th_Post (dC, dI) (wM cs q) A) A) args s 0 0 A) (F0 m 0 ls []) := by
  induction n with
  | zero => intro u H locs ls hf; exact hf.elim
  | succ n ih =>
    intro u H locs ls hf hw hl
    exact M_next__0_w C ih u H locs ls hf hw hl
def M_next_ (u : th_St) (K : th_St → Prop) : Prop :=
  ∃ n, M_next__0_lp K n u
set_option maxHeartbeats 4000000 in
set_option maxRecDepth 100000 in
theorem M_next__c {l : Launch} {dC : Nat → ClassId} {dI : Nat → Nat → Nat} {cs : Nat → ClassId} {q : Nat → Nat} {u : th_St} {K : th_St → Prop} (hf : M_next_ u K) : th_Cv l yX12_next_ cX12_next_ 4 (none) 1 0 0 (dC, dI) (th_ty cs) th_E0 (wM cs q) [.ref (q 0)] u K := by
  refine th_ofv (by decide) (Nat.le_of_ble_eq_true rfl) th_E0_ok ?_
  intro p e s m below meth c A ls C hw hl
  have C : th_Cx p s m _ meth c cX12_next_ RX12 4 (none) (dC, dI) (th_ty cs) th_E0 A := C
  have hl : lv_has ls 4 [(0, .ref (q 0))] := hl
  generalize (List.toArray _ : Array Value) = args at C ⊢
  have hx := C.1
  have hb := C.2.1
  unfold M_next_ at hf
  obtain ⟨n, hf⟩ := hf
  exact M_next__0_lw C n  u _ _ _ hf hw (lv_sub hl [0] rfl)
/-! X12_writeDown -/
theorem dX12_writeDown_0 : decode cX12_writeDown 0 = .ok (.aload_n 0, 1) := by decide +kernel
theorem dX12_writeDown_1 : decode cX12_writeDown 1 = .ok (.getfield 278, 3) := by decide +kernel
theorem dX12_writeDown_4 : decode cX12_writeDown 4 = .ok (.ifCond .le 65, 3) := by decide +kernel
theorem dX12_writeDown_7 : decode cX12_writeDown 7 = .ok (.aload_n 0, 1) := by decide +kernel
theorem dX12_writeDown_8 : decode cX12_writeDown 8 = .ok (.getfield 81, 3) := by decide +kernel
theorem dX12_writeDown_11 : decode cX12_writeDown 11 = .ok (.aload_n 0, 1) := by decide +kernel
theorem dX12_writeDown_12 : decode cX12_writeDown 12 = .ok (.getfield 278, 3) := by decide +kernel
theorem dX12_writeDown_15 : decode cX12_writeDown 15 = .ok (.iconst 1, 1) := by decide +kernel
theorem dX12_writeDown_16 : decode cX12_writeDown 16 = .ok (.isub, 1) := by decide +kernel
theorem dX12_writeDown_17 : decode cX12_writeDown 17 = .ok (.iaload, 1) := by decide +kernel
theorem dX12_writeDown_18 : decode cX12_writeDown 18 = .ok (.bipush 13, 2) := by decide +kernel
theorem dX12_writeDown_20 : decode cX12_writeDown 20 = .ok (.if_icmp .eq 49, 3) := by decide +kernel
theorem dX12_writeDown_23 : decode cX12_writeDown 23 = .ok (.aload_n 0, 1) := by decide +kernel
theorem dX12_writeDown_24 : decode cX12_writeDown 24 = .ok (.getfield 81, 3) := by decide +kernel
theorem dX12_writeDown_27 : decode cX12_writeDown 27 = .ok (.aload_n 0, 1) := by decide +kernel
theorem dX12_writeDown_28 : decode cX12_writeDown 28 = .ok (.getfield 278, 3) := by decide +kernel
theorem dX12_writeDown_31 : decode cX12_writeDown 31 = .ok (.iconst 1, 1) := by decide +kernel
theorem dX12_writeDown_32 : decode cX12_writeDown 32 = .ok (.isub, 1) := by decide +kernel
theorem dX12_writeDown_33 : decode cX12_writeDown 33 = .ok (.iaload, 1) := by decide +kernel
theorem dX12_writeDown_34 : decode cX12_writeDown 34 = .ok (.invokestatic 281, 3) := by decide +kernel
theorem dX12_writeDown_37 : decode cX12_writeDown 37 = .ok (.iload_n 1, 1) := by decide +kernel
theorem dX12_writeDown_38 : decode cX12_writeDown 38 = .ok (.if_icmp .lt 31, 3) := by decide +kernel
theorem dX12_writeDown_41 : decode cX12_writeDown 41 = .ok (.aload_n 0, 1) := by decide +kernel
theorem dX12_writeDown_42 : decode cX12_writeDown 42 = .ok (.dup, 1) := by decide +kernel
theorem dX12_writeDown_43 : decode cX12_writeDown 43 = .ok (.getfield 278, 3) := by decide +kernel
theorem dX12_writeDown_46 : decode cX12_writeDown 46 = .ok (.iconst 1, 1) := by decide +kernel
theorem dX12_writeDown_47 : decode cX12_writeDown 47 = .ok (.isub, 1) := by decide +kernel
theorem dX12_writeDown_48 : decode cX12_writeDown 48 = .ok (.putfield 278, 3) := by decide +kernel
theorem dX12_writeDown_51 : decode cX12_writeDown 51 = .ok (.aload_n 0, 1) := by decide +kernel
theorem dX12_writeDown_52 : decode cX12_writeDown 52 = .ok (.aload_n 0, 1) := by decide +kernel
theorem dX12_writeDown_53 : decode cX12_writeDown 53 = .ok (.getfield 81, 3) := by decide +kernel
theorem dX12_writeDown_56 : decode cX12_writeDown 56 = .ok (.aload_n 0, 1) := by decide +kernel
theorem dX12_writeDown_57 : decode cX12_writeDown 57 = .ok (.getfield 278, 3) := by decide +kernel
theorem dX12_writeDown_60 : decode cX12_writeDown 60 = .ok (.iaload, 1) := by decide +kernel
theorem dX12_writeDown_61 : decode cX12_writeDown 61 = .ok (.iconst 0, 1) := by decide +kernel
theorem dX12_writeDown_62 : decode cX12_writeDown 62 = .ok (.iconst 0, 1) := by decide +kernel
theorem dX12_writeDown_63 : decode cX12_writeDown 63 = .ok (.invokevirtual 285, 3) := by decide +kernel
theorem dX12_writeDown_66 : decode cX12_writeDown 66 = .ok (.goto (-66), 3) := by decide +kernel
theorem dX12_writeDown_69 : decode cX12_writeDown 69 = .ok (.return_, 1) := by decide +kernel
def M_writeDown_69 (K : th_St → Prop) (u : th_St) : Prop :=
  K u
set_option maxHeartbeats 4000000 in
set_option maxRecDepth 100000 in
theorem M_writeDown_69_w {K : th_St → Prop} (C : th_Cx p s m args meth c cX12_writeDown RX12 2 (none) (dC, dI) (th_ty cs) th_E0 A) (u : th_St) (H : Heap) (locs : List Loc) (ls : Array Slot) (hf : M_writeDown_69 K u) (hw : th_wI (dC, dI) (wM cs q) A s.heap u H locs) (hl : lv_has ls 2 []) : W p l e (th_rm 1 0 0) s m args below meth c H locs 0 0 (MQ below (va_Qv K (th_Post (dC, dI) (wM cs q) A) A) args s 0 0 A) (F0 m 69 ls []) := by
  have hx := C.1
  have hb := C.2.1
  unfold M_writeDown_69 at hf
  exact th_vret C hw hf dX12_writeDown_69
def M_writeDown_0 (K : th_St → Prop) (k0 : Int32 → th_St → Prop) (x1 : Int32) (u : th_St) : Prop :=
  (((u.1 22) ≤ 0 → M_writeDown_69 K u) ∧ (¬ (u.1 22) ≤ 0 → (vp_in ((u.1 22) - (1 : Int32)) 100 ∧ ∀ y_1 : Int32, y_1 = u.2.2.1 20 (((u.1 22) - (1 : Int32))).toNatClampNeg → ((y_1 = (13 : Int32) → M_writeDown_69 K u) ∧ (¬ y_1 = (13 : Int32) → (vp_in ((u.1 22) - (1 : Int32)) 100 ∧ ∀ y_2 : Int32, y_2 = u.2.2.1 20 (((u.1 22) - (1 : Int32))).toNatClampNeg → M_binds y_2 u (fun r_4 u_3 => ((r_4 < x1 → M_writeDown_69 K u_3) ∧ (¬ r_4 < x1 → ∀ u_5 : th_St, u_5 = th_si u_3 22 ((u_3.1 22) - (1 : Int32)) → (vp_in (u_5.1 22) 100 ∧ ∀ y_6 : Int32, y_6 = u_5.2.2.1 20 ((u_5.1 22)).toNatClampNeg → M_write y_6 (0 : Int32) (0 : Int32) u_5 (fun u_7 => k0 x1 u_7)))))))))))
set_option maxHeartbeats 4000000 in
set_option maxRecDepth 100000 in
theorem M_writeDown_0_w {K : th_St → Prop} {k0 : Int32 → th_St → Prop} (C : th_Cx p s m args meth c cX12_writeDown RX12 2 (none) (dC, dI) (th_ty cs) th_E0 A) (hk0 : ∀ (x1 : Int32) (u : th_St) (H : Heap) (locs : List Loc) (ls : Array Slot), k0 x1 u → th_wI (dC, dI) (wM cs q) A s.heap u H locs → lv_has ls 2 [(0, .ref (q 0)), (1, .int x1)] → W p l e (th_rm 1 0 0) s m args below meth c H locs 0 0 (MQ below (va_Qv K (th_Post (dC, dI) (wM cs q) A) A) args s 0 0 A) (F0 m 0 ls [])) (x1 : Int32) (u : th_St) (H : Heap) (locs : List Loc) (ls : Array Slot) (hf : M_writeDown_0 K k0 x1 u) (hw : th_wI (dC, dI) (wM cs q) A s.heap u H locs) (hl : lv_has ls 2 [(0, .ref (q 0)), (1, .int x1)]) : W p l e (th_rm 1 0 0) s m args below meth c H locs 0 0 (MQ below (va_Qv K (th_Post (dC, dI) (wM cs q) A) A) args s 0 0 A) (F0 m 0 ls []) := by
  have hx := C.1
  have hb := C.2.1
  unfold M_writeDown_0 at hf
  refine lv_aload_n hx hb dX12_writeDown_0 rfl (lv_at hl 0 rfl) ?_
  refine mg_22 C hw dX12_writeDown_1 ?_
  refine lv_if_le (tgt := 69) hx hb dX12_writeDown_4 (by decide) (fun hc => ?_) (fun hc => ?_)
  · replace hf := hf.1 hc
    clear hc
    exact M_writeDown_69_w C  u _ _ _ hf hw (lv_sub hl [] rfl)
  · replace hf := hf.2 hc
    clear hc
    refine lv_aload_n hx hb dX12_writeDown_7 rfl (lv_at hl 0 rfl) ?_
    refine mg_20 C hw dX12_writeDown_8 ?_
    refine lv_aload_n hx hb dX12_writeDown_11 rfl (lv_at hl 0 rfl) ?_
    refine mg_22 C hw dX12_writeDown_12 ?_
    refine lv_iconst (v := (1 : Int32)) hx hb dX12_writeDown_15 (by decide) ?_
    refine lv_isub hx hb dX12_writeDown_16 ?_
    refine ml_20 C hw hf.1 dX12_writeDown_17 (fun y_1 e9 => ?_)
    replace hf := hf.2 y_1 e9
    clear e9
    refine lv_bipush (v := (13 : Int32)) hx hb dX12_writeDown_18 (by decide) ?_
    refine lv_icmp_eq (tgt := 69) hx hb dX12_writeDown_20 (by decide) (fun hc => ?_) (fun hc => ?_)
    · replace hf := hf.1 hc
      clear hc
      exact M_writeDown_69_w C  u _ _ _ hf hw (lv_sub hl [] rfl)
    · replace hf := hf.2 hc
      clear hc
      refine lv_aload_n hx hb dX12_writeDown_23 rfl (lv_at hl 0 rfl) ?_
      refine mg_20 C hw dX12_writeDown_24 ?_
      refine lv_aload_n hx hb dX12_writeDown_27 rfl (lv_at hl 0 rfl) ?_
      refine mg_22 C hw dX12_writeDown_28 ?_
      refine lv_iconst (v := (1 : Int32)) hx hb dX12_writeDown_31 (by decide) ?_
      refine lv_isub hx hb dX12_writeDown_32 ?_
      refine ml_20 C hw hf.1 dX12_writeDown_33 (fun y_2 e9 => ?_)
      replace hf := hf.2 y_2 e9
      clear e9
      refine th_callSi (As := [.int y_2]) (rest := []) C lkX12_281 (M_binds_c hf) hw rfl rfl ⟨Nat.le_of_ble_eq_true rfl, Nat.le_of_ble_eq_true rfl⟩ hl.1 (Nat.le_of_ble_eq_true rfl) ⟨Nat.le_refl _, Nat.le_refl _⟩ dX12_writeDown_34 (fun r_4 u_3 H locs hf hw => ?_)
      refine lv_iload_n hx hb dX12_writeDown_37 rfl (lv_at hl 1 rfl) ?_
      refine lv_icmp_lt (tgt := 69) hx hb dX12_writeDown_38 (by decide) (fun hc => ?_) (fun hc => ?_)
      · replace hf := hf.1 hc
        clear hc
        exact M_writeDown_69_w C  u_3 _ _ _ hf hw (lv_sub hl [] rfl)
      · replace hf := hf.2 hc
        clear hc
        refine lv_aload_n hx hb dX12_writeDown_41 rfl (lv_at hl 0 rfl) ?_
        refine lv_dup hx hb dX12_writeDown_42 rfl ?_
        refine mg_22 C hw dX12_writeDown_43 ?_
        refine lv_iconst (v := (1 : Int32)) hx hb dX12_writeDown_46 (by decide) ?_
        refine lv_isub hx hb dX12_writeDown_47 ?_
        refine mp_22 C hw dX12_writeDown_48 (fun u_5 e9 H locs hw => ?_)
        replace hf := hf u_5 e9
        clear e9
        refine lv_aload_n hx hb dX12_writeDown_51 rfl (lv_at hl 0 rfl) ?_
        refine lv_aload_n hx hb dX12_writeDown_52 rfl (lv_at hl 0 rfl) ?_
        refine mg_20 C hw dX12_writeDown_53 ?_
        refine lv_aload_n hx hb dX12_writeDown_56 rfl (lv_at hl 0 rfl) ?_
        refine mg_22 C hw dX12_writeDown_57 ?_
        refine ml_20 C hw hf.1 dX12_writeDown_60 (fun y_6 e9 => ?_)
        replace hf := hf.2 y_6 e9
        clear e9
        refine lv_iconst (v := (0 : Int32)) hx hb dX12_writeDown_61 (by decide) ?_
        refine lv_iconst (v := (0 : Int32)) hx hb dX12_writeDown_62 (by decide) ?_
        refine th_callVv (As := [.int y_6, .int (0 : Int32), .int (0 : Int32)]) (rest := []) C lkX12_285 (M_write_c hf) hw (mRc C hw) rfl rfl ⟨Nat.le_of_ble_eq_true rfl, Nat.le_of_ble_eq_true rfl⟩ hl.1 (Nat.le_of_ble_eq_true rfl) ⟨Nat.le_refl _, Nat.le_refl _⟩ dX12_writeDown_63 (fun u_7 H locs hf hw => ?_)
        refine lv_goto (tgt := 0) hx hb dX12_writeDown_66 (by decide) ?_
        exact hk0 x1 u_7 _ _ _ hf hw (lv_sub hl [0, 1] rfl)
def M_writeDown_0_lp (K : th_St → Prop) : Nat → Int32 → th_St → Prop
  | 0, _, _ => False
  | n + 1, x1, u => M_writeDown_0 K (M_writeDown_0_lp K n) x1 u
set_option maxHeartbeats 4000000 in
set_option maxRecDepth 100000 in
theorem M_writeDown_0_lw {K : th_St → Prop} (C : th_Cx p s m args meth c cX12_writeDown RX12 2 (none) (dC, dI) (th_ty cs) th_E0 A) (n : Nat) : ∀ (x1 : Int32) (u : th_St) (H : Heap) (locs : List Loc) (ls : Array Slot), M_writeDown_0_lp K n x1 u → th_wI (dC, dI) (wM cs q) A s.heap u H locs → lv_has ls 2 [(0, .ref (q 0)), (1, .int x1)] → W p l e (th_rm 1 0 0) s m args below meth c H locs 0 0 (MQ below (va_Qv K (th_Post (dC, dI) (wM cs q) A) A) args s 0 0 A) (F0 m 0 ls []) := by
  induction n with
  | zero => intro x1 u H locs ls hf; exact hf.elim
  | succ n ih =>
    intro x1 u H locs ls hf hw hl
    exact M_writeDown_0_w C ih x1 u H locs ls hf hw hl
def M_writeDown (a1 : Int32) (u : th_St) (K : th_St → Prop) : Prop :=
  ∃ n, M_writeDown_0_lp K n a1 u
set_option maxHeartbeats 4000000 in
set_option maxRecDepth 100000 in
theorem M_writeDown_c {l : Launch} {dC : Nat → ClassId} {dI : Nat → Nat → Nat} {cs : Nat → ClassId} {q : Nat → Nat} {a1 : Int32} {u : th_St} {K : th_St → Prop} (hf : M_writeDown a1 u K) : th_Cv l yX12_writeDown cX12_writeDown 2 (none) 1 0 0 (dC, dI) (th_ty cs) th_E0 (wM cs q) [.ref (q 0), .int a1] u K := by
  refine th_ofv (by decide) (Nat.le_of_ble_eq_true rfl) th_E0_ok ?_
  intro p e s m below meth c A ls C hw hl
  have C : th_Cx p s m _ meth c cX12_writeDown RX12 2 (none) (dC, dI) (th_ty cs) th_E0 A := C
  have hl : lv_has ls 2 [(0, .ref (q 0)), (1, .int a1)] := hl
  generalize (List.toArray _ : Array Value) = args at C ⊢
  have hx := C.1
  have hb := C.2.1
  unfold M_writeDown at hf
  obtain ⟨n, hf⟩ := hf
  exact M_writeDown_0_lw C n a1 u _ _ _ hf hw (lv_sub hl [0, 1] rfl)
/-! X12_foot -/
theorem dX12_foot_0 : decode cX12_foot 0 = .ok (.aload_n 0, 1) := by decide +kernel
theorem dX12_foot_1 : decode cX12_foot 1 = .ok (.iconst 0, 1) := by decide +kernel
theorem dX12_foot_2 : decode cX12_foot 2 = .ok (.putfield 1, 3) := by decide +kernel
theorem dX12_foot_5 : decode cX12_foot 5 = .ok (.iload_n 1, 1) := by decide +kernel
theorem dX12_foot_6 : decode cX12_foot 6 = .ok (.iconst 0, 1) := by decide +kernel
theorem dX12_foot_7 : decode cX12_foot 7 = .ok (.aload_n 0, 1) := by decide +kernel
theorem dX12_foot_8 : decode cX12_foot 8 = .ok (.getfield 54, 3) := by decide +kernel
theorem dX12_foot_11 : decode cX12_foot 11 = .ok (.iconst 0, 1) := by decide +kernel
theorem dX12_foot_12 : decode cX12_foot 12 = .ok (.iaload, 1) := by decide +kernel
theorem dX12_foot_13 : decode cX12_foot 13 = .ok (.iconst 1, 1) := by decide +kernel
theorem dX12_foot_14 : decode cX12_foot 14 = .ok (.isub, 1) := by decide +kernel
theorem dX12_foot_15 : decode cX12_foot 15 = .ok (.invokestatic 24, 3) := by decide +kernel
theorem dX12_foot_18 : decode cX12_foot 18 = .ok (.ifCond .eq 12, 3) := by decide +kernel
theorem dX12_foot_21 : decode cX12_foot 21 = .ok (.iload_n 2, 1) := by decide +kernel
theorem dX12_foot_22 : decode cX12_foot 22 = .ok (.iconst 0, 1) := by decide +kernel
theorem dX12_foot_23 : decode cX12_foot 23 = .ok (.iconst 1, 1) := by decide +kernel
theorem dX12_foot_24 : decode cX12_foot 24 = .ok (.invokestatic 24, 3) := by decide +kernel
theorem dX12_foot_27 : decode cX12_foot 27 = .ok (.ifCond .ne 5, 3) := by decide +kernel
theorem dX12_foot_30 : decode cX12_foot 30 = .ok (.iconst (-1), 1) := by decide +kernel
theorem dX12_foot_31 : decode cX12_foot 31 = .ok (.ireturn, 1) := by decide +kernel
theorem dX12_foot_32 : decode cX12_foot 32 = .ok (.iload_n 2, 1) := by decide +kernel
theorem dX12_foot_33 : decode cX12_foot 33 = .ok (.iconst 1, 1) := by decide +kernel
theorem dX12_foot_34 : decode cX12_foot 34 = .ok (.if_icmp .ne 12, 3) := by decide +kernel
theorem dX12_foot_37 : decode cX12_foot 37 = .ok (.aload_n 0, 1) := by decide +kernel
theorem dX12_foot_38 : decode cX12_foot 38 = .ok (.getfield 41, 3) := by decide +kernel
theorem dX12_foot_41 : decode cX12_foot 41 = .ok (.iload_n 1, 1) := by decide +kernel
theorem dX12_foot_42 : decode cX12_foot 42 = .ok (.iaload, 1) := by decide +kernel
theorem dX12_foot_43 : decode cX12_foot 43 = .ok (.goto 17, 3) := by decide +kernel
theorem dX12_foot_46 : decode cX12_foot 46 = .ok (.aload_n 0, 1) := by decide +kernel
theorem dX12_foot_47 : decode cX12_foot 47 = .ok (.getfield 37, 3) := by decide +kernel
theorem dX12_foot_50 : decode cX12_foot 50 = .ok (.iload_n 1, 1) := by decide +kernel
theorem dX12_foot_51 : decode cX12_foot 51 = .ok (.baload, 1) := by decide +kernel
theorem dX12_foot_52 : decode cX12_foot 52 = .ok (.ifCond .eq 7, 3) := by decide +kernel
theorem dX12_foot_55 : decode cX12_foot 55 = .ok (.iconst 1, 1) := by decide +kernel
theorem dX12_foot_56 : decode cX12_foot 56 = .ok (.goto 4, 3) := by decide +kernel
theorem dX12_foot_59 : decode cX12_foot 59 = .ok (.iconst 0, 1) := by decide +kernel
theorem dX12_foot_60 : decode cX12_foot 60 = .ok (.ireturn, 1) := by decide +kernel
def M_foot_30 (K : Int32 → th_St → Prop) (u : th_St) : Prop :=
  K (-1 : Int32) u
set_option maxHeartbeats 4000000 in
set_option maxRecDepth 100000 in
theorem M_foot_30_w {K : Int32 → th_St → Prop} (C : th_Cx p s m args meth c cX12_foot RX12 3 (some .int) (dC, dI) (th_ty cs) th_E0 A) (u : th_St) (H : Heap) (locs : List Loc) (ls : Array Slot) (hf : M_foot_30 K u) (hw : th_wI (dC, dI) (wM cs q) A s.heap u H locs) (hl : lv_has ls 3 []) : W p l e (th_rm 1 0 0) s m args below meth c H locs 0 0 (MQ below (va_Qi K (th_Post (dC, dI) (wM cs q) A) A) args s 0 0 A) (F0 m 30 ls []) := by
  have hx := C.1
  have hb := C.2.1
  unfold M_foot_30 at hf
  refine lv_iconst (v := (-1 : Int32)) hx hb dX12_foot_30 (by decide) ?_
  exact th_iret C hw hf dX12_foot_31
def M_foot_60 (K : Int32 → th_St → Prop) (z0 : Int32) (u : th_St) : Prop :=
  K z0 u
set_option maxHeartbeats 4000000 in
set_option maxRecDepth 100000 in
theorem M_foot_60_w {K : Int32 → th_St → Prop} (C : th_Cx p s m args meth c cX12_foot RX12 3 (some .int) (dC, dI) (th_ty cs) th_E0 A) (z0 : Int32) (u : th_St) (H : Heap) (locs : List Loc) (ls : Array Slot) (hf : M_foot_60 K z0 u) (hw : th_wI (dC, dI) (wM cs q) A s.heap u H locs) (hl : lv_has ls 3 []) : W p l e (th_rm 1 0 0) s m args below meth c H locs 0 0 (MQ below (va_Qi K (th_Post (dC, dI) (wM cs q) A) A) args s 0 0 A) (F0 m 60 ls [.int z0]) := by
  have hx := C.1
  have hb := C.2.1
  unfold M_foot_60 at hf
  exact th_iret C hw hf dX12_foot_60
def M_foot (a1 : Int32) (a2 : Int32) (u : th_St) (K : Int32 → th_St → Prop) : Prop :=
  ∀ u_1 : th_St, u_1 = th_si u 0 (0 : Int32) → (vp_in (0 : Int32) 2 ∧ ∀ y_2 : Int32, y_2 = u_1.2.2.1 11 ((0 : Int32)).toNatClampNeg → M_isIn a1 (0 : Int32) (y_2 - (1 : Int32)) u_1 (fun r_4 u_3 => ((r_4 = 0 → M_foot_30 K u_3) ∧ (¬ r_4 = 0 → M_isIn a2 (0 : Int32) (1 : Int32) u_3 (fun r_6 u_5 => ((¬ r_6 = 0 → ((¬ a2 = (1 : Int32) → (vp_in a1 96 ∧ ∀ y_7 : Int32, y_7 = u_5.2.2.1 6 (a1).toNatClampNeg → ((y_7 = 0 → M_foot_60 K (0 : Int32) u_5) ∧ (¬ y_7 = 0 → M_foot_60 K (1 : Int32) u_5)))) ∧ (a2 = (1 : Int32) → (vp_in a1 96 ∧ ∀ y_8 : Int32, y_8 = u_5.2.2.1 7 (a1).toNatClampNeg → M_foot_60 K y_8 u_5)))) ∧ (r_6 = 0 → M_foot_30 K u_5)))))))
set_option maxHeartbeats 4000000 in
set_option maxRecDepth 100000 in
theorem M_foot_c {l : Launch} {dC : Nat → ClassId} {dI : Nat → Nat → Nat} {cs : Nat → ClassId} {q : Nat → Nat} {a1 : Int32} {a2 : Int32} {u : th_St} {K : Int32 → th_St → Prop} (hf : M_foot a1 a2 u K) : th_Ci l yX12_foot cX12_foot 3 (some .int) 1 0 0 (dC, dI) (th_ty cs) th_E0 (wM cs q) [.ref (q 0), .int a1, .int a2] u K := by
  refine th_ofi (by decide) (Nat.le_of_ble_eq_true rfl) th_E0_ok ?_
  intro p e s m below meth c A ls C hw hl
  have C : th_Cx p s m _ meth c cX12_foot RX12 3 (some .int) (dC, dI) (th_ty cs) th_E0 A := C
  have hl : lv_has ls 3 [(0, .ref (q 0)), (1, .int a1), (2, .int a2)] := hl
  generalize (List.toArray _ : Array Value) = args at C ⊢
  have hx := C.1
  have hb := C.2.1
  unfold M_foot at hf
  refine lv_aload_n hx hb dX12_foot_0 rfl (lv_at hl 0 rfl) ?_
  refine lv_iconst (v := (0 : Int32)) hx hb dX12_foot_1 (by decide) ?_
  refine mp_0 C hw dX12_foot_2 (fun u_1 e9 H locs hw => ?_)
  replace hf := hf u_1 e9
  clear e9
  refine lv_iload_n hx hb dX12_foot_5 rfl (lv_at hl 1 rfl) ?_
  refine lv_iconst (v := (0 : Int32)) hx hb dX12_foot_6 (by decide) ?_
  refine lv_aload_n hx hb dX12_foot_7 rfl (lv_at hl 0 rfl) ?_
  refine mg_11 C hw dX12_foot_8 ?_
  refine lv_iconst (v := (0 : Int32)) hx hb dX12_foot_11 (by decide) ?_
  refine ml_11 C hw hf.1 dX12_foot_12 (fun y_2 e9 => ?_)
  replace hf := hf.2 y_2 e9
  clear e9
  refine lv_iconst (v := (1 : Int32)) hx hb dX12_foot_13 (by decide) ?_
  refine lv_isub hx hb dX12_foot_14 ?_
  refine th_callSi (As := [.int a1, .int (0 : Int32), .int (y_2 - (1 : Int32))]) (rest := []) C lkX12_24 (M_isIn_c hf) hw rfl rfl ⟨Nat.le_of_ble_eq_true rfl, Nat.le_of_ble_eq_true rfl⟩ hl.1 (Nat.le_of_ble_eq_true rfl) ⟨Nat.le_refl _, Nat.le_refl _⟩ dX12_foot_15 (fun r_4 u_3 H locs hf hw => ?_)
  refine lv_if_eq (tgt := 30) hx hb dX12_foot_18 (by decide) (fun hc => ?_) (fun hc => ?_)
  · replace hf := hf.1 hc
    clear hc
    exact M_foot_30_w C  u_3 _ _ _ hf hw (lv_sub hl [] rfl)
  · replace hf := hf.2 hc
    clear hc
    refine lv_iload_n hx hb dX12_foot_21 rfl (lv_at hl 2 rfl) ?_
    refine lv_iconst (v := (0 : Int32)) hx hb dX12_foot_22 (by decide) ?_
    refine lv_iconst (v := (1 : Int32)) hx hb dX12_foot_23 (by decide) ?_
    refine th_callSi (As := [.int a2, .int (0 : Int32), .int (1 : Int32)]) (rest := []) C lkX12_24 (M_isIn_c hf) hw rfl rfl ⟨Nat.le_of_ble_eq_true rfl, Nat.le_of_ble_eq_true rfl⟩ hl.1 (Nat.le_of_ble_eq_true rfl) ⟨Nat.le_refl _, Nat.le_refl _⟩ dX12_foot_24 (fun r_6 u_5 H locs hf hw => ?_)
    refine lv_if_ne (tgt := 32) hx hb dX12_foot_27 (by decide) (fun hc => ?_) (fun hc => ?_)
    · replace hf := hf.1 hc
      clear hc
      refine lv_iload_n hx hb dX12_foot_32 rfl (lv_at hl 2 rfl) ?_
      refine lv_iconst (v := (1 : Int32)) hx hb dX12_foot_33 (by decide) ?_
      refine lv_icmp_ne (tgt := 46) hx hb dX12_foot_34 (by decide) (fun hc => ?_) (fun hc => ?_)
      · replace hf := hf.1 hc
        clear hc
        refine lv_aload_n hx hb dX12_foot_46 rfl (lv_at hl 0 rfl) ?_
        refine mg_6 C hw dX12_foot_47 ?_
        refine lv_iload_n hx hb dX12_foot_50 rfl (lv_at hl 1 rfl) ?_
        refine ml_6 C hw hf.1 dX12_foot_51 (fun y_7 e9 => ?_)
        replace hf := hf.2 y_7 e9
        clear e9
        refine lv_if_eq (tgt := 59) hx hb dX12_foot_52 (by decide) (fun hc => ?_) (fun hc => ?_)
        · replace hf := hf.1 hc
          clear hc
          refine lv_iconst (v := (0 : Int32)) hx hb dX12_foot_59 (by decide) ?_
          exact M_foot_60_w C (0 : Int32) u_5 _ _ _ hf hw (lv_sub hl [] rfl)
        · replace hf := hf.2 hc
          clear hc
          refine lv_iconst (v := (1 : Int32)) hx hb dX12_foot_55 (by decide) ?_
          refine lv_goto (tgt := 60) hx hb dX12_foot_56 (by decide) ?_
          exact M_foot_60_w C (1 : Int32) u_5 _ _ _ hf hw (lv_sub hl [] rfl)
      · replace hf := hf.2 hc
        clear hc
        refine lv_aload_n hx hb dX12_foot_37 rfl (lv_at hl 0 rfl) ?_
        refine mg_7 C hw dX12_foot_38 ?_
        refine lv_iload_n hx hb dX12_foot_41 rfl (lv_at hl 1 rfl) ?_
        refine ml_7 C hw hf.1 dX12_foot_42 (fun y_8 e9 => ?_)
        replace hf := hf.2 y_8 e9
        clear e9
        refine lv_goto (tgt := 60) hx hb dX12_foot_43 (by decide) ?_
        exact M_foot_60_w C y_8 u_5 _ _ _ hf hw (lv_sub hl [] rfl)
    · replace hf := hf.2 hc
      clear hc
      exact M_foot_30_w C  u_5 _ _ _ hf hw (lv_sub hl [] rfl)
/-! X12_takeRow -/
theorem dX12_takeRow_0 : decode cX12_takeRow 0 = .ok (.aload_n 0, 1) := by decide +kernel
theorem dX12_takeRow_1 : decode cX12_takeRow 1 = .ok (.invokevirtual 164, 3) := by decide +kernel
theorem dX12_takeRow_4 : decode cX12_takeRow 4 = .ok (.aload_n 0, 1) := by decide +kernel
theorem dX12_takeRow_5 : decode cX12_takeRow 5 = .ok (.getfield 54, 3) := by decide +kernel
theorem dX12_takeRow_8 : decode cX12_takeRow 8 = .ok (.iconst 0, 1) := by decide +kernel
theorem dX12_takeRow_9 : decode cX12_takeRow 9 = .ok (.iaload, 1) := by decide +kernel
theorem dX12_takeRow_10 : decode cX12_takeRow 10 = .ok (.istore_n 2, 1) := by decide +kernel
theorem dX12_takeRow_11 : decode cX12_takeRow 11 = .ok (.aload_n 0, 1) := by decide +kernel
theorem dX12_takeRow_12 : decode cX12_takeRow 12 = .ok (.getfield 18, 3) := by decide +kernel
theorem dX12_takeRow_15 : decode cX12_takeRow 15 = .ok (.iconst 2, 1) := by decide +kernel
theorem dX12_takeRow_16 : decode cX12_takeRow 16 = .ok (.iload_n 2, 1) := by decide +kernel
theorem dX12_takeRow_17 : decode cX12_takeRow 17 = .ok (.imul, 1) := by decide +kernel
theorem dX12_takeRow_18 : decode cX12_takeRow 18 = .ok (.if_icmp .eq 5, 3) := by decide +kernel
theorem dX12_takeRow_21 : decode cX12_takeRow 21 = .ok (.iconst 0, 1) := by decide +kernel
theorem dX12_takeRow_22 : decode cX12_takeRow 22 = .ok (.ireturn, 1) := by decide +kernel
theorem dX12_takeRow_23 : decode cX12_takeRow 23 = .ok (.iconst 0, 1) := by decide +kernel
theorem dX12_takeRow_24 : decode cX12_takeRow 24 = .ok (.istore_n 3, 1) := by decide +kernel
theorem dX12_takeRow_25 : decode cX12_takeRow 25 = .ok (.iload_n 3, 1) := by decide +kernel
theorem dX12_takeRow_26 : decode cX12_takeRow 26 = .ok (.iload_n 2, 1) := by decide +kernel
theorem dX12_takeRow_27 : decode cX12_takeRow 27 = .ok (.if_icmp .ge 45, 3) := by decide +kernel
theorem dX12_takeRow_30 : decode cX12_takeRow 30 = .ok (.aload_n 0, 1) := by decide +kernel
theorem dX12_takeRow_31 : decode cX12_takeRow 31 = .ok (.getfield 14, 3) := by decide +kernel
theorem dX12_takeRow_34 : decode cX12_takeRow 34 = .ok (.iload_n 3, 1) := by decide +kernel
theorem dX12_takeRow_35 : decode cX12_takeRow 35 = .ok (.baload, 1) := by decide +kernel
theorem dX12_takeRow_36 : decode cX12_takeRow 36 = .ok (.bipush (-99), 2) := by decide +kernel
theorem dX12_takeRow_38 : decode cX12_takeRow 38 = .ok (.bipush 99, 2) := by decide +kernel
theorem dX12_takeRow_40 : decode cX12_takeRow 40 = .ok (.invokestatic 24, 3) := by decide +kernel
theorem dX12_takeRow_43 : decode cX12_takeRow 43 = .ok (.ifCond .eq 21, 3) := by decide +kernel
theorem dX12_takeRow_46 : decode cX12_takeRow 46 = .ok (.aload_n 0, 1) := by decide +kernel
theorem dX12_takeRow_47 : decode cX12_takeRow 47 = .ok (.getfield 14, 3) := by decide +kernel
theorem dX12_takeRow_50 : decode cX12_takeRow 50 = .ok (.iload_n 2, 1) := by decide +kernel
theorem dX12_takeRow_51 : decode cX12_takeRow 51 = .ok (.iload_n 3, 1) := by decide +kernel
theorem dX12_takeRow_52 : decode cX12_takeRow 52 = .ok (.iadd, 1) := by decide +kernel
theorem dX12_takeRow_53 : decode cX12_takeRow 53 = .ok (.baload, 1) := by decide +kernel
theorem dX12_takeRow_54 : decode cX12_takeRow 54 = .ok (.bipush (-50), 2) := by decide +kernel
theorem dX12_takeRow_56 : decode cX12_takeRow 56 = .ok (.bipush 50, 2) := by decide +kernel
theorem dX12_takeRow_58 : decode cX12_takeRow 58 = .ok (.invokestatic 24, 3) := by decide +kernel
theorem dX12_takeRow_61 : decode cX12_takeRow 61 = .ok (.ifCond .ne 5, 3) := by decide +kernel
theorem dX12_takeRow_64 : decode cX12_takeRow 64 = .ok (.iconst 0, 1) := by decide +kernel
theorem dX12_takeRow_65 : decode cX12_takeRow 65 = .ok (.ireturn, 1) := by decide +kernel
theorem dX12_takeRow_66 : decode cX12_takeRow 66 = .ok (.iinc 3 1, 3) := by decide +kernel
theorem dX12_takeRow_69 : decode cX12_takeRow 69 = .ok (.goto (-44), 3) := by decide +kernel
theorem dX12_takeRow_72 : decode cX12_takeRow 72 = .ok (.iload_n 1, 1) := by decide +kernel
theorem dX12_takeRow_73 : decode cX12_takeRow 73 = .ok (.ifCond .ge 5, 3) := by decide +kernel
theorem dX12_takeRow_76 : decode cX12_takeRow 76 = .ok (.iconst 1, 1) := by decide +kernel
theorem dX12_takeRow_77 : decode cX12_takeRow 77 = .ok (.ireturn, 1) := by decide +kernel
theorem dX12_takeRow_78 : decode cX12_takeRow 78 = .ok (.iconst 0, 1) := by decide +kernel
theorem dX12_takeRow_79 : decode cX12_takeRow 79 = .ok (.istore_n 3, 1) := by decide +kernel
theorem dX12_takeRow_80 : decode cX12_takeRow 80 = .ok (.iload_n 3, 1) := by decide +kernel
theorem dX12_takeRow_81 : decode cX12_takeRow 81 = .ok (.iload_n 2, 1) := by decide +kernel
theorem dX12_takeRow_82 : decode cX12_takeRow 82 = .ok (.if_icmp .ge 48, 3) := by decide +kernel
theorem dX12_takeRow_85 : decode cX12_takeRow 85 = .ok (.aload_n 0, 1) := by decide +kernel
theorem dX12_takeRow_86 : decode cX12_takeRow 86 = .ok (.getfield 87, 3) := by decide +kernel
theorem dX12_takeRow_89 : decode cX12_takeRow 89 = .ok (.bipush 96, 2) := by decide +kernel
theorem dX12_takeRow_91 : decode cX12_takeRow 91 = .ok (.iload_n 1, 1) := by decide +kernel
theorem dX12_takeRow_92 : decode cX12_takeRow 92 = .ok (.imul, 1) := by decide +kernel
theorem dX12_takeRow_93 : decode cX12_takeRow 93 = .ok (.iload_n 3, 1) := by decide +kernel
theorem dX12_takeRow_94 : decode cX12_takeRow 94 = .ok (.iadd, 1) := by decide +kernel
theorem dX12_takeRow_95 : decode cX12_takeRow 95 = .ok (.aload_n 0, 1) := by decide +kernel
theorem dX12_takeRow_96 : decode cX12_takeRow 96 = .ok (.getfield 14, 3) := by decide +kernel
theorem dX12_takeRow_99 : decode cX12_takeRow 99 = .ok (.iload_n 3, 1) := by decide +kernel
theorem dX12_takeRow_100 : decode cX12_takeRow 100 = .ok (.baload, 1) := by decide +kernel
theorem dX12_takeRow_101 : decode cX12_takeRow 101 = .ok (.iastore, 1) := by decide +kernel
theorem dX12_takeRow_102 : decode cX12_takeRow 102 = .ok (.aload_n 0, 1) := by decide +kernel
theorem dX12_takeRow_103 : decode cX12_takeRow 103 = .ok (.getfield 87, 3) := by decide +kernel
theorem dX12_takeRow_106 : decode cX12_takeRow 106 = .ok (.bipush 96, 2) := by decide +kernel
theorem dX12_takeRow_108 : decode cX12_takeRow 108 = .ok (.iload_n 1, 1) := by decide +kernel
theorem dX12_takeRow_109 : decode cX12_takeRow 109 = .ok (.imul, 1) := by decide +kernel
theorem dX12_takeRow_110 : decode cX12_takeRow 110 = .ok (.bipush 48, 2) := by decide +kernel
theorem dX12_takeRow_112 : decode cX12_takeRow 112 = .ok (.iadd, 1) := by decide +kernel
theorem dX12_takeRow_113 : decode cX12_takeRow 113 = .ok (.iload_n 3, 1) := by decide +kernel
theorem dX12_takeRow_114 : decode cX12_takeRow 114 = .ok (.iadd, 1) := by decide +kernel
theorem dX12_takeRow_115 : decode cX12_takeRow 115 = .ok (.aload_n 0, 1) := by decide +kernel
theorem dX12_takeRow_116 : decode cX12_takeRow 116 = .ok (.getfield 14, 3) := by decide +kernel
theorem dX12_takeRow_119 : decode cX12_takeRow 119 = .ok (.iload_n 2, 1) := by decide +kernel
theorem dX12_takeRow_120 : decode cX12_takeRow 120 = .ok (.iload_n 3, 1) := by decide +kernel
theorem dX12_takeRow_121 : decode cX12_takeRow 121 = .ok (.iadd, 1) := by decide +kernel
theorem dX12_takeRow_122 : decode cX12_takeRow 122 = .ok (.baload, 1) := by decide +kernel
theorem dX12_takeRow_123 : decode cX12_takeRow 123 = .ok (.iastore, 1) := by decide +kernel
theorem dX12_takeRow_124 : decode cX12_takeRow 124 = .ok (.iinc 3 1, 3) := by decide +kernel
theorem dX12_takeRow_127 : decode cX12_takeRow 127 = .ok (.goto (-47), 3) := by decide +kernel
theorem dX12_takeRow_130 : decode cX12_takeRow 130 = .ok (.iconst 1, 1) := by decide +kernel
theorem dX12_takeRow_131 : decode cX12_takeRow 131 = .ok (.ireturn, 1) := by decide +kernel
def M_takeRow_64 (K : Int32 → th_St → Prop) (u : th_St) : Prop :=
  (((0 : Int32) = 0 ∨ (0 : Int32) = 1) ∧ K (0 : Int32) u)
set_option maxHeartbeats 4000000 in
set_option maxRecDepth 100000 in
theorem M_takeRow_64_w {K : Int32 → th_St → Prop} (C : th_Cx p s m args meth c cX12_takeRow RX12 4 (some .boolean) (dC, dI) (th_ty cs) th_E0 A) (u : th_St) (H : Heap) (locs : List Loc) (ls : Array Slot) (hf : M_takeRow_64 K u) (hw : th_wI (dC, dI) (wM cs q) A s.heap u H locs) (hl : lv_has ls 4 []) : W p l e (th_rm 1 0 0) s m args below meth c H locs 0 0 (MQ below (va_Qi K (th_Post (dC, dI) (wM cs q) A) A) args s 0 0 A) (F0 m 64 ls []) := by
  have hx := C.1
  have hb := C.2.1
  unfold M_takeRow_64 at hf
  refine lv_iconst (v := (0 : Int32)) hx hb dX12_takeRow_64 (by decide) ?_
  exact th_zret C hw hf dX12_takeRow_65
def M_takeRow_80 (K : Int32 → th_St → Prop) (k80 : Int32 → Int32 → Int32 → th_St → Prop) (x1 : Int32) (x2 : Int32) (x3 : Int32) (u : th_St) : Prop :=
  ((x2 ≤ x3 → (((1 : Int32) = 0 ∨ (1 : Int32) = 1) ∧ K (1 : Int32) u)) ∧ (¬ x2 ≤ x3 → (vp_in x3 440 ∧ ∀ y_1 : Int32, y_1 = u.2.2.1 1 (x3).toNatClampNeg → (vp_in (((96 : Int32) * x1) + x3) 9600 ∧ ∀ u_2 : th_St, u_2 = th_sa u 35 (upd (u.2.2.1 35) ((((96 : Int32) * x1) + x3)).toNatClampNeg y_1) → (vp_in (x2 + x3) 440 ∧ ∀ y_3 : Int32, y_3 = u_2.2.2.1 1 ((x2 + x3)).toNatClampNeg → (vp_in ((((96 : Int32) * x1) + (48 : Int32)) + x3) 9600 ∧ ∀ u_4 : th_St, u_4 = th_sa u_2 35 (upd (u_2.2.2.1 35) (((((96 : Int32) * x1) + (48 : Int32)) + x3)).toNatClampNeg y_3) → ∀ x3_5 : Int32, x3_5 = x3 + (1 : Int32) → k80 x1 x2 x3_5 u_4))))))
set_option maxHeartbeats 4000000 in
set_option maxRecDepth 100000 in
theorem M_takeRow_80_w {K : Int32 → th_St → Prop} {k80 : Int32 → Int32 → Int32 → th_St → Prop} (C : th_Cx p s m args meth c cX12_takeRow RX12 4 (some .boolean) (dC, dI) (th_ty cs) th_E0 A) (hk80 : ∀ (x1 : Int32) (x2 : Int32) (x3 : Int32) (u : th_St) (H : Heap) (locs : List Loc) (ls : Array Slot), k80 x1 x2 x3 u → th_wI (dC, dI) (wM cs q) A s.heap u H locs → lv_has ls 4 [(0, .ref (q 0)), (1, .int x1), (2, .int x2), (3, .int x3)] → W p l e (th_rm 1 0 0) s m args below meth c H locs 0 0 (MQ below (va_Qi K (th_Post (dC, dI) (wM cs q) A) A) args s 0 0 A) (F0 m 80 ls [])) (x1 : Int32) (x2 : Int32) (x3 : Int32) (u : th_St) (H : Heap) (locs : List Loc) (ls : Array Slot) (hf : M_takeRow_80 K k80 x1 x2 x3 u) (hw : th_wI (dC, dI) (wM cs q) A s.heap u H locs) (hl : lv_has ls 4 [(0, .ref (q 0)), (1, .int x1), (2, .int x2), (3, .int x3)]) : W p l e (th_rm 1 0 0) s m args below meth c H locs 0 0 (MQ below (va_Qi K (th_Post (dC, dI) (wM cs q) A) A) args s 0 0 A) (F0 m 80 ls []) := by
  have hx := C.1
  have hb := C.2.1
  unfold M_takeRow_80 at hf
  refine lv_iload_n hx hb dX12_takeRow_80 rfl (lv_at hl 3 rfl) ?_
  refine lv_iload_n hx hb dX12_takeRow_81 rfl (lv_at hl 2 rfl) ?_
  refine lv_icmp_ge (tgt := 130) hx hb dX12_takeRow_82 (by decide) (fun hc => ?_) (fun hc => ?_)
  · replace hf := hf.1 hc
    clear hc
    refine lv_iconst (v := (1 : Int32)) hx hb dX12_takeRow_130 (by decide) ?_
    exact th_zret C hw hf dX12_takeRow_131
  · replace hf := hf.2 hc
    clear hc
    refine lv_aload_n hx hb dX12_takeRow_85 rfl (lv_at hl 0 rfl) ?_
    refine mg_35 C hw dX12_takeRow_86 ?_
    refine lv_bipush (v := (96 : Int32)) hx hb dX12_takeRow_89 (by decide) ?_
    refine lv_iload_n hx hb dX12_takeRow_91 rfl (lv_at hl 1 rfl) ?_
    refine lv_imul hx hb dX12_takeRow_92 ?_
    refine lv_iload_n hx hb dX12_takeRow_93 rfl (lv_at hl 3 rfl) ?_
    refine lv_iadd hx hb dX12_takeRow_94 ?_
    refine lv_aload_n hx hb dX12_takeRow_95 rfl (lv_at hl 0 rfl) ?_
    refine mg_1 C hw dX12_takeRow_96 ?_
    refine lv_iload_n hx hb dX12_takeRow_99 rfl (lv_at hl 3 rfl) ?_
    refine ml_1 C hw hf.1 dX12_takeRow_100 (fun y_1 e9 => ?_)
    replace hf := hf.2 y_1 e9
    clear e9
    refine ms_35 C hw hf.1 dX12_takeRow_101 (fun u_2 e9 H locs hw => ?_)
    replace hf := hf.2 u_2 e9
    clear e9
    refine lv_aload_n hx hb dX12_takeRow_102 rfl (lv_at hl 0 rfl) ?_
    refine mg_35 C hw dX12_takeRow_103 ?_
    refine lv_bipush (v := (96 : Int32)) hx hb dX12_takeRow_106 (by decide) ?_
    refine lv_iload_n hx hb dX12_takeRow_108 rfl (lv_at hl 1 rfl) ?_
    refine lv_imul hx hb dX12_takeRow_109 ?_
    refine lv_bipush (v := (48 : Int32)) hx hb dX12_takeRow_110 (by decide) ?_
    refine lv_iadd hx hb dX12_takeRow_112 ?_
    refine lv_iload_n hx hb dX12_takeRow_113 rfl (lv_at hl 3 rfl) ?_
    refine lv_iadd hx hb dX12_takeRow_114 ?_
    refine lv_aload_n hx hb dX12_takeRow_115 rfl (lv_at hl 0 rfl) ?_
    refine mg_1 C hw dX12_takeRow_116 ?_
    refine lv_iload_n hx hb dX12_takeRow_119 rfl (lv_at hl 2 rfl) ?_
    refine lv_iload_n hx hb dX12_takeRow_120 rfl (lv_at hl 3 rfl) ?_
    refine lv_iadd hx hb dX12_takeRow_121 ?_
    refine ml_1 C hw hf.1 dX12_takeRow_122 (fun y_3 e9 => ?_)
    replace hf := hf.2 y_3 e9
    clear e9
    refine ms_35 C hw hf.1 dX12_takeRow_123 (fun u_4 e9 H locs hw => ?_)
    replace hf := hf.2 u_4 e9
    clear e9
    obtain ⟨x3_5, e9⟩ : ∃ y : Int32, y = x3 + (1 : Int32) := ⟨_, rfl⟩
    replace hf := hf x3_5 e9
    refine lv_iinc (v := x3_5) (lv' := [(3, .int x3_5), (0, .ref (q 0)), (1, .int x1), (2, .int x2)]) hx hb dX12_takeRow_124 hl (k := 3) rfl (by rw [e9]; rfl) (by decide) rfl (fun ls hl => ?_)
    clear e9
    refine lv_goto (tgt := 80) hx hb dX12_takeRow_127 (by decide) ?_
    exact hk80 x1 x2 x3_5 u_4 _ _ _ hf hw (lv_sub hl [1, 2, 3, 0] rfl)
def M_takeRow_80_lp (K : Int32 → th_St → Prop) : Nat → Int32 → Int32 → Int32 → th_St → Prop
  | 0, _, _, _, _ => False
  | n + 1, x1, x2, x3, u => M_takeRow_80 K (M_takeRow_80_lp K n) x1 x2 x3 u
set_option maxHeartbeats 4000000 in
set_option maxRecDepth 100000 in
theorem M_takeRow_80_lw {K : Int32 → th_St → Prop} (C : th_Cx p s m args meth c cX12_takeRow RX12 4 (some .boolean) (dC, dI) (th_ty cs) th_E0 A) (n : Nat) : ∀ (x1 : Int32) (x2 : Int32) (x3 : Int32) (u : th_St) (H : Heap) (locs : List Loc) (ls : Array Slot), M_takeRow_80_lp K n x1 x2 x3 u → th_wI (dC, dI) (wM cs q) A s.heap u H locs → lv_has ls 4 [(0, .ref (q 0)), (1, .int x1), (2, .int x2), (3, .int x3)] → W p l e (th_rm 1 0 0) s m args below meth c H locs 0 0 (MQ below (va_Qi K (th_Post (dC, dI) (wM cs q) A) A) args s 0 0 A) (F0 m 80 ls []) := by
  induction n with
  | zero => intro x1 x2 x3 u H locs ls hf; exact hf.elim
  | succ n ih =>
    intro x1 x2 x3 u H locs ls hf hw hl
    exact M_takeRow_80_w C ih x1 x2 x3 u H locs ls hf hw hl
def M_takeRow_25 (K : Int32 → th_St → Prop) (k25 : Int32 → Int32 → Int32 → th_St → Prop) (x1 : Int32) (x2 : Int32) (x3 : Int32) (u : th_St) : Prop :=
  ((x2 ≤ x3 → ((0 ≤ x1 → ∃ n, M_takeRow_80_lp K n x1 x2 (0 : Int32) u) ∧ (¬ 0 ≤ x1 → (((1 : Int32) = 0 ∨ (1 : Int32) = 1) ∧ K (1 : Int32) u)))) ∧ (¬ x2 ≤ x3 → (vp_in x3 440 ∧ ∀ y_1 : Int32, y_1 = u.2.2.1 1 (x3).toNatClampNeg → M_isIn y_1 (-99 : Int32) (99 : Int32) u (fun r_3 u_2 => ((r_3 = 0 → M_takeRow_64 K u_2) ∧ (¬ r_3 = 0 → (vp_in (x2 + x3) 440 ∧ ∀ y_4 : Int32, y_4 = u_2.2.2.1 1 ((x2 + x3)).toNatClampNeg → M_isIn y_4 (-50 : Int32) (50 : Int32) u_2 (fun r_6 u_5 => ((¬ r_6 = 0 → ∀ x3_7 : Int32, x3_7 = x3 + (1 : Int32) → k25 x1 x2 x3_7 u_5) ∧ (r_6 = 0 → M_takeRow_64 K u_5))))))))))
set_option maxHeartbeats 4000000 in
set_option maxRecDepth 100000 in
theorem M_takeRow_25_w {K : Int32 → th_St → Prop} {k25 : Int32 → Int32 → Int32 → th_St → Prop} (C : th_Cx p s m args meth c cX12_takeRow RX12 4 (some .boolean) (dC, dI) (th_ty cs) th_E0 A) (hk25 : ∀ (x1 : Int32) (x2 : Int32) (x3 : Int32) (u : th_St) (H : Heap) (locs : List Loc) (ls : Array Slot), k25 x1 x2 x3 u → th_wI (dC, dI) (wM cs q) A s.heap u H locs → lv_has ls 4 [(0, .ref (q 0)), (1, .int x1), (2, .int x2), (3, .int x3)] → W p l e (th_rm 1 0 0) s m args below meth c H locs 0 0 (MQ below (va_Qi K (th_Post (dC, dI) (wM cs q) A) A) args s 0 0 A) (F0 m 25 ls [])) (x1 : Int32) (x2 : Int32) (x3 : Int32) (u : th_St) (H : Heap) (locs : List Loc) (ls : Array Slot) (hf : M_takeRow_25 K k25 x1 x2 x3 u) (hw : th_wI (dC, dI) (wM cs q) A s.heap u H locs) (hl : lv_has ls 4 [(0, .ref (q 0)), (1, .int x1), (2, .int x2), (3, .int x3)]) : W p l e (th_rm 1 0 0) s m args below meth c H locs 0 0 (MQ below (va_Qi K (th_Post (dC, dI) (wM cs q) A) A) args s 0 0 A) (F0 m 25 ls []) := by
  have hx := C.1
  have hb := C.2.1
  unfold M_takeRow_25 at hf
  refine lv_iload_n hx hb dX12_takeRow_25 rfl (lv_at hl 3 rfl) ?_
  refine lv_iload_n hx hb dX12_takeRow_26 rfl (lv_at hl 2 rfl) ?_
  refine lv_icmp_ge (tgt := 72) hx hb dX12_takeRow_27 (by decide) (fun hc => ?_) (fun hc => ?_)
  · replace hf := hf.1 hc
    clear hc
    refine lv_iload_n hx hb dX12_takeRow_72 rfl (lv_at hl 1 rfl) ?_
    refine lv_if_ge (tgt := 78) hx hb dX12_takeRow_73 (by decide) (fun hc => ?_) (fun hc => ?_)
    · replace hf := hf.1 hc
      clear hc
      refine lv_iconst (v := (0 : Int32)) hx hb dX12_takeRow_78 (by decide) ?_
      refine lv_istore_n (lv' := [(3, .int (0 : Int32)), (0, .ref (q 0)), (1, .int x1), (2, .int x2)]) hx hb dX12_takeRow_79 rfl hl (by decide) rfl (fun ls hl => ?_)
      obtain ⟨n, hf⟩ := hf
      exact M_takeRow_80_lw C n x1 x2 (0 : Int32) u _ _ _ hf hw (lv_sub hl [1, 2, 3, 0] rfl)
    · replace hf := hf.2 hc
      clear hc
      refine lv_iconst (v := (1 : Int32)) hx hb dX12_takeRow_76 (by decide) ?_
      exact th_zret C hw hf dX12_takeRow_77
  · replace hf := hf.2 hc
    clear hc
    refine lv_aload_n hx hb dX12_takeRow_30 rfl (lv_at hl 0 rfl) ?_
    refine mg_1 C hw dX12_takeRow_31 ?_
    refine lv_iload_n hx hb dX12_takeRow_34 rfl (lv_at hl 3 rfl) ?_
    refine ml_1 C hw hf.1 dX12_takeRow_35 (fun y_1 e9 => ?_)
    replace hf := hf.2 y_1 e9
    clear e9
    refine lv_bipush (v := (-99 : Int32)) hx hb dX12_takeRow_36 (by decide) ?_
    refine lv_bipush (v := (99 : Int32)) hx hb dX12_takeRow_38 (by decide) ?_
    refine th_callSi (As := [.int y_1, .int (-99 : Int32), .int (99 : Int32)]) (rest := []) C lkX12_24 (M_isIn_c hf) hw rfl rfl ⟨Nat.le_of_ble_eq_true rfl, Nat.le_of_ble_eq_true rfl⟩ hl.1 (Nat.le_of_ble_eq_true rfl) ⟨Nat.le_refl _, Nat.le_refl _⟩ dX12_takeRow_40 (fun r_3 u_2 H locs hf hw => ?_)
    refine lv_if_eq (tgt := 64) hx hb dX12_takeRow_43 (by decide) (fun hc => ?_) (fun hc => ?_)
    · replace hf := hf.1 hc
      clear hc
      exact M_takeRow_64_w C  u_2 _ _ _ hf hw (lv_sub hl [] rfl)
    · replace hf := hf.2 hc
      clear hc
      refine lv_aload_n hx hb dX12_takeRow_46 rfl (lv_at hl 0 rfl) ?_
      refine mg_1 C hw dX12_takeRow_47 ?_
      refine lv_iload_n hx hb dX12_takeRow_50 rfl (lv_at hl 2 rfl) ?_
      refine lv_iload_n hx hb dX12_takeRow_51 rfl (lv_at hl 3 rfl) ?_
      refine lv_iadd hx hb dX12_takeRow_52 ?_
      refine ml_1 C hw hf.1 dX12_takeRow_53 (fun y_4 e9 => ?_)
      replace hf := hf.2 y_4 e9
      clear e9
      refine lv_bipush (v := (-50 : Int32)) hx hb dX12_takeRow_54 (by decide) ?_
      refine lv_bipush (v := (50 : Int32)) hx hb dX12_takeRow_56 (by decide) ?_
      refine th_callSi (As := [.int y_4, .int (-50 : Int32), .int (50 : Int32)]) (rest := []) C lkX12_24 (M_isIn_c hf) hw rfl rfl ⟨Nat.le_of_ble_eq_true rfl, Nat.le_of_ble_eq_true rfl⟩ hl.1 (Nat.le_of_ble_eq_true rfl) ⟨Nat.le_refl _, Nat.le_refl _⟩ dX12_takeRow_58 (fun r_6 u_5 H locs hf hw => ?_)
      refine lv_if_ne (tgt := 66) hx hb dX12_takeRow_61 (by decide) (fun hc => ?_) (fun hc => ?_)
      · replace hf := hf.1 hc
        clear hc
        obtain ⟨x3_7, e9⟩ : ∃ y : Int32, y = x3 + (1 : Int32) := ⟨_, rfl⟩
        replace hf := hf x3_7 e9
        refine lv_iinc (v := x3_7) (lv' := [(3, .int x3_7), (0, .ref (q 0)), (1, .int x1), (2, .int x2)]) hx hb dX12_takeRow_66 hl (k := 3) rfl (by rw [e9]; rfl) (by decide) rfl (fun ls hl => ?_)
        clear e9
        refine lv_goto (tgt := 25) hx hb dX12_takeRow_69 (by decide) ?_
        exact hk25 x1 x2 x3_7 u_5 _ _ _ hf hw (lv_sub hl [1, 2, 3, 0] rfl)
      · replace hf := hf.2 hc
        clear hc
        exact M_takeRow_64_w C  u_5 _ _ _ hf hw (lv_sub hl [] rfl)
def M_takeRow_25_lp (K : Int32 → th_St → Prop) : Nat → Int32 → Int32 → Int32 → th_St → Prop
  | 0, _, _, _, _ => False
  | n + 1, x1, x2, x3, u => M_takeRow_25 K (M_takeRow_25_lp K n) x1 x2 x3 u
set_option maxHeartbeats 4000000 in
set_option maxRecDepth 100000 in
theorem M_takeRow_25_lw {K : Int32 → th_St → Prop} (C : th_Cx p s m args meth c cX12_takeRow RX12 4 (some .boolean) (dC, dI) (th_ty cs) th_E0 A) (n : Nat) : ∀ (x1 : Int32) (x2 : Int32) (x3 : Int32) (u : th_St) (H : Heap) (locs : List Loc) (ls : Array Slot), M_takeRow_25_lp K n x1 x2 x3 u → th_wI (dC, dI) (wM cs q) A s.heap u H locs → lv_has ls 4 [(0, .ref (q 0)), (1, .int x1), (2, .int x2), (3, .int x3)] → W p l e (th_rm 1 0 0) s m args below meth c H locs 0 0 (MQ below (va_Qi K (th_Post (dC, dI) (wM cs q) A) A) args s 0 0 A) (F0 m 25 ls []) := by
  induction n with
  | zero => intro x1 x2 x3 u H locs ls hf; exact hf.elim
  | succ n ih =>
    intro x1 x2 x3 u H locs ls hf hw hl
    exact M_takeRow_25_w C ih x1 x2 x3 u H locs ls hf hw hl
def M_takeRow (a1 : Int32) (u : th_St) (K : Int32 → th_St → Prop) : Prop :=
  M_taken u (fun u_1 => (vp_in (0 : Int32) 2 ∧ ∀ y_3 : Int32, y_3 = u_1.2.2.1 11 ((0 : Int32)).toNatClampNeg → (((u_1.1 3) = ((2 : Int32) * y_3) → ∃ n, M_takeRow_25_lp K n a1 y_3 (0 : Int32) u_1) ∧ (¬ (u_1.1 3) = ((2 : Int32) * y_3) → (((0 : Int32) = 0 ∨ (0 : Int32) = 1) ∧ K (0 : Int32) u_1)))))
set_option maxHeartbeats 4000000 in
set_option maxRecDepth 100000 in
theorem M_takeRow_c {l : Launch} {dC : Nat → ClassId} {dI : Nat → Nat → Nat} {cs : Nat → ClassId} {q : Nat → Nat} {a1 : Int32} {u : th_St} {K : Int32 → th_St → Prop} (hf : M_takeRow a1 u K) : th_Ci l yX12_takeRow cX12_takeRow 4 (some .boolean) 1 0 0 (dC, dI) (th_ty cs) th_E0 (wM cs q) [.ref (q 0), .int a1] u K := by
  refine th_ofi (by decide) (Nat.le_of_ble_eq_true rfl) th_E0_ok ?_
  intro p e s m below meth c A ls C hw hl
  have C : th_Cx p s m _ meth c cX12_takeRow RX12 4 (some .boolean) (dC, dI) (th_ty cs) th_E0 A := C
  have hl : lv_has ls 4 [(0, .ref (q 0)), (1, .int a1)] := hl
  generalize (List.toArray _ : Array Value) = args at C ⊢
  have hx := C.1
  have hb := C.2.1
  unfold M_takeRow at hf
  refine lv_aload_n hx hb dX12_takeRow_0 rfl (lv_at hl 0 rfl) ?_
  refine th_callVv (As := []) (rest := []) C lkX12_164 (M_taken_c hf) hw (mRc C hw) rfl rfl ⟨Nat.le_of_ble_eq_true rfl, Nat.le_of_ble_eq_true rfl⟩ hl.1 (Nat.le_of_ble_eq_true rfl) ⟨Nat.le_refl _, Nat.le_refl _⟩ dX12_takeRow_1 (fun u_1 H locs hf hw => ?_)
  refine lv_aload_n hx hb dX12_takeRow_4 rfl (lv_at hl 0 rfl) ?_
  refine mg_11 C hw dX12_takeRow_5 ?_
  refine lv_iconst (v := (0 : Int32)) hx hb dX12_takeRow_8 (by decide) ?_
  refine ml_11 C hw hf.1 dX12_takeRow_9 (fun y_3 e9 => ?_)
  replace hf := hf.2 y_3 e9
  clear e9
  refine lv_istore_n (lv' := [(2, .int y_3), (0, .ref (q 0)), (1, .int a1)]) hx hb dX12_takeRow_10 rfl hl (by decide) rfl (fun ls hl => ?_)
  refine lv_aload_n hx hb dX12_takeRow_11 rfl (lv_at hl 1 rfl) ?_
  refine mg_3 C hw dX12_takeRow_12 ?_
  refine lv_iconst (v := (2 : Int32)) hx hb dX12_takeRow_15 (by decide) ?_
  refine lv_iload_n hx hb dX12_takeRow_16 rfl (lv_at hl 0 rfl) ?_
  refine lv_imul hx hb dX12_takeRow_17 ?_
  refine lv_icmp_eq (tgt := 23) hx hb dX12_takeRow_18 (by decide) (fun hc => ?_) (fun hc => ?_)
  · replace hf := hf.1 hc
    clear hc
    refine lv_iconst (v := (0 : Int32)) hx hb dX12_takeRow_23 (by decide) ?_
    refine lv_istore_n (lv' := [(3, .int (0 : Int32)), (2, .int y_3), (0, .ref (q 0)), (1, .int a1)]) hx hb dX12_takeRow_24 rfl hl (by decide) rfl (fun ls hl => ?_)
    obtain ⟨n, hf⟩ := hf
    exact M_takeRow_25_lw C n a1 y_3 (0 : Int32) u_1 _ _ _ hf hw (lv_sub hl [2, 3, 1, 0] rfl)
  · replace hf := hf.2 hc
    clear hc
    refine lv_iconst (v := (0 : Int32)) hx hb dX12_takeRow_21 (by decide) ?_
    exact th_zret C hw hf dX12_takeRow_22
end

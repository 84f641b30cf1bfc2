theorem gv_len : ∀ i, i < 27 → xs_len i < 2 ^ 31 := by decide +kernel
theorem gv_7 : Cond.arrayOf (.static "ThreadHouse$Reader" "TOKENS" "[LThreadHouse$Token;") (.object "ThreadHouse$Token") ∈ gv_fl ∧ Cond.eq (.length (.static "ThreadHouse$Reader" "TOKENS" "[LThreadHouse$Token;")) (.int (Int32.ofNat 27)) ∈ gv_fl ∧ Cond.eq (.static "java/lang/String" "COMPACT_STRINGS" "Z") (.int 1) ∈ gv_fl ∧ Cond.isRef (.static "jdk/internal/util/Preconditions" "SIOOBE_FORMATTER" "Ljava/util/function/BiFunction;") ∈ gv_fl ∧ Cond.isRef (.static "java/lang/Throwable" "UNASSIGNED_STACK" "[Ljava/lang/StackTraceElement;") ∈ gv_fl ∧ Cond.isRef (.static "java/lang/Throwable" "SUPPRESSED_SENTINEL" "Ljava/util/List;") ∈ gv_fl := by decide +kernel
theorem gv_8 : Cond.exactly (.string "ThreadHouse" 150) "java/lang/String" ∈ gv_fl ∧ Cond.exactly (.string "ThreadHouse" 164) "java/lang/String" ∈ gv_fl ∧ Cond.exactly (.string "ThreadHouse" 197) "java/lang/String" ∈ gv_fl ∧ Cond.exactly (.string "ThreadHouse" 246) "java/lang/String" ∈ gv_fl := by decide +kernel
theorem gv_E {s : State} {args : Array Value} (hts : ∀ w ∈ lw_tbl, w.before args s = true) (hg : (Jvm.Cond.and given_1 narrow_1).before args s = true) : ∃ ad ak : Nat → Nat, xE5 ad ak (fun q => s.heap.size ≤ q) s s.heap := by
  have hs : ∀ c ∈ gv_fl, c.before args s = true := flat_of_before _ hg
  have hA : ∀ a : Nat, a < s.heap.size → ¬ (fun q => s.heap.size ≤ q) a := fun a h => Nat.not_le.mpr h
  have hlay : ∀ i, i < 27 → (Cond.laysStatic "ThreadHouse$Token" (xs_names.getD i "") "LThreadHouse$Token;").before args s = true := by
    intro i hi
    match i, hi with
    | 0, _ => exact (hts _ (List.mem_append_right _ (List.mem_append_left _ (List.mem_of_getElem? (i := 139) rfl))))
    | 1, _ => exact (hts _ (List.mem_append_right _ (List.mem_append_right _ (List.mem_append_right _ (List.mem_append_left _ (List.mem_of_getElem? (i := 61) rfl))))))
    | 2, _ => exact (hts _ (List.mem_append_right _ (List.mem_append_right _ (List.mem_append_right _ (List.mem_append_left _ (List.mem_of_getElem? (i := 63) rfl))))))
    | 3, _ => exact (hts _ (List.mem_append_right _ (List.mem_append_right _ (List.mem_append_right _ (List.mem_append_left _ (List.mem_of_getElem? (i := 90) rfl))))))
    | 4, _ => exact (hts _ (List.mem_append_right _ (List.mem_append_right _ (List.mem_append_right _ (List.mem_append_left _ (List.mem_of_getElem? (i := 157) rfl))))))
    | 5, _ => exact (hts _ (List.mem_append_right _ (List.mem_append_right _ (List.mem_append_right _ (List.mem_append_left _ (List.mem_of_getElem? (i := 172) rfl))))))
    | 6, _ => exact (hts _ (List.mem_append_right _ (List.mem_append_right _ (List.mem_append_right _ (List.mem_append_left _ (List.mem_of_getElem? (i := 178) rfl))))))
    | 7, _ => exact (hts _ (List.mem_append_right _ (List.mem_append_right _ (List.mem_append_right _ (List.mem_append_left _ (List.mem_of_getElem? (i := 180) rfl))))))
    | 8, _ => exact (hts _ (List.mem_append_right _ (List.mem_append_right _ (List.mem_append_right _ (List.mem_append_left _ (List.mem_of_getElem? (i := 182) rfl))))))
    | 9, _ => exact (hts _ (List.mem_append_right _ (List.mem_append_right _ (List.mem_append_right _ (List.mem_append_left _ (List.mem_of_getElem? (i := 76) rfl))))))
    | 10, _ => exact (hts _ (List.mem_append_right _ (List.mem_append_right _ (List.mem_append_right _ (List.mem_append_left _ (List.mem_of_getElem? (i := 103) rfl))))))
    | 11, _ => exact (hts _ (List.mem_append_right _ (List.mem_append_right _ (List.mem_append_right _ (List.mem_append_left _ (List.mem_of_getElem? (i := 123) rfl))))))
    | 12, _ => exact (hts _ (List.mem_append_right _ (List.mem_append_right _ (List.mem_append_right _ (List.mem_append_left _ (List.mem_of_getElem? (i := 105) rfl))))))
    | 13, _ => exact (hts _ (List.mem_append_right _ (List.mem_append_right _ (List.mem_append_right _ (List.mem_append_left _ (List.mem_of_getElem? (i := 137) rfl))))))
    | 14, _ => exact (hts _ (List.mem_append_right _ (List.mem_append_right _ (List.mem_append_right _ (List.mem_append_left _ (List.mem_of_getElem? (i := 107) rfl))))))
    | 15, _ => exact (hts _ (List.mem_append_right _ (List.mem_append_right _ (List.mem_append_right _ (List.mem_append_left _ (List.mem_of_getElem? (i := 109) rfl))))))
    | 16, _ => exact (hts _ (List.mem_append_right _ (List.mem_append_right _ (List.mem_append_right _ (List.mem_append_left _ (List.mem_of_getElem? (i := 111) rfl))))))
    | 17, _ => exact (hts _ (List.mem_append_right _ (List.mem_append_right _ (List.mem_append_right _ (List.mem_append_left _ (List.mem_of_getElem? (i := 113) rfl))))))
    | 18, _ => exact (hts _ (List.mem_append_right _ (List.mem_append_right _ (List.mem_append_right _ (List.mem_append_left _ (List.mem_of_getElem? (i := 197) rfl))))))
    | 19, _ => exact (hts _ (List.mem_append_right _ (List.mem_append_right _ (List.mem_append_right _ (List.mem_append_left _ (List.mem_of_getElem? (i := 195) rfl))))))
    | 20, _ => exact (hts _ (List.mem_append_right _ (List.mem_append_right _ (List.mem_append_right _ (List.mem_append_left _ (List.mem_of_getElem? (i := 193) rfl))))))
    | 21, _ => exact (hts _ (List.mem_append_right _ (List.mem_append_right _ (List.mem_append_right _ (List.mem_append_left _ (List.mem_of_getElem? (i := 155) rfl))))))
    | 22, _ => exact (hts _ (List.mem_append_right _ (List.mem_append_right _ (List.mem_append_right _ (List.mem_append_left _ (List.mem_of_getElem? (i := 162) rfl))))))
    | 23, _ => exact (hts _ (List.mem_append_right _ (List.mem_append_right _ (List.mem_append_right _ (List.mem_append_left _ (List.mem_of_getElem? (i := 164) rfl))))))
    | 24, _ => exact (hts _ (List.mem_append_right _ (List.mem_append_right _ (List.mem_append_right _ (List.mem_append_left _ (List.mem_of_getElem? (i := 166) rfl))))))
    | 25, _ => exact (hts _ (List.mem_append_right _ (List.mem_append_right _ (List.mem_append_right _ (List.mem_append_left _ (List.mem_of_getElem? (i := 168) rfl))))))
    | 26, _ => exact (hts _ (List.mem_append_right _ (List.mem_append_right _ (List.mem_append_right _ (List.mem_append_left _ (List.mem_of_getElem? (i := 170) rfl))))))
    | i + 27, h => exact absurd h (by omega)
  have hiT : (Cond.initialized "ThreadHouse$Token").before args s = true := (hts _ (List.mem_append_right _ (List.mem_append_left _ (List.mem_of_getElem? (i := 7) rfl))))
  have h0 : ∀ i : Nat, ∃ t : Nat, i < 27 → (gv_st i).eval args s none [] s = some (.ref t) ∧ va_O "ThreadHouse$Token" t (fun q => s.heap.size ≤ q) s s.heap := by
    intro i
    by_cases hi : i < 27
    · obtain ⟨a, c, cell, k, q1, -⟩ := Cond.exactly_spec (hs _ (gv_1 i hi))
      exact ⟨a, fun _ => ⟨q1, va_Oof (hs _ (gv_1 i hi)) q1 hA⟩⟩
    · exact ⟨0, fun h => absurd h hi⟩
  obtain ⟨a0, ha0⟩ : ∃ a0 : Nat → Nat, ∀ i, i < 27 → (gv_st i).eval args s none [] s = some (.ref (a0 i)) ∧ va_O "ThreadHouse$Token" (a0 i) (fun q => s.heap.size ≤ q) s s.heap := ⟨fun i => Classical.choose (h0 i), fun i hi => Classical.choose_spec (h0 i) hi⟩
  obtain ⟨ad, had⟩ : ∃ ad : Nat → Nat, ad = fun i => if i < 27 then a0 i else s.heap.size + i := ⟨_, rfl⟩
  have adl : ∀ i, i < 27 → ad i = a0 i := fun i hi => by rw [had]; exact if_pos hi
  have adg : ∀ i, ¬ i < 27 → ad i = s.heap.size + i := fun i hi => by rw [had]; exact if_neg hi
  have alt : ∀ i, i < 27 → a0 i < s.heap.size := fun i hi => by
    obtain ⟨cell, h1, -⟩ := (ha0 i hi).2
    exact (Array.getElem?_eq_some_iff.mp h1).1
  have inj0 : ∀ i j, i < 27 → j < 27 → a0 i = a0 j → i = j := fun i j hi hj e => by
    have e1 := va_eqv (hs _ (gv_2 i hi)) rfl
    have e2 := va_eqv (hs _ (gv_2 j hj)) rfl
    have e3 : (Term.field (gv_st i) "java/lang/Enum" "ordinal" "I").eval args s none [] s = (Term.field (gv_st j) "java/lang/Enum" "ordinal" "I").eval args s none [] s := by
      simp only [Term.eval, (ha0 i hi).1, (ha0 j hj).1, e]
    rw [e1, e2] at e3
    have e4 : nI i = nI j := by injection e3 with e5; injection e5
    exact (nI_eq (by omega) (by omega)).mp e4
  have inj : ∀ i j, ad i = ad j → i = j := fun i j e => by
    by_cases hi : i < 27 <;> by_cases hj : j < 27
    · rw [adl i hi, adl j hj] at e; exact inj0 i j hi hj e
    · rw [adl i hi, adg j hj] at e; have := alt i hi; omega
    · rw [adg i hi, adl j hj] at e; have := alt j hj; omega
    · rw [adg i hi, adg j hj] at e; omega
  have hev : ∀ i, i < 27 → (gv_st i).eval args s none [] s = some (.ref (ad i)) := fun i hi => by rw [adl i hi]; exact (ha0 i hi).1
  have hEn : va_En "ThreadHouse$Token" "LThreadHouse$Token;" xs_names [] ad (fun q => s.heap.size ≤ q) s s.heap := ⟨fun i hi => ⟨va_Zof (hlay i hi) hiT (hev i hi) hA, by rw [adl i hi]; exact (ha0 i hi).2, fun q hq => nomatch hq⟩, fun i j _ _ e => inj i j e⟩
  have hst : ∀ i : Nat, ∃ q : Nat × Nat, i < 27 → (gv_tm i).eval args s none [] s = some (.ref q.1) ∧ va_O "java/lang/String" q.1 (fun q => s.heap.size ≤ q) s s.heap ∧ va_OF "java/lang/String" "coder" "B" (.int 0) q.1 (fun q => s.heap.size ≤ q) s s.heap ∧ va_OF "java/lang/String" "value" "[B" (.ref q.2) q.1 (fun q => s.heap.size ≤ q) s s.heap ∧ va_T .byte q.2 (xs_len i) (fun j => .int (xs_chr i j)) (fun q => s.heap.size ≤ q) s s.heap := by
    intro i
    by_cases hi : i < 27
    · obtain ⟨g1, g2, g3, g4⟩ := gv_4 i hi
      obtain ⟨a, v, q⟩ := gv_str (n := xs_len i) (f := xs_chr i) (gv_len i hi) (hs _ g1) (hs _ g2) (hs _ g3) (hs _ g4) (fun j hj => hs _ (gv_5 i hi j hj)) hA
      exact ⟨(a, v), fun _ => q⟩
    · exact ⟨(0, 0), fun h => absurd h hi⟩
  obtain ⟨sq, hsq⟩ : ∃ sq : Nat → Nat × Nat, ∀ i, i < 27 → (gv_tm i).eval args s none [] s = some (.ref (sq i).1) ∧ va_O "java/lang/String" (sq i).1 (fun q => s.heap.size ≤ q) s s.heap ∧ va_OF "java/lang/String" "coder" "B" (.int 0) (sq i).1 (fun q => s.heap.size ≤ q) s s.heap ∧ va_OF "java/lang/String" "value" "[B" (.ref (sq i).2) (sq i).1 (fun q => s.heap.size ≤ q) s s.heap ∧ va_T .byte (sq i).2 (xs_len i) (fun j => .int (xs_chr i j)) (fun q => s.heap.size ≤ q) s s.heap := ⟨fun i => Classical.choose (hst i), fun i hi => Classical.choose_spec (hst i) hi⟩
  obtain ⟨tk, htk, hT⟩ := va_Tof (tm := .static "ThreadHouse$Reader" "TOKENS" "[LThreadHouse$Token;") (ty := .object "ThreadHouse$Token") (N := 27) (f := fun j => .ref (ad j)) (by decide) (hs _ gv_7.1) (va_eqv (hs _ gv_7.2.1) rfl) (fun j hj => va_eqv (hs _ (gv_6 j hj)) (hev j hj)) hA
  obtain ⟨t0, _, _, _, q0, -⟩ := Cond.exactly_spec (hs _ gv_8.1)
  obtain ⟨t1, _, _, _, q1, -⟩ := Cond.exactly_spec (hs _ gv_8.2.1)
  obtain ⟨t2, _, _, _, q2, -⟩ := Cond.exactly_spec (hs _ gv_8.2.2.1)
  obtain ⟨t3, _, _, _, q3, -⟩ := Cond.exactly_spec (hs _ gv_8.2.2.2)
  refine ⟨ad, fun k => if k = 0 then tk else if k < 200 then (sq (k - 100)).1 else if k < 300 then (sq (k - 200)).2 else if k = 300 then t0 else if k = 301 then t1 else if k = 302 then t2 else t3, ⟨fun w hw => va_Nw.of (xs_nest_tab hw) (hts w (List.mem_append_right _ (List.mem_filter.mp hw).1)), inj, hEn, ⟨va_Zof (hts _ (List.mem_append_right _ (List.mem_append_right _ (List.mem_append_right _ (List.mem_append_left _ (List.mem_of_getElem? (i := 8) rfl)))))) (hts _ (List.mem_append_right _ (List.mem_append_left _ (List.mem_of_getElem? (i := 3) rfl)))) htk hA, hT, ?_, fun i hi => ?_, va_Zof (hts _ (List.mem_append_right _ (List.mem_append_right _ (List.mem_append_right _ (List.mem_append_left _ (List.mem_of_getElem? (i := 21) rfl)))))) (hts _ (List.mem_append_right _ (List.mem_append_left _ (List.mem_of_getElem? (i := 17) rfl)))) (va_eqv (hs _ gv_7.2.2.1) rfl) hA, va_Zqof (hts _ (List.mem_append_right _ (List.mem_append_right _ (List.mem_append_right _ (List.mem_append_left _ (List.mem_of_getElem? (i := 37) rfl)))))) (hts _ (List.mem_append_right _ (List.mem_append_left _ (List.mem_of_getElem? (i := 19) rfl)))) (hs _ gv_7.2.2.2.1) hA⟩, ⟨vx_Zqof (hts _ (List.mem_append_right _ (List.mem_append_right _ (List.mem_append_right _ (List.mem_append_right _ (List.mem_append_right _ (List.mem_append_left _ (List.mem_of_getElem? (i := 81) rfl)))))))) (hts _ (List.mem_append_right _ (List.mem_append_left _ (List.mem_of_getElem? (i := 22) rfl)))) (hs _ gv_7.2.2.2.2.1) hA, vx_Zqof (hts _ (List.mem_append_right _ (List.mem_append_right _ (List.mem_append_right _ (List.mem_append_right _ (List.mem_append_right _ (List.mem_append_left _ (List.mem_of_getElem? (i := 83) rfl)))))))) (hts _ (List.mem_append_right _ (List.mem_append_left _ (List.mem_of_getElem? (i := 22) rfl)))) (hs _ gv_7.2.2.2.2.2) hA, ?_, ?_, ?_, ?_⟩⟩, (hts _ (List.mem_append_right _ (List.mem_append_left _ (List.mem_of_getElem? (i := 193) rfl)))), (hts _ (List.mem_append_right _ (List.mem_append_left _ (List.mem_of_getElem? (i := 60) rfl))))⟩
  · refine va_Efof (E := "ThreadHouse$Token") (d0 := "LThreadHouse$Token;") (nm := xs_names) (tm := gv_tm) hev (fun i hi => hs _ (gv_3 i hi)) (fun i hi => ?_) hA
    rw [(hsq i hi).1]
    simp only [show ¬ 100 + i = 0 by omega, if_false, show 100 + i < 200 by omega, if_true, Nat.add_sub_cancel_left]
  · have e1 : (if 100 + i = 0 then tk else if 100 + i < 200 then (sq (100 + i - 100)).1 else if 100 + i < 300 then (sq (100 + i - 200)).2 else if 100 + i = 300 then t0 else if 100 + i = 301 then t1 else if 100 + i = 302 then t2 else t3) = (sq i).1 := by
      simp only [show ¬ 100 + i = 0 by omega, if_false, show 100 + i < 200 by omega, if_true, Nat.add_sub_cancel_left]
    have e2 : (if 200 + i = 0 then tk else if 200 + i < 200 then (sq (200 + i - 100)).1 else if 200 + i < 300 then (sq (200 + i - 200)).2 else if 200 + i = 300 then t0 else if 200 + i = 301 then t1 else if 200 + i = 302 then t2 else t3) = (sq i).2 := by
      simp only [show ¬ 200 + i = 0 by omega, if_false, show ¬ 200 + i < 200 by omega, show 200 + i < 300 by omega, if_true, Nat.add_sub_cancel_left]
    simp only [e1, e2]
    exact (hsq i hi).2
  · exact vk_R.of (hts _ (List.mem_append_right _ (List.mem_append_right _ (List.mem_append_right _ (List.mem_append_right _ (List.mem_append_right _ (List.mem_append_left _ (List.mem_of_getElem? (i := 93) rfl)))))))) q0
  · exact vk_R.of (hts _ (List.mem_append_right _ (List.mem_append_right _ (List.mem_append_right _ (List.mem_append_right _ (List.mem_append_right _ (List.mem_append_left _ (List.mem_of_getElem? (i := 127) rfl)))))))) q1
  · exact vk_R.of (hts _ (List.mem_append_right _ (List.mem_append_right _ (List.mem_append_right _ (List.mem_append_right _ (List.mem_append_right _ (List.mem_append_left _ (List.mem_of_getElem? (i := 143) rfl)))))))) q2
  · exact vk_R.of (hts _ (List.mem_append_right _ (List.mem_append_right _ (List.mem_append_right _ (List.mem_append_right _ (List.mem_append_right _ (List.mem_append_left _ (List.mem_of_getElem? (i := 151) rfl)))))))) q3

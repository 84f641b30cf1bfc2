/-! what the law's start gives: texts, the enum -/
theorem gv_str {s : State} {args : Array Value} {A : Nat → Prop} {t : Term} {n : Nat} {f : Nat → Int32} (hn : n < 2 ^ 31) (h1 : (Cond.exactly t "java/lang/String").before args s = true) (h2 : (Cond.eq (.field t "java/lang/String" "coder" "B") (.int 0)).before args s = true) (h3 : (Cond.arrayOf (.field t "java/lang/String" "value" "[B") .byte).before args s = true) (h4 : (Cond.eq (.length (.field t "java/lang/String" "value" "[B")) (.int (Int32.ofNat n))).before args s = true) (h5 : ∀ j, j < n → (Cond.eq (.elem (.field t "java/lang/String" "value" "[B") (.int (Int32.ofNat j))) (.int (f j))).before args s = true) (hA : ∀ a : Nat, a < s.heap.size → ¬ A a) : ∃ a v : Nat, t.eval args s none [] s = some (.ref a) ∧ va_O "java/lang/String" a A s s.heap ∧ va_OF "java/lang/String" "coder" "B" (.int 0) a A s s.heap ∧ va_OF "java/lang/String" "value" "[B" (.ref v) a A s s.heap ∧ va_T .byte v n (fun j => .int (f j)) A s s.heap := by
  obtain ⟨a, c, cell, k, q1, -⟩ := Cond.exactly_spec h1
  obtain ⟨v, hv, hT⟩ := va_Tof (f := fun j => .int (f j)) hn h3 (va_eqv h4 rfl) (fun j hj => va_eqv (h5 j hj) rfl) hA
  exact ⟨a, v, q1, va_Oof h1 q1 hA, vk_OFof q1 (va_eqv h2 rfl) hA, vk_OFof q1 hv hA, hT⟩
def gv_fl : List Cond := flatC (Jvm.Cond.and given_1 narrow_1)
def gv_ix : List Nat := [109, 109, 109, 117, 120, 123, 126, 129, 132, 135, 138, 141, 144, 147, 150, 153, 156, 159, 162, 165, 168, 171, 174, 177, 180, 183, 186]
def gv_tm (i : Nat) : Term := .string "ThreadHouse$Token" (gv_ix.getD i 0)
def gv_st (i : Nat) : Term := .static "ThreadHouse$Token" (xs_names.getD i "") "LThreadHouse$Token;"
theorem gv_1 : ∀ i, i < 27 → Cond.exactly (gv_st i) "ThreadHouse$Token" ∈ gv_fl := by decide +kernel
theorem gv_2 : ∀ i, i < 27 → Cond.eq (.field (gv_st i) "java/lang/Enum" "ordinal" "I") (.int (Int32.ofNat i)) ∈ gv_fl := by decide +kernel
theorem gv_3 : ∀ i, i < 27 → Cond.eq (.field (gv_st i) "ThreadHouse$Token" "written" "Ljava/lang/String;") (gv_tm i) ∈ gv_fl := by decide +kernel
theorem gv_4 : ∀ i, i < 27 → Cond.exactly (gv_tm i) "java/lang/String" ∈ gv_fl ∧ Cond.eq (.field (gv_tm i) "java/lang/String" "coder" "B") (.int 0) ∈ gv_fl ∧ Cond.arrayOf (.field (gv_tm i) "java/lang/String" "value" "[B") .byte ∈ gv_fl ∧ Cond.eq (.length (.field (gv_tm i) "java/lang/String" "value" "[B")) (.int (Int32.ofNat (xs_len i))) ∈ gv_fl := by decide +kernel
theorem gv_5 : ∀ i, i < 27 → ∀ j, j < xs_len i → Cond.eq (.elem (.field (gv_tm i) "java/lang/String" "value" "[B") (.int (Int32.ofNat j))) (.int (xs_chr i j)) ∈ gv_fl := by decide +kernel
theorem gv_6 : ∀ i, i < 27 → Cond.eq (.elem (.static "ThreadHouse$Reader" "TOKENS" "[LThreadHouse$Token;") (.int (Int32.ofNat i))) (gv_st i) ∈ gv_fl := by decide +kernel

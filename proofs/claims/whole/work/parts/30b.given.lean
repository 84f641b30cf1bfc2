/-! what the law's start gives: texts, the enum -/
theorem gv_str {s : State} {args : Array Value} {A : Nat → Prop} {t : Term} {n : Nat} {f : Nat → Int32} (hn : n < 2 ^ 31) (h1 : (Cond.exactly t "java/lang/String").before args s = true) (h2 : (Cond.eq (.field t "java/lang/String" "coder" "B") (.int 0)).before args s = true) (h3 : (Cond.arrayOf (.field t "java/lang/String" "value" "[B") .byte).before args s = true) (h4 : (Cond.eq (.length (.field t "java/lang/String" "value" "[B")) (.int (Int32.ofNat n))).before args s = true) (h5 : ∀ j, j < n → (Cond.eq (.elem (.field t "java/lang/String" "value" "[B") (.int (Int32.ofNat j))) (.int (f j))).before args s = true) (hA : ∀ a : Nat, a < s.heap.size → ¬ A a) : ∃ a v : Nat, t.eval args s none [] s = some (.ref a) ∧ va_O "java/lang/String" a A s s.heap ∧ va_OF "java/lang/String" "coder" "B" (.int 0) a A s s.heap ∧ va_OF "java/lang/String" "value" "[B" (.ref v) a A s s.heap ∧ va_T .byte v n (fun j => .int (f j)) A s s.heap := by
  obtain ⟨a, c, cell, k, q1, -⟩ := Cond.exactly_spec h1
  obtain ⟨v, hv, hT⟩ := va_Tof (f := fun j => .int (f j)) hn h3 (va_eqv h4 rfl) (fun j hj => va_eqv (h5 j hj) rfl) hA
  exact ⟨a, v, q1, va_Oof h1 q1 hA, vk_OFof q1 (va_eqv h2 rfl) hA, vk_OFof q1 hv hA, hT⟩
def gv_fl : List Cond := flatC (Jvm.Cond.and given_1 narrow_1)
def gv_ix : List Nat := [109, 109, 109, 117, 120, 123, 126, 129, 132, 135, 138, 141, 144, 147, 150, 153, 156, 159, 162, 165, 168, 171, 174, 177, 180, 183, 186]
def gv_tm (i : Nat) : Term := .string "ThreadHouse$Token" (gv_ix.getD i 0)
def gv_st (i : Nat) : Term := .static "ThreadHouse$Token" (xs_names.getD i "") "LThreadHouse$Token;"
def gv_p1 : List Nat := [4, 44, 47, 53, 83, 101, 104, 107, 110, 50, 56, 74, 59, 77, 62, 65, 68, 71, 119, 116, 113, 80, 86, 89, 92, 95, 98]
def gv_p2 : List Nat := [5, 45, 48, 54, 84, 102, 105, 108, 111, 51, 57, 75, 60, 78, 63, 66, 69, 72, 120, 117, 114, 81, 87, 90, 93, 96, 99]
def gv_p3 : List Nat := [6, 46, 49, 55, 85, 103, 106, 109, 112, 52, 58, 76, 61, 79, 64, 67, 70, 73, 121, 118, 115, 82, 88, 91, 94, 97, 100]
def gv_p4a : List Nat := [260, 260, 260, 272, 350, 393, 398, 403, 408, 264, 277, 329, 286, 335, 295, 303, 311, 320, 426, 420, 413, 343, 355, 363, 370, 379, 387]
def gv_p4b : List Nat := [261, 261, 261, 273, 351, 394, 399, 404, 409, 265, 278, 330, 287, 336, 296, 304, 312, 321, 427, 421, 414, 344, 356, 364, 371, 380, 388]
def gv_p4c : List Nat := [262, 262, 262, 274, 352, 395, 400, 405, 410, 266, 279, 331, 288, 337, 297, 305, 313, 322, 428, 422, 415, 345, 357, 365, 372, 381, 389]
def gv_p4d : List Nat := [263, 263, 263, 275, 353, 396, 401, 406, 411, 267, 280, 332, 289, 338, 298, 306, 314, 323, 429, 423, 416, 346, 358, 366, 373, 382, 390]
def gv_p6 : List Nat := [12, 13, 14, 15, 16, 17, 18, 19, 20, 21, 22, 23, 24, 25, 26, 27, 28, 29, 30, 31, 32, 33, 34, 35, 36, 37, 38]
def gv_p5 : List (List Nat) := [[], [], [], [276], [354], [397], [402], [407], [412], [268, 269, 270, 271], [281, 282, 283, 284, 285], [333, 334], [290, 291, 292, 293, 294], [339, 340, 341, 342], [299, 300, 301, 302], [307, 308, 309, 310], [315, 316, 317, 318, 319], [324, 325, 326, 327, 328], [430, 431, 432], [424, 425], [417, 418, 419], [347, 348, 349], [359, 360, 361, 362], [367, 368, 369], [374, 375, 376, 377, 378], [383, 384, 385, 386], [391, 392]]
theorem gv_at {k : Nat} {c : Cond} (h : gv_fl[k]? = some c) : c ∈ gv_fl := List.mem_of_getElem? h
theorem gv_1q : ∀ i, i < 27 → gv_fl[gv_p1.getD i 0]? = some (Cond.exactly (gv_st i) "ThreadHouse$Token") := by decide +kernel
theorem gv_2q : ∀ i, i < 27 → gv_fl[gv_p2.getD i 0]? = some (Cond.eq (.field (gv_st i) "java/lang/Enum" "ordinal" "I") (.int (Int32.ofNat i))) := by decide +kernel
theorem gv_3q : ∀ i, i < 27 → gv_fl[gv_p3.getD i 0]? = some (Cond.eq (.field (gv_st i) "ThreadHouse$Token" "written" "Ljava/lang/String;") (gv_tm i)) := by decide +kernel
theorem gv_4aq : ∀ i, i < 27 → gv_fl[gv_p4a.getD i 0]? = some (Cond.exactly (gv_tm i) "java/lang/String") := by decide +kernel
theorem gv_4bq : ∀ i, i < 27 → gv_fl[gv_p4b.getD i 0]? = some (Cond.eq (.field (gv_tm i) "java/lang/String" "coder" "B") (.int 0)) := by decide +kernel
theorem gv_4cq : ∀ i, i < 27 → gv_fl[gv_p4c.getD i 0]? = some (Cond.arrayOf (.field (gv_tm i) "java/lang/String" "value" "[B") .byte) := by decide +kernel
theorem gv_4dq : ∀ i, i < 27 → gv_fl[gv_p4d.getD i 0]? = some (Cond.eq (.length (.field (gv_tm i) "java/lang/String" "value" "[B")) (.int (Int32.ofNat (xs_len i)))) := by decide +kernel
theorem gv_6q : ∀ i, i < 27 → gv_fl[gv_p6.getD i 0]? = some (Cond.eq (.elem (.static "ThreadHouse$Reader" "TOKENS" "[LThreadHouse$Token;") (.int (Int32.ofNat i))) (gv_st i)) := by decide +kernel
theorem gv_5q : ∀ i, i < 27 → ∀ j, j < xs_len i → gv_fl[(gv_p5.getD i []).getD j 0]? = some (Cond.eq (.elem (.field (gv_tm i) "java/lang/String" "value" "[B") (.int (Int32.ofNat j))) (.int (xs_chr i j))) := by decide +kernel
theorem gv_1 : ∀ i, i < 27 → Cond.exactly (gv_st i) "ThreadHouse$Token" ∈ gv_fl := fun i hi => gv_at (gv_1q i hi)
theorem gv_2 : ∀ i, i < 27 → Cond.eq (.field (gv_st i) "java/lang/Enum" "ordinal" "I") (.int (Int32.ofNat i)) ∈ gv_fl := fun i hi => gv_at (gv_2q i hi)
theorem gv_3 : ∀ i, i < 27 → Cond.eq (.field (gv_st i) "ThreadHouse$Token" "written" "Ljava/lang/String;") (gv_tm i) ∈ gv_fl := fun i hi => gv_at (gv_3q i hi)
theorem gv_6 : ∀ i, i < 27 → Cond.eq (.elem (.static "ThreadHouse$Reader" "TOKENS" "[LThreadHouse$Token;") (.int (Int32.ofNat i))) (gv_st i) ∈ gv_fl := fun i hi => gv_at (gv_6q i hi)
theorem gv_4 : ∀ i, i < 27 → Cond.exactly (gv_tm i) "java/lang/String" ∈ gv_fl ∧ Cond.eq (.field (gv_tm i) "java/lang/String" "coder" "B") (.int 0) ∈ gv_fl ∧ Cond.arrayOf (.field (gv_tm i) "java/lang/String" "value" "[B") .byte ∈ gv_fl ∧ Cond.eq (.length (.field (gv_tm i) "java/lang/String" "value" "[B")) (.int (Int32.ofNat (xs_len i))) ∈ gv_fl := fun i hi => ⟨gv_at (gv_4aq i hi), gv_at (gv_4bq i hi), gv_at (gv_4cq i hi), gv_at (gv_4dq i hi)⟩
theorem gv_5 : ∀ i, i < 27 → ∀ j, j < xs_len i → Cond.eq (.elem (.field (gv_tm i) "java/lang/String" "value" "[B") (.int (Int32.ofNat j))) (.int (xs_chr i j)) ∈ gv_fl := fun i hi j hj => gv_at (gv_5q i hi j hj)

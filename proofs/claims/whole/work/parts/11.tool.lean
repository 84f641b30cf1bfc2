/-! numbers: Int32 through Int -/
theorem ti_eq {a b : Int32} : a = b ↔ a.toInt = b.toInt := ⟨fun h => by rw [h], Int32.toInt_inj.mp⟩
theorem ti_lt {a b : Int32} : a < b ↔ a.toInt < b.toInt := Int32.lt_iff_toInt_lt
theorem ti_le {a b : Int32} : a ≤ b ↔ a.toInt ≤ b.toInt := Int32.le_iff_toInt_le
theorem ti_r (a : Int32) : -2147483648 ≤ a.toInt ∧ a.toInt ≤ 2147483647 := by
  have h1 := Int32.le_toInt a
  have h2 := Int32.toInt_lt a
  omega
theorem ti_bm {z : Int} (h1 : -2147483648 ≤ z) (h2 : z ≤ 2147483647) : z.bmod (2 ^ 32) = z := by
  rw [Int.bmod_eq_of_le] <;> omega
theorem ti_add {a b : Int32} (h1 : -2147483648 ≤ a.toInt + b.toInt) (h2 : a.toInt + b.toInt ≤ 2147483647) : (a + b).toInt = a.toInt + b.toInt := by
  rw [Int32.toInt_add]; exact ti_bm h1 h2
theorem ti_sub {a b : Int32} (h1 : -2147483648 ≤ a.toInt - b.toInt) (h2 : a.toInt - b.toInt ≤ 2147483647) : (a - b).toInt = a.toInt - b.toInt := by
  rw [Int32.toInt_sub]; exact ti_bm h1 h2
theorem ti_mul {a b : Int32} (h1 : -2147483648 ≤ a.toInt * b.toInt) (h2 : a.toInt * b.toInt ≤ 2147483647) : (a * b).toInt = a.toInt * b.toInt := by
  rw [Int32.toInt_mul]; exact ti_bm h1 h2
theorem ti_neg {a : Int32} (h : -2147483648 < a.toInt) : (-a).toInt = -a.toInt := by
  rw [Int32.toInt_neg]; exact ti_bm (by have := ti_r a; omega) (by omega)
theorem ti_nI {n : Nat} (h : n < 2147483648) : (nI n).toInt = n := nI_toInt (by omega)
theorem ti_of {a : Int32} {n : Nat} (h : a.toInt = n) : a = nI n := by
  have hr := ti_r a
  rw [ti_eq, ti_nI (by omega)]; exact h
theorem ti_cl {a : Int32} (h : 0 ≤ a.toInt) : (a.toNatClampNeg : Int) = a.toInt := by
  have hr := ti_r a
  obtain ⟨n, hn⟩ := Int.eq_ofNat_of_zero_le h
  have e := ti_of hn
  rw [e, nI_clamp (by omega), ti_nI (by omega)]
theorem ti_in {a : Int32} {n : Nat} (h1 : 0 ≤ a.toInt) (h2 : a.toInt < n) : vp_in a n := by
  rw [vp_in_iff]; exact ⟨h1, h2⟩
theorem ti_nt {a : Int32} {j : Nat} (h : a.toInt = j) : a.toNatClampNeg = j := by
  have := ti_cl (a := a) (by omega); omega
theorem tt_0 : (0 : Int32).toInt = 0 := by decide
theorem tt_1 : (1 : Int32).toInt = 1 := by decide
/-- the reference's small questions -/
theorem mx_isIn {a b c : Int32} {u : th_St} {K : Int32 → th_St → Prop} (h : K (if b.toInt ≤ a.toInt ∧ a.toInt ≤ c.toInt then 1 else 0) u) : M_isIn a b c u K := by
  unfold M_isIn M_isIn_14 M_isIn_15
  simp only [ti_lt]
  by_cases h1 : b.toInt ≤ a.toInt
  · by_cases h2 : a.toInt ≤ c.toInt
    · rw [if_pos ⟨h1, h2⟩] at h
      refine ⟨fun h3 => absurd h3 (by omega), fun _ => ⟨fun h3 => absurd h3 (by omega), fun _ => ⟨by decide, h⟩⟩⟩
    · rw [if_neg (fun q => h2 q.2)] at h
      refine ⟨fun h3 => absurd h3 (by omega), fun _ => ⟨fun _ => ⟨by decide, h⟩, fun h3 => absurd h3 (by omega)⟩⟩
  · rw [if_neg (fun q => h1 q.1)] at h
    exact ⟨fun _ => ⟨by decide, h⟩, fun h3 => absurd h3 (by omega)⟩
theorem mx_plain {a : Int32} {u : th_St} {K : Int32 → th_St → Prop} (h : ∀ r : Int32, (0 ≤ a.toInt → r = a) → (a.toInt < 0 → r = -a) → K r u) : M_plain a u K := by
  unfold M_plain M_plain_10
  simp only [ti_le, tt_0]
  exact ⟨fun h1 => h a (fun _ => rfl) (fun h2 => absurd h1 (by omega)), fun h1 => h (-a) (fun h2 => absurd h2 h1) (fun _ => rfl)⟩
/-- the tape -/
def s_byte (b : Int32) : Prop := -128 ≤ b.toInt ∧ b.toInt ≤ 127
def sTape (x : xs_St) (m : th_St) : Prop := ∃ n : Nat, n ≤ 440 ∧ xi x 101 = nI n ∧ m.1 2 = nI n ∧ ∀ i, i < n → xa x 100 i = m.2.2.1 1 i ∧ s_byte (xa x 100 i)
def sDay (x : xs_St) (m : th_St) : Prop := ∃ d : Nat, d ≤ 999 ∧ xi x 12 = nI d ∧ m.1 5 = nI d
theorem sx_end {x : xs_St} {m : th_St} (h : sTape x m) {a : Int32} {K : Int32 → xs_St → Int32 → th_St → Prop} (k0 : K 0 x 0 (th_si m 0 0)) (k1 : sTape (xs_si x 101 a) (th_si (th_si m 0 0) 2 a) → K 1 (xs_si x 101 a) 1 (th_si (th_si m 0 0) 2 a)) : X_TH_end a x (fun r x' => M_end a m (fun r' m' => K r x' r' m')) := by
  obtain ⟨n, hn, h1, h2, h3⟩ := h
  have e2 : (th_si m 0 0).1 2 = nI n := h2
  unfold X_TH_end X_TH_end_15 M_end M_end_17
  simp only [forall_eq, h1, e2, ti_lt, ti_le, tt_0, ti_nI (show n < 2147483648 by omega)]
  by_cases ha : a.toInt < 0
  · refine ⟨fun _ => ⟨by decide, fun _ => ⟨by decide, k0⟩, fun q => absurd ha q⟩, fun q => absurd ha q⟩
  · refine ⟨fun q => absurd q ha, fun _ => ⟨fun hle => ⟨by decide, fun q => absurd q ha, fun _ => ⟨fun _ => ⟨by decide, ?_⟩, fun q => absurd hle q⟩⟩, fun hle => ⟨by decide, fun q => absurd q ha, fun _ => ⟨fun q => absurd q hle, fun _ => ⟨by decide, k0⟩⟩⟩⟩⟩
    obtain ⟨j, hj⟩ := Int.eq_ofNat_of_zero_le (Int.not_lt.mp ha)
    have ej := ti_of hj
    refine k1 ⟨j, by omega, ej, ej, fun i hi => h3 i (by omega)⟩
theorem sx_next {x : xs_St} {m : th_St} (h : sDay x m) {a : Int32} {K : Int32 → xs_St → Int32 → th_St → Prop} (k0 : K (-1) x (-1) (th_si m 0 0)) (k1 : ∀ d : Int32, sDay (xs_si x 12 d) (th_si (th_si m 0 0) 5 d) → K d (xs_si x 12 d) d (th_si (th_si m 0 0) 5 d)) : X_TH_next a x (fun r x' => M_next a m (fun r' m' => K r x' r' m')) := by
  obtain ⟨d, hd, h1, h2⟩ := h
  have e2 : (th_si m 0 0).1 5 = nI d := h2
  have hr := ti_r a
  have hD : (nI d).toInt = d := ti_nI (by omega)
  have c9 : (999 : Int32).toInt = 999 := by decide
  have es : ((999 : Int32) - nI d).toInt = 999 - d := by rw [ti_sub] <;> rw [c9, hD] <;> omega
  unfold X_TH_next X_TH_next_16 M_next M_next_28
  simp only [forall_eq, h1, ti_lt, ti_le, tt_0, es]
  by_cases ha : a.toInt < 0
  · refine ⟨fun _ => mx_isIn ?_, fun q => absurd ha q⟩
    rw [if_neg (by rw [tt_0]; omega)]
    exact ⟨fun _ => k0, fun q => absurd rfl q⟩
  · refine ⟨fun q => absurd q ha, fun _ => ⟨fun hle => mx_isIn ?_, fun hle => mx_isIn ?_⟩⟩
    · rw [if_pos (by rw [tt_0, c9]; omega)]
      have ea : (nI d + a).toInt = d + a.toInt := by rw [ti_add] <;> rw [hD] <;> omega
      obtain ⟨j, hj⟩ := Int.eq_ofNat_of_zero_le (show 0 ≤ (nI d + a).toInt by omega)
      refine ⟨fun q => absurd q (by decide), fun _ => ⟨fun _ => ?_, fun q => absurd (by rw [e2, ea, c9]; omega) q⟩⟩
      rw [e2]
      exact k1 (nI d + a) ⟨j, by omega, ti_of hj, ti_of hj⟩
    · by_cases h9 : a.toInt ≤ 999
      · rw [if_pos (by rw [tt_0, c9]; omega)]
        have ea : (nI d + a).toInt = d + a.toInt := by rw [ti_add] <;> rw [hD] <;> omega
        exact ⟨fun q => absurd q (by decide), fun _ => ⟨fun q => absurd q (by rw [e2, ea, c9]; omega), fun _ => k0⟩⟩
      · rw [if_neg (by rw [tt_0, c9]; omega)]
        exact ⟨fun _ => k0, fun q => absurd rfl q⟩

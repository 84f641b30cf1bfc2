/-! text: bytes, runs, words; the class cuts a text into tokens -/
def bX (x : xs_St) (L : Nat) (b : Nat → Nat) : Prop := L ≤ 440 ∧ xi x 101 = nI L ∧ ∀ i, i < L → (xa x 100 i &&& (255 : Int32)) = nI (b i) ∧ b i < 256
def bM (u : th_St) (L : Nat) (b : Nat → Nat) : Prop := L ≤ 440 ∧ u.1 3 = nI L ∧ ∀ i, i < L → (u.2.2.1 1 i &&& (255 : Int32)) = nI (b i) ∧ b i < 256
theorem b_of {x : xs_St} {m : th_St} (h : sTape x m) : ∃ (L : Nat) (b : Nat → Nat), bX x L b ∧ m.1 2 = nI L ∧ ∀ i, i < L → (m.2.2.1 1 i &&& (255 : Int32)) = nI (b i) ∧ b i < 256 := by
  obtain ⟨L, B, hL, h1, h2, hX, hM⟩ := tB_of h
  have e : ∀ i, iI (B i % 256) = nI (B i % 256).toNat := fun i => by
    rw [← ii_nat, Int.toNat_of_nonneg (by omega)]
  refine ⟨L, fun i => (B i % 256).toNat, ⟨hL, h1, fun i hi => ⟨?_, by show (B i % 256).toNat < 256; omega⟩⟩, h2, fun i hi => ⟨?_, by show (B i % 256).toNat < 256; omega⟩⟩
  · rw [hX.2 i hi, tB_u (hX.1 i).1 (hX.1 i).2]; exact e i
  · rw [hM.2 i hi, tB_u (hM.1 i).1 (hM.1 i).2]; exact e i
theorem sx_b {x : xs_St} {L j : Nat} {b : Nat → Nat} {K : Int32 → xs_St → Prop} (hb : bX x L b) (hj : j < L) (h : K (nI (b j)) x) : X_TP_unsigned (nI j) x K := sx_usg hb.1 hb.2.1 hj (by rw [(hb.2.2 j hj).1]; exact h)
theorem mx_pk {u : th_St} {L p : Nat} {b : Nat → Nat} {K : Int32 → th_St → Prop} (hb : bM u L b) (h4 : u.1 4 = nI p) (hp : p ≤ 1000) (h0 : ¬ p < L → K (-1) u) (h1 : p < L → K (nI (b p)) u) : M_peek u K := by
  have hL := hb.1
  unfold M_peek M_peek_28
  rw [hb.2.1, h4, ni_le (by omega) (by omega)]
  refine br1 (fun q => h0 (by omega)) (fun q => ⟨vp_in_nI (by omega) (by omega), fun y e => ?_⟩)
  rw [ni_cl (by omega)] at e
  rw [e, (hb.2.2 p (by omega)).1]; exact h1 (by omega)
def ldc (c : Nat) : Prop := (97 ≤ c ∧ c ≤ 122) ∨ (48 ≤ c ∧ c ≤ 57)
def whc (c : Nat) : Prop := c = 32 ∨ c = 10
/-- a run from p to e -/
def isRun (b : Nat → Nat) (L p e : Nat) : Prop := p ≤ e ∧ e ≤ L ∧ (∀ i, p ≤ i → i < e → ldc (b i)) ∧ (e < L → ¬ ldc (b e))
theorem isRun_u {b : Nat → Nat} {L p e f : Nat} (h : isRun b L p e) (h2 : isRun b L p f) : e = f := by
  rcases Nat.lt_trichotomy e f with q | q | q
  · exact absurd (h2.2.2.1 e h.1 q) (h.2.2.2 (by have := h2.2.1; omega))
  · exact q
  · exact absurd (h.2.2.1 f h2.1 q) (h2.2.2.2 (by have := h.2.1; omega))
theorem sx_isD {x : xs_St} {c : Nat} {K : Int32 → xs_St → Prop} (hc : c < 1000) (h1 : 48 ≤ c ∧ c ≤ 57 → K 1 x) (h0 : ¬ (48 ≤ c ∧ c ≤ 57) → K 0 x) : X_RD_isDigit (nI c) x K := by
  unfold X_RD_isDigit X_RD_isDigit_16 X_RD_isDigit_17
  have c1 : (nI c < (48 : Int32)) = (c < 48) := ni_lt (b := 48) (by omega) (by omega)
  have c2 : ((57 : Int32) < nI c) = (57 < c) := ni_lt (a := 57) (by omega) (by omega)
  rw [c1, c2]
  exact br1 (fun q => ⟨n010, h0 (by omega)⟩) (fun q => br1 (fun q2 => ⟨n010, h0 (by omega)⟩) (fun q2 => ⟨n011, h1 (by omega)⟩))
theorem sx_run {x : xs_St} {L p : Nat} {b : Nat → Nat} {K : Int32 → xs_St → Prop} (hb : bX x L b) (hp : p < L) (h : ∀ e, isRun b L p e → K (nI (max e (p + 1))) x) : X_RD_behindRun (nI p) x K := by
  have hL := hb.1
  unfold X_RD_behindRun
  refine lqe3 (F := X_RD_behindRun_2_lp K) (G := X_RD_behindRun_2 K) (fun _ _ _ _ => rfl) (fun d a1 a2 u => a1 = nI p ∧ u = x ∧ ∃ i, a2 = nI i ∧ i + d = L ∧ p ≤ i ∧ ∀ j, p ≤ j → j < i → ldc (b j)) ?_ (L - p) _ _ _ ⟨rfl, rfl, p, rfl, by omega, Nat.le_refl _, fun j h1 h2 => by omega⟩
  rintro kk d a1 a2 u ⟨rfl, rfl, i, rfl, hid, hpi, hall⟩ ih
  have fin : (i < L → ¬ ldc (b i)) → X_RD_behindRun_47 K (nI p) (nI i) u := by
    intro hno
    unfold X_RD_behindRun_47
    have := h i ⟨hpi, by omega, hall, hno⟩
    rw [show nI p + (1 : Int32) = nI (p + 1) from nI_1 p]
    have c : (nI i < nI (p + 1)) = (i < p + 1) := ni_lt (by omega) (by omega)
    by_cases q : i < p + 1
    · rw [if_pos (by rw [c]; exact q)]
      rw [show max i (p + 1) = p + 1 by omega] at this; exact this
    · rw [if_neg (by rw [c]; exact q)]
      rw [show max i (p + 1) = i by omega] at this; exact this
  have go : i < L → ldc (b i) → X_RD_behindRun_41 K kk (nI p) (nI i) u := by
    intro hi hl
    unfold X_RD_behindRun_41
    intro x2 e2
    subst e2
    refine ih (d - 1) _ _ _ (by omega) ⟨rfl, rfl, i + 1, nI_1 i, by omega, by omega, fun j h1 h2 => ?_⟩
    by_cases q : j = i
    · subst q; exact hl
    · exact hall j h1 (by omega)
  unfold X_RD_behindRun_2
  rw [hb.2.1, ni_le (by omega) (by omega)]
  refine br1 (fun q => fin (fun q2 => by omega)) (fun q => ?_)
  have hi : i < L := by omega
  have hbi := (hb.2.2 i hi).2
  have c1 : (nI (b i) < (97 : Int32)) = (b i < 97) := ni_lt (b := 97) (by omega) (by omega)
  have c2 : ((122 : Int32) < nI (b i)) = (122 < b i) := ni_lt (a := 122) (by omega) (by omega)
  refine sx_b hb hi ?_
  refine sx_isD (by omega) (fun q2 => ⟨fun _ => go hi (Or.inr q2), fun g => absurd g (by decide)⟩) (fun q2 => ⟨fun g => absurd rfl g, fun _ => ?_⟩)
  refine sx_b hb hi ?_
  rw [c1]
  refine br1 (fun q3 => fin (fun _ => by unfold ldc; omega)) (fun q3 => ?_)
  refine sx_b hb hi ?_
  rw [c2]
  exact br1 (fun q4 => fin (fun _ => by unfold ldc; omega)) (fun q4 => go hi (by unfold ldc; omega))
/-- the words as numbers -/
def txN (t : Nat) : List Nat := ([[], [], [], [59], [40], [41], [60], [61], [62], [102, 101, 101, 116], [102, 105, 120, 101, 100], [116, 111], [104, 111, 108, 100, 115], [102, 114, 111, 109], [112, 117, 108, 108], [104, 101, 97, 116], [110, 111, 105, 115, 101], [97, 108, 97, 114, 109], [102, 111, 114], [111, 114], [97, 110, 100], [110, 111, 116], [112, 101, 97, 107], [115, 117, 109], [115, 108, 105, 112, 115], [104, 111, 117, 114], [97, 116]] : List (List Nat)).getD t []
def chN (t j : Nat) : Nat := (txN t).getD j 0
def lnN (t : Nat) : Nat := (txN t).length
theorem ln_t : ∀ t : Fin 27, xs_len t.val = lnN t.val ∧ lnN t.val ≤ 5 := by decide
theorem ch_t : ∀ t : Fin 27, ∀ j : Fin 5, xs_chr t.val j.val = nI (chN t.val j.val) ∧ (((nI (chN t.val j.val) &&& (255 : Int32))).toUInt32 % 65536).toInt32 = nI (chN t.val j.val) ∧ (nI (chN t.val j.val)).toUInt32.toUInt16.toUInt32.toInt32 = nI (chN t.val j.val) ∧ chN t.val j.val < 128 := by decide
def wrP (b : Nat → Nat) (p e t : Nat) : Prop := lnN t = e - p ∧ ∀ j, j < lnN t → b (p + j) = chN t j
theorem sx_len {x : xs_St} {t : Nat} {K : Int32 → xs_St → Prop} (ht : t < 27) (h : K (nI (lnN t)) x) : X_S0_length_8abf5_s t x K := by
  unfold X_S0_length_8abf5_s X_S0_coder_7d493_s X_S0_coder_7d493_s_14
  refine ⟨ht, ht, ht, fun g => absurd g (by decide), fun _ => ⟨ht, rfl, ?_⟩⟩
  rw [(ln_t ⟨t, ht⟩).1]
  have h5 := (ln_t ⟨t, ht⟩).2
  have h5 : lnN t ≤ 5 := h5
  have e : ∀ k : Fin 6, nI k.val >>> ((0 : Int32) &&& 31) = nI k.val := by decide
  have e0 : nI (lnN t) >>> ((0 : Int32) &&& 31) = nI (lnN t) := e ⟨lnN t, by omega⟩
  show K (nI (lnN t) >>> ((0 : Int32) &&& 31)) x
  rw [e0]; exact h
theorem sx_chr {x : xs_St} {t j : Nat} {K : Int32 → xs_St → Prop} (ht : t < 27) (hj : j < lnN t) (h : K (nI (chN t j)) x) : X_S0_charAt_5068e_s t (nI j) x K := by
  have h5 : lnN t ≤ 5 := (ln_t ⟨t, ht⟩).2
  have hx : xs_len t = lnN t := (ln_t ⟨t, ht⟩).1
  obtain ⟨c1, c2, c3, c4⟩ := ch_t ⟨t, ht⟩ ⟨j, by omega⟩
  have c1 : xs_chr t j = nI (chN t j) := c1
  have c2 : (((nI (chN t j) &&& (255 : Int32))).toUInt32 % 65536).toInt32 = nI (chN t j) := c2
  have c3 : (nI (chN t j)).toUInt32.toUInt16.toUInt32.toInt32 = nI (chN t j) := c3
  have c3' : narrow .char (.int (nI (chN t j))) = .int (nI (chN t j)) := congrArg Value.int c3
  unfold X_S0_charAt_5068e_s X_S0_isLatin1_aae02_s X_S0_isLatin1_aae02_s_18
  refine ⟨ht, fun g => absurd g (by decide), fun _ => ⟨ht, fun g => absurd rfl g, fun _ => ⟨n011, fun g => absurd g (by decide), fun _ => ⟨ht, ?_⟩⟩⟩⟩
  unfold X_S1_charAt_3b067 X_S0_checkIndex_df160 X_S3_checkIndex_8e157
  refine ⟨ht, fun r => ?_⟩
  have d1 : (nI j < (0 : Int32)) = (j < 0) := ni_lt (b := 0) (by omega) (by omega)
  rw [d1, hx, ni_lt (by omega) (by omega)]
  refine ⟨fun g => by omega, fun _ => ⟨fun _ => ⟨ht, vp_in_nI (by omega) (by omega), fun y e => ?_⟩, fun g => absurd hj g⟩⟩
  rw [ni_cl (by omega), c1] at e
  subst e
  rw [c2]
  exact ⟨c3', c3', h⟩
theorem sx_wrt {x : xs_St} {L p e t : Nat} {b : Nat → Nat} {K : Int32 → xs_St → Prop} (hb : bX x L b) (hpe : p ≤ e) (he : e ≤ L) (ht : t < 27) (h1 : wrP b p e t → K 1 x) (h0 : ¬ wrP b p e t → K 0 x) : X_RD_isWritten t (nI p) (nI e) x K := by
  have hL := hb.1
  have h5 : lnN t ≤ 5 := (ln_t ⟨t, ht⟩).2
  unfold X_RD_isWritten
  refine ⟨ht, ?_⟩
  refine sx_len ht ?_
  rw [pk_sub hpe, ni_eq (by omega) (by omega)]
  refine br1 (fun q => ?_) (fun q => ⟨n010, h0 (fun g => q g.1)⟩)
  refine lqe4 (F := X_RD_isWritten_15_lp K) (G := X_RD_isWritten_15 K) (fun _ _ _ _ _ => rfl) (fun d a1 a2 a3 u => a1 = t ∧ a2 = nI p ∧ u = x ∧ ∃ j, a3 = nI j ∧ j + d = lnN t ∧ ∀ i, i < j → b (p + i) = chN t i) ?_ (lnN t) _ _ _ _ ⟨rfl, rfl, rfl, 0, rfl, by omega, fun i h => by omega⟩
  rintro kk d a1 a2 a3 u ⟨rfl, rfl, rfl, j, rfl, hjd, hall⟩ ih
  unfold X_RD_isWritten_15
  refine ⟨ht, ?_⟩
  refine sx_len ht ?_
  rw [ni_le (by omega) (by omega)]
  refine br1 (fun q2 => ⟨n011, h1 ⟨q, fun i hi => hall i (by omega)⟩⟩) (fun q2 => ?_)
  rw [nI_add]
  refine sx_b hb (show p + j < L by omega) ?_
  refine ⟨ht, ?_⟩
  refine sx_chr ht (by omega) ?_
  have hbj := (hb.2.2 (p + j) (by omega)).2
  have hcj : chN a1 j < 128 := (ch_t ⟨a1, ht⟩ ⟨j, by omega⟩).2.2.2
  rw [ni_eq (by omega) (by omega)]
  refine br1 (fun q3 x4 e4 => ?_) (fun q3 => ⟨n010, h0 (fun g => q3 (g.2 j (by omega)))⟩)
  subst e4
  refine ih (d - 1) _ _ _ _ (by omega) ⟨rfl, rfl, rfl, j + 1, nI_1 j, by omega, fun i hi => ?_⟩
  by_cases e : i = j
  · subst e; exact q3
  · exact hall i (by omega)
/-- the kind of what stands from p to e -/
def isKd (b : Nat → Nat) (p e k : Nat) : Prop := (3 ≤ k ∧ k < 27 ∧ wrP b p e k) ∨ ((∀ t, 3 ≤ t → t < 27 → ¬ wrP b p e t) ∧ (((∀ i, p ≤ i → i < e → 48 ≤ b i ∧ b i ≤ 57) ∧ e - p ≤ 4 ∧ k = 2) ∨ (¬ ((∀ i, p ≤ i → i < e → 48 ≤ b i ∧ b i ≤ 57) ∧ e - p ≤ 4) ∧ k = 1)))
theorem sx_tokenOf {x : xs_St} {L p e : Nat} {b : Nat → Nat} {K : Option Nat → xs_St → Prop} (hb : bX x L b) (hpe : p < e) (he : e ≤ L) (h : ∀ k, isKd b p e k → k < 27 → K (some k) x) : X_RD_tokenOf (nI p) (nI e) x K := by
  have hL := hb.1
  have l0 : ∀ t : Fin 3, lnN t.val = 0 := by decide
  unfold X_RD_tokenOf
  refine lqe4 (F := X_RD_tokenOf_2_lp K) (G := X_RD_tokenOf_2 K) (fun _ _ _ _ _ => rfl) (fun d a1 a2 a3 u => a1 = nI p ∧ a2 = nI e ∧ u = x ∧ ∃ t, a3 = nI t ∧ t + d = 27 ∧ ∀ t', t' < t → ¬ wrP b p e t') ?_ 27 _ _ _ _ ⟨rfl, rfl, rfl, 0, rfl, by omega, fun t' h => by omega⟩
  rintro kk d a1 a2 a3 u ⟨rfl, rfl, rfl, t, rfl, htd, hno⟩ ih
  unfold X_RD_tokenOf_2
  have c1 : ((27 : Int32) ≤ nI t) = (27 ≤ t) := ni_le (a := 27) (by omega) (by omega)
  rw [c1]
  refine br1 (fun q => ?_) (fun q => ?_)
  · have hno' : ∀ t, 3 ≤ t → t < 27 → ¬ wrP b p e t := fun t' _ h2 => hno t' (by omega)
    refine lqe4 (F := X_RD_tokenOf_41_lp K) (G := X_RD_tokenOf_41 K) (fun _ _ _ _ _ => rfl) (fun d a1 a2 a3 v => a1 = nI p ∧ a2 = nI e ∧ v = u ∧ ∃ i, a3 = nI i ∧ p ≤ i ∧ i + d = e ∧ ∀ j, p ≤ j → j < i → 48 ≤ b j ∧ b j ≤ 57) ?_ (e - p) _ _ _ _ ⟨rfl, rfl, rfl, p, rfl, Nat.le_refl _, by omega, fun j h1 h2 => by omega⟩
    rintro kk2 d2 a1 a2 a3 v ⟨rfl, rfl, rfl, i, rfl, hpi, hid, hall⟩ ih2
    unfold X_RD_tokenOf_41 X_RD_tokenOf_83
    have c2 : ((4 : Int32) < nI (e - p)) = (4 < e - p) := ni_lt (a := 4) (by omega) (by omega)
    rw [pk_sub (by omega), c2, ni_le (by omega) (by omega)]
    refine br1 (fun q2 => ?_) (fun q2 => ?_)
    · refine br1 (fun q3 => h 1 (Or.inr ⟨hno', Or.inr ⟨fun g => by omega, rfl⟩⟩) (by omega)) (fun q3 => h 2 (Or.inr ⟨hno', Or.inl ⟨fun j h1 h2 => hall j h1 (by omega), by omega, rfl⟩⟩) (by omega))
    · refine sx_b hb (show i < L by omega) ?_
      have hbi := (hb.2.2 i (by omega)).2
      refine sx_isD (by omega) (fun q3 => ⟨fun _ x3 e3 => ?_, fun g => absurd g (by decide)⟩) (fun q3 => ⟨fun g => absurd rfl g, fun _ => h 1 (Or.inr ⟨hno', Or.inr ⟨fun g => q3 (g.1 i hpi (by omega)), rfl⟩⟩) (by omega)⟩)
      subst e3
      refine ih2 (d2 - 1) _ _ _ _ (by omega) ⟨rfl, rfl, rfl, i + 1, nI_1 i, by omega, by omega, fun j h1 h2 => ?_⟩
      by_cases ej : j = i
      · subst ej; exact q3
      · exact hall j h1 (by omega)
  · rw [ni_cl (by omega)]
    refine ⟨vp_in_nI (by omega) (by omega), by omega, ?_⟩
    refine sx_wrt hb (by omega) he (by omega) (fun q2 => ⟨fun g => absurd g (by decide), fun _ => ⟨vp_in_nI (by omega) (by omega), ?_⟩⟩) (fun q2 => ⟨fun _ x3 e3 => ?_, fun g => absurd rfl g⟩)
    · refine h t (Or.inl ⟨?_, by omega, q2⟩) (by omega)
      rcases Nat.lt_or_ge t 3 with g | g
      · have := l0 ⟨t, g⟩
        have : lnN t = 0 := this
        have := q2.1
        omega
      · exact g
    · subst e3
      refine ih (d - 1) _ _ _ _ (by omega) ⟨rfl, rfl, rfl, t + 1, nI_1 t, by omega, fun t' ht' => ?_⟩
      by_cases et : t' = t
      · subst et; exact q2
      · exact hno t' (by omega)
def nmZ (b : Nat → Nat) (p : Nat) : Nat → Int
  | 0 => 0
  | i + 1 => 10 * nmZ b p i + b (p + i) - 48
theorem sx_numberOf {x : xs_St} {L p e : Nat} {b : Nat → Nat} {K : Int32 → xs_St → Prop} (hb : bX x L b) (hpe : p < e) (he : e ≤ L) (h : K (iI (nmZ b p (min (e - p) 4))) x) : X_RD_numberOf (nI p) (nI e) x K := by
  have hL := hb.1
  unfold X_RD_numberOf
  refine lqe5 (F := X_RD_numberOf_5_lp K) (G := X_RD_numberOf_5 K) (fun _ _ _ _ _ _ => rfl) (fun d a1 a2 a3 a4 u => a1 = nI p ∧ a2 = nI e ∧ u = x ∧ ∃ i, a4 = nI (p + i) ∧ a3 = iI (nmZ b p i) ∧ i + d = min (e - p) 4) ?_ (min (e - p) 4) _ _ _ _ _ ⟨rfl, rfl, rfl, 0, rfl, rfl, by omega⟩
  rintro kk d a1 a2 a3 a4 u ⟨rfl, rfl, rfl, i, rfl, rfl, hid⟩ ih
  unfold X_RD_numberOf_5 X_RD_numberOf_40
  rw [show nI p + (4 : Int32) = nI (p + 4) from nI_add p 4, ni_le (by omega) (by omega), ni_le (by omega) (by omega)]
  refine br1 (fun q => ?_) (fun q => br1 (fun q2 => ?_) (fun q2 => ?_))
  · rw [show i = min (e - p) 4 by omega]; exact h
  · rw [show i = min (e - p) 4 by omega]; exact h
  · refine sx_b hb (show p + i < L by omega) ?_
    intro y3 e3 x4 e4
    subst e4
    refine ih (d - 1) _ _ _ _ _ (by omega) ⟨rfl, rfl, rfl, i + 1, nI_1 (p + i), ?_, by omega⟩
    rw [e3, show (10 : Int32) = iI 10 from rfl, ii_mul, ii_addL, show (48 : Int32) = iI 48 from rfl, ii_sub, nmZ, Int.mul_comm]
/-- tokens as they lie there -/
def tkX (x : xs_St) (T : Nat) (KD PL : Nat → Nat) (VL : Nat → Int32) : Prop := xi x 203 = nI T ∧ ∀ k, k < T → xo x 200 k = some (KD k) ∧ xa x 201 k = nI (PL k) ∧ xa x 202 k = VL k ∧ KD k < 27
/-- ... as they stand in the text; PP k: where the search for token k begins -/
def tkB (b : Nat → Nat) (L T : Nat) (KD PL PP : Nat → Nat) (VL : Nat → Int32) : Prop := PP 0 = 0 ∧ ∀ k, k < T → (PP k ≤ L ∧ (∀ i, PP k ≤ i → i < PL k → whc (b i)) ∧ PP k ≤ PL k) ∧ PL k < min L 400 ∧ ¬ whc (b (PL k)) ∧ (∃ e, isRun b L (PL k) e ∧ PP (k + 1) = max e (PL k + 1)) ∧ isKd b (PL k) (PP (k + 1)) (KD k) ∧ VL k = iI (nmZ b (PL k) (min (PP (k + 1) - PL k) 4))
/-- what a text changes of the class -/
def xh (I A O : List Nat) (x y : xs_St) : Prop := (∀ k, k ∉ I → xi y k = xi x k) ∧ (∀ k, k ∉ A → xa y k = xa x k) ∧ (∀ k, xl y k = xl x k) ∧ (∀ k, k ≠ 206 → xr y k = xr x k) ∧ (∀ k, k ∉ O → xo y k = xo x k) ∧ y.2.2.2 = x.2.2.2
theorem xh_r {I A O : List Nat} (x : xs_St) : xh I A O x x := ⟨fun _ _ => rfl, fun _ _ => rfl, fun _ => rfl, fun _ _ => rfl, fun _ _ => rfl, rfl⟩
theorem xh_t {I A O : List Nat} {x y z : xs_St} (h : xh I A O x y) (h2 : xh I A O y z) : xh I A O x z := ⟨fun k hk => (h2.1 k hk).trans (h.1 k hk), fun k hk => (h2.2.1 k hk).trans (h.2.1 k hk), fun k => (h2.2.2.1 k).trans (h.2.2.1 k), fun k hk => (h2.2.2.2.1 k hk).trans (h.2.2.2.1 k hk), fun k hk => (h2.2.2.2.2.1 k hk).trans (h.2.2.2.2.1 k hk), h2.2.2.2.2.2.trans h.2.2.2.2.2⟩
theorem xh_w {I A O I' A' O' : List Nat} {x y : xs_St} (h : xh I A O x y) (hI : ∀ k, k ∈ I → k ∈ I') (hA : ∀ k, k ∈ A → k ∈ A') (hO : ∀ k, k ∈ O → k ∈ O') : xh I' A' O' x y := ⟨fun k hk => h.1 k (fun q => hk (hI k q)), fun k hk => h.2.1 k (fun q => hk (hA k q)), h.2.2.1, h.2.2.2.1, fun k hk => h.2.2.2.2.1 k (fun q => hk (hO k q)), h.2.2.2.2.2⟩
theorem xh_i {I A O : List Nat} {x y : xs_St} {k : Nat} {v : Int32} (hk : k ∈ I) (h : xh I A O x y) : xh I A O x (xs_si y k v) := ⟨fun j hj => (xsi_n (fun e => hj (by rw [e]; exact hk))).trans (h.1 j hj), h.2⟩
theorem xh_a {I A O : List Nat} {x y : xs_St} {k : Nat} {v : Nat → Int32} (hk : k ∈ A) (h : xh I A O x y) : xh I A O x (xs_sa y k v) := ⟨h.1, fun j hj => by rw [xq_sa, if_neg (fun e => hj (by rw [e]; exact hk))]; exact h.2.1 j hj, h.2.2⟩
theorem xh_o {I A O : List Nat} {x y : xs_St} {k : Nat} {v : Nat → Option Nat} (hk : k ∈ O) (h : xh I A O x y) : xh I A O x (xs_so y k v) := ⟨h.1, h.2.1, h.2.2.1, h.2.2.2.1, fun j hj => by show va_up y.2.2.1 k v j = _; rw [xu_n _ _ (fun e => hj (by rw [e]; exact hk))]; exact h.2.2.2.2.1 j hj, h.2.2.2.2.2⟩
theorem xh_q {I A O : List Nat} {x y : xs_St} {v : Option Nat} (h : xh I A O x y) : xh I A O x (xs_sr y 206 v) := ⟨h.1, h.2.1, h.2.2.1, fun j hj => by show va_up y.2.1 206 v j = _; rw [xu_n _ _ hj]; exact h.2.2.2.1 j hj, h.2.2.2.2⟩
theorem sx_addTok {x : xs_St} {T k p : Nat} {KD PL : Nat → Nat} {VL : Nat → Int32} {v : Int32} {K : xs_St → Prop} (hT : T ≤ 400) (hk : k < 27) (h : tkX x T KD PL VL) (hK : ∀ y, xh [203] [201, 202] [200] x y → y.2.1 = x.2.1 → tkX y (T + 1) (iu KD T k) (iu PL T p) (iu VL T v) → K y) : X_RD_addToken (some k) (nI p) v x K := by
  obtain ⟨h1, h2⟩ := h
  unfold X_RD_addToken X_RD_addToken_50
  have c1 : ((400 : Int32) < nI T) = (400 < T) := ni_lt (a := 400) (by omega) (by omega)
  rw [h1, c1]
  refine ⟨fun g => by omega, fun _ => ⟨vp_in_nI (by omega) (by omega), fun k9 e => by injection e with e; omega, fun u1 e1 => ?_⟩⟩
  rw [ni_cl (by omega)] at e1
  have a1 : xi u1 203 = nI T := by rw [e1]; exact h1
  rw [a1]
  refine ⟨vp_in_nI (by omega) (by omega), fun u2 e2 => ?_⟩
  rw [ni_cl (by omega)] at e2
  have a2 : xi u2 203 = nI T := by rw [e2]; exact a1
  rw [a2]
  refine ⟨vp_in_nI (by omega) (by omega), fun u3 e3 => ?_⟩
  rw [ni_cl (by omega)] at e3
  have a3 : xi u3 203 = nI T := by rw [e3]; exact a2
  rw [a3, show nI T + (1 : Int32) = nI (T + 1) from nI_1 T]
  intro u4 e4
  refine hK u4 ?_ (by rw [e4, e3, e2, e1]; rfl) ⟨by rw [e4]; exact xsi_s _ _ _, fun j hj => ?_⟩
  · rw [e4, e3, e2, e1]
    exact xh_i (by decide) (xh_a (by decide) (xh_a (by decide) (xh_o (by decide) (xh_r x))))
  · have o4 : xo u4 200 = va_up (xo x 200) T (some k) := by
      rw [e4, e3, e2, e1]
      exact xu_s x.2.2.1 200 (va_up (xo x 200) T (some k))
    have p4 : xa u4 201 = upd (xa x 201) T (nI p) := by
      rw [e4, xq_si2, e3, xq_sa, if_neg (by decide), e2, xq_sa, if_pos rfl, e1]; rfl
    have q4 : xa u4 202 = upd (xa x 202) T v := by
      rw [e4, xq_si2, e3, xq_sa, if_pos rfl, e2, xq_sa, if_neg (by decide), e1]; rfl
    rw [o4, p4, q4]
    by_cases e : j = T
    · subst e
      rw [xu_s, pk_us, pk_us, iu_s, iu_s, iu_s]
      exact ⟨rfl, rfl, rfl, hk⟩
    · rw [xu_n _ _ e, pk_un e, pk_un e, iu_n e, iu_n e, iu_n e]
      exact h2 j (by omega)
theorem bX_h {x y : xs_St} {L : Nat} {b : Nat → Nat} {I A O : List Nat} (h : bX x L b) (hy : xh I A O x y) (h1 : 101 ∉ I) (h2 : 100 ∉ A) : bX y L b := by
  unfold bX; rw [hy.1 101 h1, hy.2.1 100 h2]; exact h
theorem sx_scan {x : xs_St} {L : Nat} {b : Nat → Nat} {K : xs_St → Prop} (hb : bX x L b) (hK : ∀ (y : xs_St) (T : Nat) (KD PL PP : Nat → Nat) (VL : Nat → Int32), T ≤ 400 → xh [203] [201, 202] [200] x y → y.2.1 = x.2.1 → tkX y (T + 1) KD PL VL → tkB b L T KD PL PP VL → KD T = 0 → PL T = min L 400 → (PP T ≤ L ∧ ∀ i, PP T ≤ i → i < min L 400 → whc (b i)) → K y) : X_RD_scan x K := by
  have hL := hb.1
  unfold X_RD_scan
  intro y1 e1
  have e1 : y1 = nI (min L 400) := by
    rw [e1, hb.2.1]
    have c : ((400 : Int32) < nI L) = (400 < L) := ni_lt (a := 400) (by omega) (by omega)
    by_cases q : 400 < L
    · rw [if_pos (by rw [c]; exact q), show min L 400 = 400 by omega]; rfl
    · rw [if_neg (by rw [c]; exact q), show min L 400 = L by omega]
  subst e1
  intro u2 e2
  have f2 : xh [203] [201, 202] [200] x u2 := by rw [e2]; exact xh_i (by decide) (xh_r x)
  have g2 : xi u2 203 = nI 0 := by rw [e2]; exact xsi_s _ _ _
  have r2 : u2.2.1 = x.2.1 := by rw [e2]; rfl
  clear e2
  refine lqe4 (F := X_RD_scan_21_lp K) (G := X_RD_scan_21 K) (fun _ _ _ _ _ => rfl) (fun d a1 a2 a3 u => a1 = nI (min L 400) ∧ xh [203] [201, 202] [200] x u ∧ u.2.1 = x.2.1 ∧ ∃ (p r T : Nat) (KD PL PP : Nat → Nat) (VL : Nat → Int32), a2 = nI p ∧ a3 = nI r ∧ r ≤ p ∧ d = min L 400 - p ∧ p ≤ L ∧ T ≤ p ∧ T ≤ min L 400 ∧ tkX u T KD PL VL ∧ tkB b L T KD PL PP VL ∧ (PP T ≤ p ∧ ∀ i, PP T ≤ i → i < p → whc (b i))) ?_ (min L 400) _ _ _ _ ⟨rfl, f2, r2, 0, 0, 0, fun _ => 0, fun _ => 0, fun _ => 0, fun _ => 0, rfl, rfl, by omega, by omega, by omega, by omega, by omega, ⟨g2, fun k hk => by omega⟩, ⟨rfl, fun k hk => by omega⟩, Nat.le_refl 0, fun i h1 h2 => by omega⟩
  rintro kk d a1 a2 a3 u ⟨rfl, uf, ur, p, r, T, KD, PL, PP, VL, rfl, rfl, hrp, hd, hpL, hTp, hTm, htx, htb, hPP, hwh⟩ ih
  have ub := bX_h hb uf (by decide) (by decide)
  have fin : min L 400 ≤ p → X_RD_scan_90 K (nI (min L 400)) u := by
    intro q
    unfold X_RD_scan_90
    refine sx_addTok (by omega) (by omega) htx (fun y yf yr ytx => ?_)
    refine hK y T _ _ PP _ (by omega) (xh_t uf yf) (yr.trans ur) ytx ⟨htb.1, fun k hk => ?_⟩ (iu_s _ _ _) (iu_s _ _ _) ⟨by omega, fun i h1 h2 => hwh i h1 (by omega)⟩
    rw [iu_n (by omega), iu_n (by omega), iu_n (by omega)]
    exact htb.2 k hk
  unfold X_RD_scan_21
  have c0 : ((400 : Int32) ≤ nI r) = (400 ≤ r) := ni_le (a := 400) (by omega) (by omega)
  rw [c0, ni_le (by omega) (by omega)]
  refine br1 (fun q0 => fin (by omega)) (fun q0 => br1 (fun q => fin q) (fun q => ?_))
  have hpl : p < L := by omega
  have hbp := (ub.2.2 p hpl).2
  refine sx_run ub hpl (fun e he => ?_)
  have he1 := he.1
  have he2 := he.2.1
  refine sx_b ub hpl ?_
  have c1 : (nI (b p) = (32 : Int32)) = (b p = 32) := ni_eq (b := 32) (by omega) (by omega)
  have c2 : (nI (b p) = (10 : Int32)) = (b p = 10) := ni_eq (b := 10) (by omega) (by omega)
  rw [c1, c2]
  have white : whc (b p) → X_RD_scan_81 K kk (nI (min L 400)) (nI r) (nI (max e (p + 1))) u := by
    intro hw
    unfold X_RD_scan_81
    intro x4 e4
    subst e4
    have ee : e = p := by
      rcases Nat.lt_or_ge p e with g | g
      · have := he.2.2.1 p (Nat.le_refl _) g
        unfold ldc whc at *; omega
      · omega
    refine ih (min L 400 - (p + 1)) _ _ _ _ (by omega) ⟨rfl, uf, ur, max e (p + 1), r + 1, T, KD, PL, PP, VL, rfl, nI_1 r, by omega, by omega, by omega, by omega, hTm, htx, htb, by omega, fun i h1 h2 => ?_⟩
    by_cases ei : i = p
    · subst ei; exact hw
    · exact hwh i h1 (by omega)
  refine br1 (fun q2 => white (Or.inl q2)) (fun q2 => br1 (fun q3 => white (Or.inr q3)) (fun q3 => ?_))
  refine sx_tokenOf ub (show p < max e (p + 1) by omega) (by omega) (fun k hk hk27 => ?_)
  refine sx_numberOf ub (show p < max e (p + 1) by omega) (by omega) ?_
  refine sx_addTok (by omega) hk27 htx (fun y yf yr ytx => ?_)
  unfold X_RD_scan_81
  intro x4 e4
  subst e4
  refine ih (min L 400 - max e (p + 1)) _ _ _ _ (by omega) ⟨rfl, xh_t uf yf, yr.trans ur, max e (p + 1), r + 1, T + 1, _, _, iu PP (T + 1) (max e (p + 1)), _, rfl, nI_1 r, by omega, rfl, by omega, by omega, by omega, ytx, ⟨by rw [iu_n (by omega)]; exact htb.1, fun j hj => ?_⟩, by rw [iu_s]; exact Nat.le_refl _, fun i h1 h2 => by rw [iu_s] at h1; omega⟩
  by_cases ej : j = T
  · subst ej
    rw [iu_s, iu_s, iu_s, iu_s, iu_n (by omega)]
    exact ⟨⟨by omega, fun i h1 h2 => hwh i h1 h2, hPP⟩, by omega, by unfold whc; omega, ⟨e, he, rfl⟩, hk, rfl⟩
  · rw [iu_n ej, iu_n ej, iu_n ej, iu_n (by omega), iu_n (by omega)]
    exact htb.2 j (by omega)

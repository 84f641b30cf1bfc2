/-! gauges -/
theorem s_pig : ∀ (p c : Nat) (F : Nat → Nat), (∀ k, k < c → F k < p) → (∀ k l, k < c → l < c → F k = F l → k = l) → c ≤ p := by
  intro p
  induction p with
  | zero =>
    intro c F h _
    rcases Nat.eq_zero_or_pos c with h0 | h0
    · omega
    · exact absurd (h 0 h0) (Nat.not_lt_zero _)
  | succ p ih =>
    intro c F h hi
    by_cases hx : ∃ k, k < c ∧ F k = p
    · obtain ⟨k0, hk0, e0⟩ := hx
      have := ih (c - 1) (fun k => F (if k < k0 then k else k + 1)) (fun k hk => by
        show F (if k < k0 then k else k + 1) < p
        by_cases hlt : k < k0
        · rw [if_pos hlt]
          have h1 := h k (by omega)
          have h2 : F k ≠ p := fun e => by have := hi k k0 (by omega) hk0 (e.trans e0.symm); omega
          omega
        · rw [if_neg hlt]
          have h1 := h (k + 1) (by omega)
          have h2 : F (k + 1) ≠ p := fun e => by have := hi (k + 1) k0 (by omega) hk0 (e.trans e0.symm); omega
          omega) (fun k l hk hl e => by
        have e : F (if k < k0 then k else k + 1) = F (if l < k0 then l else l + 1) := e
        by_cases h1 : k < k0 <;> by_cases h2 : l < k0
        · rw [if_pos h1, if_pos h2] at e; exact hi k l (by omega) (by omega) e
        · rw [if_pos h1, if_neg h2] at e; have := hi k (l + 1) (by omega) (by omega) e; omega
        · rw [if_neg h1, if_pos h2] at e; have := hi (k + 1) l (by omega) (by omega) e; omega
        · rw [if_neg h1, if_neg h2] at e; have := hi (k + 1) (l + 1) (by omega) (by omega) e; omega)
      omega
    · have := ih c F (fun k hk => by
        have h1 := h k hk
        have h2 : F k ≠ p := fun e => hx ⟨k, hk, e⟩
        omega) hi
      omega
/-- the last GAUGE ahead of the k-th -/
def g_prev (g : Nat → Int) (k : Nat) : Int := if k = 0 then -1 else g (k - 1)
theorem g_prev_s (g : Nat → Int) (k : Nat) : g_prev g (k + 1) = g k := by unfold g_prev; rw [if_neg (by omega)]; rfl
theorem g_prev_c {g g' : Nat → Int} {k : Nat} (h : ∀ i, i < k → g i = g' i) : g_prev g k = g_prev g' k := by
  unfold g_prev
  by_cases h0 : k = 0
  · rw [if_pos h0, if_pos h0]
  · rw [if_neg h0, if_neg h0]; exact h _ (by omega)
/-- the k-th GAUGE is the least end of the stretches that begin behind the one ahead -/
def g_one (p : Nat) (lo hi : Nat → Int) (g : Nat → Int) (k : Nat) : Prop := (∃ j, j < p ∧ hi j = g k ∧ g_prev g k < lo j) ∧ ∀ j, j < p → g_prev g k < lo j → g k ≤ hi j
def g_all (p : Nat) (lo hi : Nat → Int) (c : Nat) (g : Nat → Int) : Prop := (∀ k, k < c → g_one p lo hi g k) ∧ ∀ j, j < p → ¬ g_prev g c < lo j
theorem g_uniq {p : Nat} {lo hi : Nat → Int} {c c' : Nat} {g g' : Nat → Int} (h : g_all p lo hi c g) (h' : g_all p lo hi c' g') : c = c' ∧ ∀ k, k < c → g k = g' k := by
  have key : ∀ k, k ≤ c → k ≤ c' → ∀ i, i < k → g i = g' i := by
    intro k
    induction k with
    | zero => intro _ _ i hi; omega
    | succ k ih =>
      intro h1 h2 i hi
      have ihk := ih (by omega) (by omega)
      rcases Nat.lt_or_ge i k with hl | hg
      · exact ihk i hl
      · have e : i = k := by omega
        subst e
        have hp := g_prev_c (g := g) (g' := g') ihk
        obtain ⟨⟨j, hj, e1, l1⟩, m1⟩ := h.1 i (by omega)
        obtain ⟨⟨j', hj', e2, l2⟩, m2⟩ := h'.1 i (by omega)
        have a1 := m1 j' hj' (by rw [hp]; exact l2)
        have a2 := m2 j hj (by rw [← hp]; exact l1)
        omega
  rcases Nat.lt_trichotomy c c' with hl | he | hg
  · exfalso
    have hp := g_prev_c (key c (Nat.le_refl _) (by omega))
    obtain ⟨⟨j, hj, -, l1⟩, -⟩ := h'.1 c hl
    exact h.2 j hj (by rw [hp]; exact l1)
  · subst he
    exact ⟨rfl, key c (Nat.le_refl _) (Nat.le_refl _)⟩
  · exfalso
    have hp := g_prev_c (key c' (by omega) (Nat.le_refl _))
    obtain ⟨⟨j, hj, -, l1⟩, -⟩ := h.1 c' hg
    exact h'.2 j hj (by rw [← hp]; exact l1)
/-- there are no more of them than stretches -/
theorem g_few {p : Nat} {lo hi : Nat → Int} {c : Nat} {g : Nat → Int} (hlh : ∀ j, j < p → lo j ≤ hi j) (h : ∀ k, k < c → g_one p lo hi g k) : c ≤ p := by
  have inc : ∀ k l, k < l → l < c → g k < g l := by
    intro k l hkl hl
    induction l with
    | zero => omega
    | succ l ih =>
      obtain ⟨⟨j, hj, e1, l1⟩, -⟩ := h (l + 1) hl
      rw [g_prev_s] at l1
      have := hlh j hj
      rcases Nat.lt_or_ge k l with h1 | h1
      · have := ih h1 (by omega); omega
      · have : k = l := by omega
        subst this; omega
  have ch : ∃ F : Nat → Nat, ∀ k, k < c → F k < p ∧ hi (F k) = g k := by
    refine ⟨fun k => if hk : k < c then Classical.choose (h k hk).1 else 0, fun k hk => ?_⟩
    have hs := Classical.choose_spec (h k hk).1
    show (if hk : k < c then Classical.choose (h k hk).1 else 0) < p ∧ hi (if hk : k < c then Classical.choose (h k hk).1 else 0) = g k
    rw [dif_pos hk]
    exact ⟨hs.1, hs.2.1⟩
  obtain ⟨F, hF⟩ := ch
  refine s_pig p c F (fun k hk => (hF k hk).1) (fun k l hk hl e => ?_)
  have e1 := (hF k hk).2
  have e2 := (hF l hl).2
  rw [e] at e1
  rcases Nat.lt_trichotomy k l with h1 | h1 | h1
  · have := inc k l h1 hl; omega
  · exact h1
  · have := inc l k h1 hk; omega
theorem g_one_c {p : Nat} {lo hi g g' : Nat → Int} {k : Nat} (h : ∀ i, i ≤ k → g i = g' i) (h1 : g_one p lo hi g k) : g_one p lo hi g' k := by
  have hp := g_prev_c (k := k) (fun i hi => h i (by omega))
  unfold g_one at *
  rw [← hp, ← h k (Nat.le_refl _)]
  exact h1
/-- the tape as Ints -/
abbrev tB (a : Nat → Int32) (n : Nat) (B : Nat → Int) : Prop := (∀ i, -128 ≤ B i ∧ B i ≤ 127) ∧ ∀ i, i < n → a i = iI (B i)
theorem tB_of {x : xs_St} {m : th_St} (h : sTape x m) : ∃ (n : Nat) (B : Nat → Int), n ≤ 440 ∧ xi x 101 = nI n ∧ m.1 2 = nI n ∧ tB (xa x 100) n B ∧ tB (m.2.2.1 1) n B := by
  obtain ⟨n, hn, h1, h2, h3⟩ := h
  have hr : ∀ i, -128 ≤ (if i < n then (xa x 100 i).toInt else 0) ∧ (if i < n then (xa x 100 i).toInt else 0) ≤ 127 := by
    intro i
    by_cases hi : i < n
    · rw [if_pos hi]; exact (h3 i hi).2
    · rw [if_neg hi]; decide
  refine ⟨n, fun i => if i < n then (xa x 100 i).toInt else 0, hn, h1, h2, ⟨hr, fun i hi => ?_⟩, ⟨hr, fun i hi => ?_⟩⟩
  · show _ = iI (if i < n then (xa x 100 i).toInt else 0)
    rw [if_pos hi]; exact (ii_self _).symm
  · show _ = iI (if i < n then (xa x 100 i).toInt else 0)
    rw [if_pos hi, ← (h3 i hi).1]; exact (ii_self _).symm
theorem tB_u {B : Int} (h1 : -128 ≤ B) (h2 : B ≤ 127) : iI B &&& (255 : Int32) = iI (B % 256) := by
  rw [ti_eq, ii_toInt (by omega) (by omega), pk_and (iI B) (m := (255 : Int32)) 8 (by decide), ti_nI (by omega)]
  have e := ii_toInt (z := B) (by omega) (by omega)
  have h3 : (iI B).toInt = if 2 * (iI B).toBitVec.toNat < 2 ^ 32 then ((iI B).toBitVec.toNat : Int) else ((iI B).toBitVec.toNat : Int) - 2 ^ 32 := by
    show (iI B).toBitVec.toInt = _
    rw [BitVec.toInt_eq_toNat_cond]; rfl
  have h4 := (iI B).toBitVec.isLt
  rw [e] at h3
  split at h3 <;> omega
theorem tx_s {x : xs_St} {n j : Nat} {B : Nat → Int} (hn : n ≤ 440) (h1 : xi x 101 = nI n) (hB : tB (xa x 100) n B) (hj : j < n) {K : Int32 → xs_St → Prop} (h : K (iI (B j)) x) : X_TP_signed (nI j) x K := sx_sgn hn h1 hj (by rw [hB.2 j hj]; exact h)
theorem tx_u {x : xs_St} {n j : Nat} {B : Nat → Int} (hn : n ≤ 440) (h1 : xi x 101 = nI n) (hB : tB (xa x 100) n B) (hj : j < n) {K : Int32 → xs_St → Prop} (h : K (iI (B j % 256)) x) : X_TP_unsigned (nI j) x K := sx_usg hn h1 hj (by rw [hB.2 j hj, tB_u (hB.1 j).1 (hB.1 j).2]; exact h)
theorem tx_c {x : xs_St} {K : xs_St → Prop} (h : K (xs_si x 101 0)) : X_TP_clear x K := by
  unfold X_TP_clear
  intro u e; subst e; exact h
/-- stretches -/
def g_ok (f : Nat) (B : Nat → Int) (j : Nat) : Prop := 0 ≤ B (2 * j + 1) ∧ B (2 * j + 1) < f ∧ 0 ≤ B (2 * j) ∧ B (2 * j) ≤ B (2 * j + 1)
def g_acc (n f : Nat) (B : Nat → Int) : Prop := n % 2 = 0 ∧ (1 ≤ n / 2 ∧ n / 2 ≤ 40) ∧ ∀ j, j < n / 2 → g_ok f B j
theorem sx_areS {x : xs_St} {n f : Nat} {B : Nat → Int} (hn : n ≤ 440) (h1 : xi x 101 = nI n) (hB : tB (xa x 100) n B) (hf : f ≤ 48) (h3 : xi x 300 = nI f) {K : Int32 → xs_St → Prop} (k0 : ¬ g_acc n f B → K 0 x) (k1 : g_acc n f B → K 1 x) : X_TH_areStretches x K := by
  unfold X_TH_areStretches
  repeat' (first | (with_reducible refine And.intro n20 ?_) | (with_reducible refine And.intro n010 ?_) | (with_reducible refine And.intro n011 ?_) | ((with_reducible refine vq_and ?_ ?_); · (simp (disch := omega) only [nI_lit, nI_m1, nI_add, pk_mul, ni_sub, ii_sub, ii_add, ii_addL, ii_addR, ii_subL, ii_subR, ii_neg, ii_nneg, ii_mul, ii_mulL, ii_mulR, ni_div, ni_rem, ni_le, ni_lt, ni_eq, ii_le, ii_lt, ii_eq, ii_leL, ii_leR, ii_ltL, ii_ltR, ii_eqL, ii_eqR, ni_cl, vq_in, xq_si, xq_si2, xq_si3, xq_sa, xq_sa2, xq_sa3, xq_sl, xq_sl2, xq_sl3, xq_di, xq_da, xq_dl, mq_si, mq_si2, mq_si3, mq_si4, mq_sa, mq_sa2, mq_sa3, mq_sa4, mq_sl, mq_sl2, mq_sl3, mq_sl4, va_upE, Nat.reduceEqDiff, reduceIte, Nat.reduceMul, Nat.reduceAdd, Nat.reduceSub, Nat.reduceLT, Nat.reduceLeDiff, true_and, and_true, not_true, not_false_iff, or_true, true_or, eq_self, h1])) | ((with_reducible refine br1 (fun hq => ?_) (fun hq => ?_)) <;> (try simp (disch := omega) only [nI_lit, nI_m1, nI_add, pk_mul, ni_sub, ii_sub, ii_add, ii_addL, ii_addR, ii_subL, ii_subR, ii_neg, ii_nneg, ii_mul, ii_mulL, ii_mulR, ni_div, ni_rem, ni_le, ni_lt, ni_eq, ii_le, ii_lt, ii_eq, ii_leL, ii_leR, ii_ltL, ii_ltR, ii_eqL, ii_eqR, ni_cl, vq_in, xq_si, xq_si2, xq_si3, xq_sa, xq_sa2, xq_sa3, xq_sl, xq_sl2, xq_sl3, xq_di, xq_da, xq_dl, mq_si, mq_si2, mq_si3, mq_si4, mq_sa, mq_sa2, mq_sa3, mq_sa4, mq_sl, mq_sl2, mq_sl3, mq_sl4, va_upE, Nat.reduceEqDiff, reduceIte, Nat.reduceMul, Nat.reduceAdd, Nat.reduceSub, Nat.reduceLT, Nat.reduceLeDiff, true_and, and_true, not_true, not_false_iff, or_true, true_or, eq_self, h1] at hq) <;> (try (exfalso; omega))) | ((with_reducible refine br2 (fun hq => ?_) (fun hq => ?_)) <;> (try simp (disch := omega) only [nI_lit, nI_m1, nI_add, pk_mul, ni_sub, ii_sub, ii_add, ii_addL, ii_addR, ii_subL, ii_subR, ii_neg, ii_nneg, ii_mul, ii_mulL, ii_mulR, ni_div, ni_rem, ni_le, ni_lt, ni_eq, ii_le, ii_lt, ii_eq, ii_leL, ii_leR, ii_ltL, ii_ltR, ii_eqL, ii_eqR, ni_cl, vq_in, xq_si, xq_si2, xq_si3, xq_sa, xq_sa2, xq_sa3, xq_sl, xq_sl2, xq_sl3, xq_di, xq_da, xq_dl, mq_si, mq_si2, mq_si3, mq_si4, mq_sa, mq_sa2, mq_sa3, mq_sa4, mq_sl, mq_sl2, mq_sl3, mq_sl4, va_upE, Nat.reduceEqDiff, reduceIte, Nat.reduceMul, Nat.reduceAdd, Nat.reduceSub, Nat.reduceLT, Nat.reduceLeDiff, true_and, and_true, not_true, not_false_iff, or_true, true_or, eq_self, h1] at hq) <;> (try (exfalso; omega))) | ((with_reducible intro uu ue); subst ue) | (unfold X_TH_areStretches_33))
  · exact k0 (fun h => by have := h.1; omega)
  · exact k0 (fun h => by have := h.2.1; omega)
  · refine lqe3 (F := X_TH_areStretches_37_lp K) (G := X_TH_areStretches_37 K) (fun _ _ _ _ => rfl) (fun d a b u => u = x ∧ a = nI (n / 2) ∧ ∃ i, b = nI i ∧ i + d = n / 2 ∧ ∀ j, j < i → g_ok f B j) ?_ (n / 2) _ _ _ ⟨rfl, by simp (disch := omega) only [nI_lit, nI_m1, nI_add, pk_mul, ni_sub, ii_sub, ii_add, ii_addL, ii_addR, ii_subL, ii_subR, ii_neg, ii_nneg, ii_mul, ii_mulL, ii_mulR, ni_div, ni_rem, ni_le, ni_lt, ni_eq, ii_le, ii_lt, ii_eq, ii_leL, ii_leR, ii_ltL, ii_ltR, ii_eqL, ii_eqR, ni_cl, vq_in, xq_si, xq_si2, xq_si3, xq_sa, xq_sa2, xq_sa3, xq_sl, xq_sl2, xq_sl3, xq_di, xq_da, xq_dl, mq_si, mq_si2, mq_si3, mq_si4, mq_sa, mq_sa2, mq_sa3, mq_sa4, mq_sl, mq_sl2, mq_sl3, mq_sl4, va_upE, Nat.reduceEqDiff, reduceIte, Nat.reduceMul, Nat.reduceAdd, Nat.reduceSub, Nat.reduceLT, Nat.reduceLeDiff, true_and, and_true, not_true, not_false_iff, or_true, true_or, eq_self, h1], 0, rfl, by omega, fun j hj => by omega⟩
    rintro k d a b u ⟨rfl, rfl, i, rfl, hi, hj⟩ ih
    unfold X_TH_areStretches_37
    repeat' (first | (with_reducible refine And.intro n20 ?_) | (with_reducible refine And.intro n010 ?_) | (with_reducible refine And.intro n011 ?_) | ((with_reducible refine vq_and ?_ ?_); · (simp (disch := omega) only [nI_lit, nI_m1, nI_add, pk_mul, ni_sub, ii_sub, ii_add, ii_addL, ii_addR, ii_subL, ii_subR, ii_neg, ii_nneg, ii_mul, ii_mulL, ii_mulR, ni_div, ni_rem, ni_le, ni_lt, ni_eq, ii_le, ii_lt, ii_eq, ii_leL, ii_leR, ii_ltL, ii_ltR, ii_eqL, ii_eqR, ni_cl, vq_in, xq_si, xq_si2, xq_si3, xq_sa, xq_sa2, xq_sa3, xq_sl, xq_sl2, xq_sl3, xq_di, xq_da, xq_dl, mq_si, mq_si2, mq_si3, mq_si4, mq_sa, mq_sa2, mq_sa3, mq_sa4, mq_sl, mq_sl2, mq_sl3, mq_sl4, va_upE, Nat.reduceEqDiff, reduceIte, Nat.reduceMul, Nat.reduceAdd, Nat.reduceSub, Nat.reduceLT, Nat.reduceLeDiff, true_and, and_true, not_true, not_false_iff, or_true, true_or, eq_self, h1])) | ((with_reducible refine br1 (fun hq => ?_) (fun hq => ?_)) <;> (try simp (disch := omega) only [nI_lit, nI_m1, nI_add, pk_mul, ni_sub, ii_sub, ii_add, ii_addL, ii_addR, ii_subL, ii_subR, ii_neg, ii_nneg, ii_mul, ii_mulL, ii_mulR, ni_div, ni_rem, ni_le, ni_lt, ni_eq, ii_le, ii_lt, ii_eq, ii_leL, ii_leR, ii_ltL, ii_ltR, ii_eqL, ii_eqR, ni_cl, vq_in, xq_si, xq_si2, xq_si3, xq_sa, xq_sa2, xq_sa3, xq_sl, xq_sl2, xq_sl3, xq_di, xq_da, xq_dl, mq_si, mq_si2, mq_si3, mq_si4, mq_sa, mq_sa2, mq_sa3, mq_sa4, mq_sl, mq_sl2, mq_sl3, mq_sl4, va_upE, Nat.reduceEqDiff, reduceIte, Nat.reduceMul, Nat.reduceAdd, Nat.reduceSub, Nat.reduceLT, Nat.reduceLeDiff, true_and, and_true, not_true, not_false_iff, or_true, true_or, eq_self, h1] at hq) <;> (try (exfalso; omega))) | ((with_reducible refine br2 (fun hq => ?_) (fun hq => ?_)) <;> (try simp (disch := omega) only [nI_lit, nI_m1, nI_add, pk_mul, ni_sub, ii_sub, ii_add, ii_addL, ii_addR, ii_subL, ii_subR, ii_neg, ii_nneg, ii_mul, ii_mulL, ii_mulR, ni_div, ni_rem, ni_le, ni_lt, ni_eq, ii_le, ii_lt, ii_eq, ii_leL, ii_leR, ii_ltL, ii_ltR, ii_eqL, ii_eqR, ni_cl, vq_in, xq_si, xq_si2, xq_si3, xq_sa, xq_sa2, xq_sa3, xq_sl, xq_sl2, xq_sl3, xq_di, xq_da, xq_dl, mq_si, mq_si2, mq_si3, mq_si4, mq_sa, mq_sa2, mq_sa3, mq_sa4, mq_sl, mq_sl2, mq_sl3, mq_sl4, va_upE, Nat.reduceEqDiff, reduceIte, Nat.reduceMul, Nat.reduceAdd, Nat.reduceSub, Nat.reduceLT, Nat.reduceLeDiff, true_and, and_true, not_true, not_false_iff, or_true, true_or, eq_self, h1] at hq) <;> (try (exfalso; omega))) | ((with_reducible intro uu ue); subst ue) | (unfold X_TH_areStretches_80))
    · exact k1 ⟨by omega, ⟨by omega, by omega⟩, fun j hj2 => hj j (by omega)⟩
    · have b1 := hB.1 (2 * i)
      have b2 := hB.1 (2 * i + 1)
      simp (disch := omega) only [nI_lit, nI_m1, nI_add, pk_mul, ni_sub, ii_sub, ii_add, ii_addL, ii_addR, ii_subL, ii_subR, ii_neg, ii_nneg, ii_mul, ii_mulL, ii_mulR, ni_div, ni_rem, ni_le, ni_lt, ni_eq, ii_le, ii_lt, ii_eq, ii_leL, ii_leR, ii_ltL, ii_ltR, ii_eqL, ii_eqR, ni_cl, vq_in, xq_si, xq_si2, xq_si3, xq_sa, xq_sa2, xq_sa3, xq_sl, xq_sl2, xq_sl3, xq_di, xq_da, xq_dl, mq_si, mq_si2, mq_si3, mq_si4, mq_sa, mq_sa2, mq_sa3, mq_sa4, mq_sl, mq_sl2, mq_sl3, mq_sl4, va_upE, Nat.reduceEqDiff, reduceIte, Nat.reduceMul, Nat.reduceAdd, Nat.reduceSub, Nat.reduceLT, Nat.reduceLeDiff, true_and, and_true, not_true, not_false_iff, or_true, true_or, eq_self]
      refine tx_u hn h1 hB (by omega) (tx_u hn h1 hB (by omega) ?_)
      repeat' (first | (with_reducible refine And.intro n20 ?_) | (with_reducible refine And.intro n010 ?_) | (with_reducible refine And.intro n011 ?_) | ((with_reducible refine vq_and ?_ ?_); · (simp (disch := omega) only [nI_lit, nI_m1, nI_add, pk_mul, ni_sub, ii_sub, ii_add, ii_addL, ii_addR, ii_subL, ii_subR, ii_neg, ii_nneg, ii_mul, ii_mulL, ii_mulR, ni_div, ni_rem, ni_le, ni_lt, ni_eq, ii_le, ii_lt, ii_eq, ii_leL, ii_leR, ii_ltL, ii_ltR, ii_eqL, ii_eqR, ni_cl, vq_in, xq_si, xq_si2, xq_si3, xq_sa, xq_sa2, xq_sa3, xq_sl, xq_sl2, xq_sl3, xq_di, xq_da, xq_dl, mq_si, mq_si2, mq_si3, mq_si4, mq_sa, mq_sa2, mq_sa3, mq_sa4, mq_sl, mq_sl2, mq_sl3, mq_sl4, va_upE, Nat.reduceEqDiff, reduceIte, Nat.reduceMul, Nat.reduceAdd, Nat.reduceSub, Nat.reduceLT, Nat.reduceLeDiff, true_and, and_true, not_true, not_false_iff, or_true, true_or, eq_self, h3])) | ((with_reducible refine br1 (fun hq => ?_) (fun hq => ?_)) <;> (try simp (disch := omega) only [nI_lit, nI_m1, nI_add, pk_mul, ni_sub, ii_sub, ii_add, ii_addL, ii_addR, ii_subL, ii_subR, ii_neg, ii_nneg, ii_mul, ii_mulL, ii_mulR, ni_div, ni_rem, ni_le, ni_lt, ni_eq, ii_le, ii_lt, ii_eq, ii_leL, ii_leR, ii_ltL, ii_ltR, ii_eqL, ii_eqR, ni_cl, vq_in, xq_si, xq_si2, xq_si3, xq_sa, xq_sa2, xq_sa3, xq_sl, xq_sl2, xq_sl3, xq_di, xq_da, xq_dl, mq_si, mq_si2, mq_si3, mq_si4, mq_sa, mq_sa2, mq_sa3, mq_sa4, mq_sl, mq_sl2, mq_sl3, mq_sl4, va_upE, Nat.reduceEqDiff, reduceIte, Nat.reduceMul, Nat.reduceAdd, Nat.reduceSub, Nat.reduceLT, Nat.reduceLeDiff, true_and, and_true, not_true, not_false_iff, or_true, true_or, eq_self, h3] at hq) <;> (try (exfalso; omega))) | ((with_reducible refine br2 (fun hq => ?_) (fun hq => ?_)) <;> (try simp (disch := omega) only [nI_lit, nI_m1, nI_add, pk_mul, ni_sub, ii_sub, ii_add, ii_addL, ii_addR, ii_subL, ii_subR, ii_neg, ii_nneg, ii_mul, ii_mulL, ii_mulR, ni_div, ni_rem, ni_le, ni_lt, ni_eq, ii_le, ii_lt, ii_eq, ii_leL, ii_leR, ii_ltL, ii_ltR, ii_eqL, ii_eqR, ni_cl, vq_in, xq_si, xq_si2, xq_si3, xq_sa, xq_sa2, xq_sa3, xq_sl, xq_sl2, xq_sl3, xq_di, xq_da, xq_dl, mq_si, mq_si2, mq_si3, mq_si4, mq_sa, mq_sa2, mq_sa3, mq_sa4, mq_sl, mq_sl2, mq_sl3, mq_sl4, va_upE, Nat.reduceEqDiff, reduceIte, Nat.reduceMul, Nat.reduceAdd, Nat.reduceSub, Nat.reduceLT, Nat.reduceLeDiff, true_and, and_true, not_true, not_false_iff, or_true, true_or, eq_self, h3] at hq) <;> (try (exfalso; omega))) | ((with_reducible intro uu ue); subst ue) | (unfold X_TH_areStretches_80))
      · exact k0 (fun h => by have := h.2.2 i (by omega); unfold g_ok at this; omega)
      · refine ih (d - 1) _ _ _ (by omega) ⟨rfl, rfl, i + 1, rfl, by omega, fun j hj2 => ?_⟩
        rcases Nat.lt_or_ge j i with h4 | h4
        · exact hj j h4
        · have : j = i := by omega
          subst this
          unfold g_ok
          omega
      · exact k0 (fun h => by have := h.2.2 i (by omega); unfold g_ok at this; omega)
  · exact k0 (fun h => by have := h.2.1; omega)
theorem sx_ends {x : xs_St} {n i : Nat} {l : Int} {B : Nat → Int} (hn : n ≤ 440) (h1 : xi x 101 = nI n) (hB : tB (xa x 100) n B) (hi : i < 48) (hl : -1 ≤ l) (hl2 : l < 48) {K : Int32 → xs_St → Prop} (hev : n % 2 = 0) (h0 : ∀ j, j < n / 2 → 0 ≤ B (2 * j) ∧ 0 ≤ B (2 * j + 1)) (k0 : (∀ j, j < n / 2 → B (2 * j + 1) = i → B (2 * j) ≤ l) → K 0 x) (k1 : ∀ j, j < n / 2 → B (2 * j + 1) = i → l < B (2 * j) → K 1 x) : X_TH_endsUngauged (nI i) (iI l) x K := by
  unfold X_TH_endsUngauged
  refine lqe4 (F := X_TH_endsUngauged_2_lp K) (G := X_TH_endsUngauged_2 K) (fun _ _ _ _ _ => rfl) (fun d a b c u => u = x ∧ a = nI i ∧ b = iI l ∧ ∃ s, c = nI s ∧ s + d = n / 2 ∧ ∀ j, j < s → B (2 * j + 1) = i → B (2 * j) ≤ l) ?_ (n / 2) _ _ _ _ ⟨rfl, rfl, rfl, 0, rfl, by omega, fun j hj => by omega⟩
  rintro k d a b c u ⟨rfl, rfl, rfl, s, rfl, hs, hj⟩ ih
  have step : (B (2 * s + 1) = i → B (2 * s) ≤ l) → ∀ j, j < s + 1 → B (2 * j + 1) = i → B (2 * j) ≤ l := by
    intro h j hj2
    rcases Nat.lt_or_ge j s with h4 | h4
    · exact hj j h4
    · have : j = s := by omega
      subst this; exact h
  unfold X_TH_endsUngauged_2
  repeat' (first | (with_reducible refine And.intro n20 ?_) | (with_reducible refine And.intro n010 ?_) | (with_reducible refine And.intro n011 ?_) | ((with_reducible refine vq_and ?_ ?_); · (simp (disch := omega) only [nI_lit, nI_m1, nI_add, pk_mul, ni_sub, ii_sub, ii_add, ii_addL, ii_addR, ii_subL, ii_subR, ii_neg, ii_nneg, ii_mul, ii_mulL, ii_mulR, ni_div, ni_rem, ni_le, ni_lt, ni_eq, ii_le, ii_lt, ii_eq, ii_leL, ii_leR, ii_ltL, ii_ltR, ii_eqL, ii_eqR, ni_cl, vq_in, xq_si, xq_si2, xq_si3, xq_sa, xq_sa2, xq_sa3, xq_sl, xq_sl2, xq_sl3, xq_di, xq_da, xq_dl, mq_si, mq_si2, mq_si3, mq_si4, mq_sa, mq_sa2, mq_sa3, mq_sa4, mq_sl, mq_sl2, mq_sl3, mq_sl4, va_upE, Nat.reduceEqDiff, reduceIte, Nat.reduceMul, Nat.reduceAdd, Nat.reduceSub, Nat.reduceLT, Nat.reduceLeDiff, true_and, and_true, not_true, not_false_iff, or_true, true_or, eq_self, h1])) | ((with_reducible refine br1 (fun hq => ?_) (fun hq => ?_)) <;> (try simp (disch := omega) only [nI_lit, nI_m1, nI_add, pk_mul, ni_sub, ii_sub, ii_add, ii_addL, ii_addR, ii_subL, ii_subR, ii_neg, ii_nneg, ii_mul, ii_mulL, ii_mulR, ni_div, ni_rem, ni_le, ni_lt, ni_eq, ii_le, ii_lt, ii_eq, ii_leL, ii_leR, ii_ltL, ii_ltR, ii_eqL, ii_eqR, ni_cl, vq_in, xq_si, xq_si2, xq_si3, xq_sa, xq_sa2, xq_sa3, xq_sl, xq_sl2, xq_sl3, xq_di, xq_da, xq_dl, mq_si, mq_si2, mq_si3, mq_si4, mq_sa, mq_sa2, mq_sa3, mq_sa4, mq_sl, mq_sl2, mq_sl3, mq_sl4, va_upE, Nat.reduceEqDiff, reduceIte, Nat.reduceMul, Nat.reduceAdd, Nat.reduceSub, Nat.reduceLT, Nat.reduceLeDiff, true_and, and_true, not_true, not_false_iff, or_true, true_or, eq_self, h1] at hq) <;> (try (exfalso; omega))) | ((with_reducible refine br2 (fun hq => ?_) (fun hq => ?_)) <;> (try simp (disch := omega) only [nI_lit, nI_m1, nI_add, pk_mul, ni_sub, ii_sub, ii_add, ii_addL, ii_addR, ii_subL, ii_subR, ii_neg, ii_nneg, ii_mul, ii_mulL, ii_mulR, ni_div, ni_rem, ni_le, ni_lt, ni_eq, ii_le, ii_lt, ii_eq, ii_leL, ii_leR, ii_ltL, ii_ltR, ii_eqL, ii_eqR, ni_cl, vq_in, xq_si, xq_si2, xq_si3, xq_sa, xq_sa2, xq_sa3, xq_sl, xq_sl2, xq_sl3, xq_di, xq_da, xq_dl, mq_si, mq_si2, mq_si3, mq_si4, mq_sa, mq_sa2, mq_sa3, mq_sa4, mq_sl, mq_sl2, mq_sl3, mq_sl4, va_upE, Nat.reduceEqDiff, reduceIte, Nat.reduceMul, Nat.reduceAdd, Nat.reduceSub, Nat.reduceLT, Nat.reduceLeDiff, true_and, and_true, not_true, not_false_iff, or_true, true_or, eq_self, h1] at hq) <;> (try (exfalso; omega))) | ((with_reducible intro uu ue); subst ue))
  · exact k0 (fun j hj2 => hj j (by omega))
  · have b1 := hB.1 (2 * s)
    have b2 := hB.1 (2 * s + 1)
    have b3 := h0 s (by omega)
    simp (disch := omega) only [nI_lit, nI_m1, nI_add, pk_mul, ni_sub, ii_sub, ii_add, ii_addL, ii_addR, ii_subL, ii_subR, ii_neg, ii_nneg, ii_mul, ii_mulL, ii_mulR, ni_div, ni_rem, ni_le, ni_lt, ni_eq, ii_le, ii_lt, ii_eq, ii_leL, ii_leR, ii_ltL, ii_ltR, ii_eqL, ii_eqR, ni_cl, vq_in, xq_si, xq_si2, xq_si3, xq_sa, xq_sa2, xq_sa3, xq_sl, xq_sl2, xq_sl3, xq_di, xq_da, xq_dl, mq_si, mq_si2, mq_si3, mq_si4, mq_sa, mq_sa2, mq_sa3, mq_sa4, mq_sl, mq_sl2, mq_sl3, mq_sl4, va_upE, Nat.reduceEqDiff, reduceIte, Nat.reduceMul, Nat.reduceAdd, Nat.reduceSub, Nat.reduceLT, Nat.reduceLeDiff, true_and, and_true, not_true, not_false_iff, or_true, true_or, eq_self]
    refine tx_u hn h1 hB (by omega) ?_
    repeat' (first | (with_reducible refine And.intro n20 ?_) | (with_reducible refine And.intro n010 ?_) | (with_reducible refine And.intro n011 ?_) | ((with_reducible refine vq_and ?_ ?_); · (simp (disch := omega) only [nI_lit, nI_m1, nI_add, pk_mul, ni_sub, ii_sub, ii_add, ii_addL, ii_addR, ii_subL, ii_subR, ii_neg, ii_nneg, ii_mul, ii_mulL, ii_mulR, ni_div, ni_rem, ni_le, ni_lt, ni_eq, ii_le, ii_lt, ii_eq, ii_leL, ii_leR, ii_ltL, ii_ltR, ii_eqL, ii_eqR, ni_cl, vq_in, xq_si, xq_si2, xq_si3, xq_sa, xq_sa2, xq_sa3, xq_sl, xq_sl2, xq_sl3, xq_di, xq_da, xq_dl, mq_si, mq_si2, mq_si3, mq_si4, mq_sa, mq_sa2, mq_sa3, mq_sa4, mq_sl, mq_sl2, mq_sl3, mq_sl4, va_upE, Nat.reduceEqDiff, reduceIte, Nat.reduceMul, Nat.reduceAdd, Nat.reduceSub, Nat.reduceLT, Nat.reduceLeDiff, true_and, and_true, not_true, not_false_iff, or_true, true_or, eq_self])) | ((with_reducible refine br1 (fun hq => ?_) (fun hq => ?_)) <;> (try simp (disch := omega) only [nI_lit, nI_m1, nI_add, pk_mul, ni_sub, ii_sub, ii_add, ii_addL, ii_addR, ii_subL, ii_subR, ii_neg, ii_nneg, ii_mul, ii_mulL, ii_mulR, ni_div, ni_rem, ni_le, ni_lt, ni_eq, ii_le, ii_lt, ii_eq, ii_leL, ii_leR, ii_ltL, ii_ltR, ii_eqL, ii_eqR, ni_cl, vq_in, xq_si, xq_si2, xq_si3, xq_sa, xq_sa2, xq_sa3, xq_sl, xq_sl2, xq_sl3, xq_di, xq_da, xq_dl, mq_si, mq_si2, mq_si3, mq_si4, mq_sa, mq_sa2, mq_sa3, mq_sa4, mq_sl, mq_sl2, mq_sl3, mq_sl4, va_upE, Nat.reduceEqDiff, reduceIte, Nat.reduceMul, Nat.reduceAdd, Nat.reduceSub, Nat.reduceLT, Nat.reduceLeDiff, true_and, and_true, not_true, not_false_iff, or_true, true_or, eq_self] at hq) <;> (try (exfalso; omega))) | ((with_reducible refine br2 (fun hq => ?_) (fun hq => ?_)) <;> (try simp (disch := omega) only [nI_lit, nI_m1, nI_add, pk_mul, ni_sub, ii_sub, ii_add, ii_addL, ii_addR, ii_subL, ii_subR, ii_neg, ii_nneg, ii_mul, ii_mulL, ii_mulR, ni_div, ni_rem, ni_le, ni_lt, ni_eq, ii_le, ii_lt, ii_eq, ii_leL, ii_leR, ii_ltL, ii_ltR, ii_eqL, ii_eqR, ni_cl, vq_in, xq_si, xq_si2, xq_si3, xq_sa, xq_sa2, xq_sa3, xq_sl, xq_sl2, xq_sl3, xq_di, xq_da, xq_dl, mq_si, mq_si2, mq_si3, mq_si4, mq_sa, mq_sa2, mq_sa3, mq_sa4, mq_sl, mq_sl2, mq_sl3, mq_sl4, va_upE, Nat.reduceEqDiff, reduceIte, Nat.reduceMul, Nat.reduceAdd, Nat.reduceSub, Nat.reduceLT, Nat.reduceLeDiff, true_and, and_true, not_true, not_false_iff, or_true, true_or, eq_self] at hq) <;> (try (exfalso; omega))) | ((with_reducible intro uu ue); subst ue) | (unfold X_TH_endsUngauged_47))
    · try simp (disch := omega) only [nI_lit, nI_m1, nI_add, pk_mul, ni_sub, ii_sub, ii_add, ii_addL, ii_addR, ii_subL, ii_subR, ii_neg, ii_nneg, ii_mul, ii_mulL, ii_mulR, ni_div, ni_rem, ni_le, ni_lt, ni_eq, ii_le, ii_lt, ii_eq, ii_leL, ii_leR, ii_ltL, ii_ltR, ii_eqL, ii_eqR, ni_cl, vq_in, xq_si, xq_si2, xq_si3, xq_sa, xq_sa2, xq_sa3, xq_sl, xq_sl2, xq_sl3, xq_di, xq_da, xq_dl, mq_si, mq_si2, mq_si3, mq_si4, mq_sa, mq_sa2, mq_sa3, mq_sa4, mq_sl, mq_sl2, mq_sl3, mq_sl4, va_upE, Nat.reduceEqDiff, reduceIte, Nat.reduceMul, Nat.reduceAdd, Nat.reduceSub, Nat.reduceLT, Nat.reduceLeDiff, true_and, and_true, not_true, not_false_iff, or_true, true_or, eq_self]
      exact ih (d - 1) _ _ _ _ (by omega) ⟨rfl, rfl, rfl, s + 1, rfl, by omega, step (fun e => by omega)⟩
    · try simp (disch := omega) only [nI_lit, nI_m1, nI_add, pk_mul, ni_sub, ii_sub, ii_add, ii_addL, ii_addR, ii_subL, ii_subR, ii_neg, ii_nneg, ii_mul, ii_mulL, ii_mulR, ni_div, ni_rem, ni_le, ni_lt, ni_eq, ii_le, ii_lt, ii_eq, ii_leL, ii_leR, ii_ltL, ii_ltR, ii_eqL, ii_eqR, ni_cl, vq_in, xq_si, xq_si2, xq_si3, xq_sa, xq_sa2, xq_sa3, xq_sl, xq_sl2, xq_sl3, xq_di, xq_da, xq_dl, mq_si, mq_si2, mq_si3, mq_si4, mq_sa, mq_sa2, mq_sa3, mq_sa4, mq_sl, mq_sl2, mq_sl3, mq_sl4, va_upE, Nat.reduceEqDiff, reduceIte, Nat.reduceMul, Nat.reduceAdd, Nat.reduceSub, Nat.reduceLT, Nat.reduceLeDiff, true_and, and_true, not_true, not_false_iff, or_true, true_or, eq_self]
      refine tx_u hn h1 hB (by omega) ?_
      repeat' (first | (with_reducible refine And.intro n20 ?_) | (with_reducible refine And.intro n010 ?_) | (with_reducible refine And.intro n011 ?_) | ((with_reducible refine vq_and ?_ ?_); · (simp (disch := omega) only [nI_lit, nI_m1, nI_add, pk_mul, ni_sub, ii_sub, ii_add, ii_addL, ii_addR, ii_subL, ii_subR, ii_neg, ii_nneg, ii_mul, ii_mulL, ii_mulR, ni_div, ni_rem, ni_le, ni_lt, ni_eq, ii_le, ii_lt, ii_eq, ii_leL, ii_leR, ii_ltL, ii_ltR, ii_eqL, ii_eqR, ni_cl, vq_in, xq_si, xq_si2, xq_si3, xq_sa, xq_sa2, xq_sa3, xq_sl, xq_sl2, xq_sl3, xq_di, xq_da, xq_dl, mq_si, mq_si2, mq_si3, mq_si4, mq_sa, mq_sa2, mq_sa3, mq_sa4, mq_sl, mq_sl2, mq_sl3, mq_sl4, va_upE, Nat.reduceEqDiff, reduceIte, Nat.reduceMul, Nat.reduceAdd, Nat.reduceSub, Nat.reduceLT, Nat.reduceLeDiff, true_and, and_true, not_true, not_false_iff, or_true, true_or, eq_self])) | ((with_reducible refine br1 (fun hq => ?_) (fun hq => ?_)) <;> (try simp (disch := omega) only [nI_lit, nI_m1, nI_add, pk_mul, ni_sub, ii_sub, ii_add, ii_addL, ii_addR, ii_subL, ii_subR, ii_neg, ii_nneg, ii_mul, ii_mulL, ii_mulR, ni_div, ni_rem, ni_le, ni_lt, ni_eq, ii_le, ii_lt, ii_eq, ii_leL, ii_leR, ii_ltL, ii_ltR, ii_eqL, ii_eqR, ni_cl, vq_in, xq_si, xq_si2, xq_si3, xq_sa, xq_sa2, xq_sa3, xq_sl, xq_sl2, xq_sl3, xq_di, xq_da, xq_dl, mq_si, mq_si2, mq_si3, mq_si4, mq_sa, mq_sa2, mq_sa3, mq_sa4, mq_sl, mq_sl2, mq_sl3, mq_sl4, va_upE, Nat.reduceEqDiff, reduceIte, Nat.reduceMul, Nat.reduceAdd, Nat.reduceSub, Nat.reduceLT, Nat.reduceLeDiff, true_and, and_true, not_true, not_false_iff, or_true, true_or, eq_self] at hq) <;> (try (exfalso; omega))) | ((with_reducible refine br2 (fun hq => ?_) (fun hq => ?_)) <;> (try simp (disch := omega) only [nI_lit, nI_m1, nI_add, pk_mul, ni_sub, ii_sub, ii_add, ii_addL, ii_addR, ii_subL, ii_subR, ii_neg, ii_nneg, ii_mul, ii_mulL, ii_mulR, ni_div, ni_rem, ni_le, ni_lt, ni_eq, ii_le, ii_lt, ii_eq, ii_leL, ii_leR, ii_ltL, ii_ltR, ii_eqL, ii_eqR, ni_cl, vq_in, xq_si, xq_si2, xq_si3, xq_sa, xq_sa2, xq_sa3, xq_sl, xq_sl2, xq_sl3, xq_di, xq_da, xq_dl, mq_si, mq_si2, mq_si3, mq_si4, mq_sa, mq_sa2, mq_sa3, mq_sa4, mq_sl, mq_sl2, mq_sl3, mq_sl4, va_upE, Nat.reduceEqDiff, reduceIte, Nat.reduceMul, Nat.reduceAdd, Nat.reduceSub, Nat.reduceLT, Nat.reduceLeDiff, true_and, and_true, not_true, not_false_iff, or_true, true_or, eq_self] at hq) <;> (try (exfalso; omega))) | ((with_reducible intro uu ue); subst ue) | (unfold X_TH_endsUngauged_47))
      · try simp (disch := omega) only [nI_lit, nI_m1, nI_add, pk_mul, ni_sub, ii_sub, ii_add, ii_addL, ii_addR, ii_subL, ii_subR, ii_neg, ii_nneg, ii_mul, ii_mulL, ii_mulR, ni_div, ni_rem, ni_le, ni_lt, ni_eq, ii_le, ii_lt, ii_eq, ii_leL, ii_leR, ii_ltL, ii_ltR, ii_eqL, ii_eqR, ni_cl, vq_in, xq_si, xq_si2, xq_si3, xq_sa, xq_sa2, xq_sa3, xq_sl, xq_sl2, xq_sl3, xq_di, xq_da, xq_dl, mq_si, mq_si2, mq_si3, mq_si4, mq_sa, mq_sa2, mq_sa3, mq_sa4, mq_sl, mq_sl2, mq_sl3, mq_sl4, va_upE, Nat.reduceEqDiff, reduceIte, Nat.reduceMul, Nat.reduceAdd, Nat.reduceSub, Nat.reduceLT, Nat.reduceLeDiff, true_and, and_true, not_true, not_false_iff, or_true, true_or, eq_self]
        exact ih (d - 1) _ _ _ _ (by omega) ⟨rfl, rfl, rfl, s + 1, rfl, by omega, step (fun e => by omega)⟩
      · exact k1 s (by omega) (by omega) (by omega)
def g_p (n : Nat) (B : Nat → Int) (c : Nat) (g : Nat → Int) : Prop := g_all (n / 2) (fun j => B (2 * j)) (fun j => B (2 * j + 1)) c g
theorem sx_place {x : xs_St} {n f : Nat} {B : Nat → Int} (hn : n ≤ 440) (h1 : xi x 101 = nI n) (hB : tB (xa x 100) n B) (hf : f ≤ 48) (h3 : xi x 300 = nI f) (hacc : g_acc n f B) {K : Int32 → xs_St → Prop} (k1 : ∀ (c : Nat) (g : Nat → Int) (y : xs_St), xf [8] [7] [] x y → xi y 8 = nI c → (∀ k, k < c → xa y 7 k = iI (g k)) → g_p n B c g → K (nI c) y) : X_TH_placeGauges x K := by
  unfold X_TH_placeGauges
  intro u1 e1; subst e1
  have h0 : ∀ j, j < n / 2 → 0 ≤ B (2 * j) ∧ 0 ≤ B (2 * j + 1) := fun j hj => by have := hacc.2.2 j hj; unfold g_ok at this; omega
  have hlh : ∀ j, j < n / 2 → B (2 * j) ≤ B (2 * j + 1) ∧ B (2 * j + 1) < f := fun j hj => by have := hacc.2.2 j hj; unfold g_ok at this; omega
  have hev := hacc.1
  refine lqe3 (F := X_TH_placeGauges_9_lp K) (G := X_TH_placeGauges_9 K) (fun _ _ _ _ => rfl) (fun d a b u => xf [8] [7] [] x u ∧ ∃ (i c : Nat) (g : Nat → Int), a = iI (g_prev g c) ∧ b = nI i ∧ i + d = f ∧ c ≤ i ∧ -1 ≤ g_prev g c ∧ g_prev g c < i ∧ xi u 8 = nI c ∧ (∀ k, k < c → xa u 7 k = iI (g k)) ∧ (∀ k, k < c → g_one (n / 2) (fun j => B (2 * j)) (fun j => B (2 * j + 1)) g k) ∧ ∀ j, j < n / 2 → B (2 * j + 1) < i → B (2 * j) ≤ g_prev g c) ?_ f _ _ _ ⟨xf_i (by decide) (xf_r x), 0, 0, fun _ => 0, rfl, rfl, by omega, by omega, by decide, by decide, rfl, fun k hk => by omega, fun k hk => by omega, fun j hj hk => by have := h0 j hj; omega⟩
  rintro k d a b u ⟨hfr, i, c, g, rfl, rfl, hd, hc, hp1, hp2, hu8, hu7, hone, hall⟩ ih
  have e101 : xi u 101 = nI n := (hfr.1 101 (by decide)).trans h1
  have e300 : xi u 300 = nI f := (hfr.1 300 (by decide)).trans h3
  have eB : tB (xa u 100) n B := by rw [hfr.2.1 100 (by decide)]; exact hB
  unfold X_TH_placeGauges_9
  have fin : f ≤ i → K (xi u 8) u := fun hfi => by
    rw [hu8]
    exact k1 c g u hfr hu8 hu7 ⟨hone, fun j hj => by have := hall j hj (by have := hlh j hj; omega); simp only []; omega⟩
  repeat' (first | (with_reducible refine And.intro n20 ?_) | (with_reducible refine And.intro n010 ?_) | (with_reducible refine And.intro n011 ?_) | ((with_reducible refine vq_and ?_ ?_); · (simp (disch := omega) only [nI_lit, nI_m1, nI_add, pk_mul, ni_sub, ii_sub, ii_add, ii_addL, ii_addR, ii_subL, ii_subR, ii_neg, ii_nneg, ii_mul, ii_mulL, ii_mulR, ni_div, ni_rem, ni_le, ni_lt, ni_eq, ii_le, ii_lt, ii_eq, ii_leL, ii_leR, ii_ltL, ii_ltR, ii_eqL, ii_eqR, ni_cl, vq_in, xq_si, xq_si2, xq_si3, xq_sa, xq_sa2, xq_sa3, xq_sl, xq_sl2, xq_sl3, xq_di, xq_da, xq_dl, mq_si, mq_si2, mq_si3, mq_si4, mq_sa, mq_sa2, mq_sa3, mq_sa4, mq_sl, mq_sl2, mq_sl3, mq_sl4, va_upE, Nat.reduceEqDiff, reduceIte, Nat.reduceMul, Nat.reduceAdd, Nat.reduceSub, Nat.reduceLT, Nat.reduceLeDiff, true_and, and_true, not_true, not_false_iff, or_true, true_or, eq_self, e300])) | ((with_reducible refine br1 (fun hq => ?_) (fun hq => ?_)) <;> (try simp (disch := omega) only [nI_lit, nI_m1, nI_add, pk_mul, ni_sub, ii_sub, ii_add, ii_addL, ii_addR, ii_subL, ii_subR, ii_neg, ii_nneg, ii_mul, ii_mulL, ii_mulR, ni_div, ni_rem, ni_le, ni_lt, ni_eq, ii_le, ii_lt, ii_eq, ii_leL, ii_leR, ii_ltL, ii_ltR, ii_eqL, ii_eqR, ni_cl, vq_in, xq_si, xq_si2, xq_si3, xq_sa, xq_sa2, xq_sa3, xq_sl, xq_sl2, xq_sl3, xq_di, xq_da, xq_dl, mq_si, mq_si2, mq_si3, mq_si4, mq_sa, mq_sa2, mq_sa3, mq_sa4, mq_sl, mq_sl2, mq_sl3, mq_sl4, va_upE, Nat.reduceEqDiff, reduceIte, Nat.reduceMul, Nat.reduceAdd, Nat.reduceSub, Nat.reduceLT, Nat.reduceLeDiff, true_and, and_true, not_true, not_false_iff, or_true, true_or, eq_self, e300] at hq) <;> (try (exfalso; omega))) | ((with_reducible refine br2 (fun hq => ?_) (fun hq => ?_)) <;> (try simp (disch := omega) only [nI_lit, nI_m1, nI_add, pk_mul, ni_sub, ii_sub, ii_add, ii_addL, ii_addR, ii_subL, ii_subR, ii_neg, ii_nneg, ii_mul, ii_mulL, ii_mulR, ni_div, ni_rem, ni_le, ni_lt, ni_eq, ii_le, ii_lt, ii_eq, ii_leL, ii_leR, ii_ltL, ii_ltR, ii_eqL, ii_eqR, ni_cl, vq_in, xq_si, xq_si2, xq_si3, xq_sa, xq_sa2, xq_sa3, xq_sl, xq_sl2, xq_sl3, xq_di, xq_da, xq_dl, mq_si, mq_si2, mq_si3, mq_si4, mq_sa, mq_sa2, mq_sa3, mq_sa4, mq_sl, mq_sl2, mq_sl3, mq_sl4, va_upE, Nat.reduceEqDiff, reduceIte, Nat.reduceMul, Nat.reduceAdd, Nat.reduceSub, Nat.reduceLT, Nat.reduceLeDiff, true_and, and_true, not_true, not_false_iff, or_true, true_or, eq_self, e300] at hq) <;> (try (exfalso; omega))) | ((with_reducible intro uu ue); subst ue) | (unfold X_TH_placeGauges_63))
  · exact fin (by omega)
  · refine sx_ends hn e101 eB (by omega) (by omega) (by omega) hev h0 (fun hno => ?_) (fun j hj he hl => ?_)
    · repeat' (first | (with_reducible refine And.intro n20 ?_) | (with_reducible refine And.intro n010 ?_) | (with_reducible refine And.intro n011 ?_) | ((with_reducible refine vq_and ?_ ?_); · (simp (disch := omega) only [nI_lit, nI_m1, nI_add, pk_mul, ni_sub, ii_sub, ii_add, ii_addL, ii_addR, ii_subL, ii_subR, ii_neg, ii_nneg, ii_mul, ii_mulL, ii_mulR, ni_div, ni_rem, ni_le, ni_lt, ni_eq, ii_le, ii_lt, ii_eq, ii_leL, ii_leR, ii_ltL, ii_ltR, ii_eqL, ii_eqR, ni_cl, vq_in, xq_si, xq_si2, xq_si3, xq_sa, xq_sa2, xq_sa3, xq_sl, xq_sl2, xq_sl3, xq_di, xq_da, xq_dl, mq_si, mq_si2, mq_si3, mq_si4, mq_sa, mq_sa2, mq_sa3, mq_sa4, mq_sl, mq_sl2, mq_sl3, mq_sl4, va_upE, Nat.reduceEqDiff, reduceIte, Nat.reduceMul, Nat.reduceAdd, Nat.reduceSub, Nat.reduceLT, Nat.reduceLeDiff, true_and, and_true, not_true, not_false_iff, or_true, true_or, eq_self])) | ((with_reducible refine br1 (fun hq => ?_) (fun hq => ?_)) <;> (try simp (disch := omega) only [nI_lit, nI_m1, nI_add, pk_mul, ni_sub, ii_sub, ii_add, ii_addL, ii_addR, ii_subL, ii_subR, ii_neg, ii_nneg, ii_mul, ii_mulL, ii_mulR, ni_div, ni_rem, ni_le, ni_lt, ni_eq, ii_le, ii_lt, ii_eq, ii_leL, ii_leR, ii_ltL, ii_ltR, ii_eqL, ii_eqR, ni_cl, vq_in, xq_si, xq_si2, xq_si3, xq_sa, xq_sa2, xq_sa3, xq_sl, xq_sl2, xq_sl3, xq_di, xq_da, xq_dl, mq_si, mq_si2, mq_si3, mq_si4, mq_sa, mq_sa2, mq_sa3, mq_sa4, mq_sl, mq_sl2, mq_sl3, mq_sl4, va_upE, Nat.reduceEqDiff, reduceIte, Nat.reduceMul, Nat.reduceAdd, Nat.reduceSub, Nat.reduceLT, Nat.reduceLeDiff, true_and, and_true, not_true, not_false_iff, or_true, true_or, eq_self] at hq) <;> (try (exfalso; omega))) | ((with_reducible refine br2 (fun hq => ?_) (fun hq => ?_)) <;> (try simp (disch := omega) only [nI_lit, nI_m1, nI_add, pk_mul, ni_sub, ii_sub, ii_add, ii_addL, ii_addR, ii_subL, ii_subR, ii_neg, ii_nneg, ii_mul, ii_mulL, ii_mulR, ni_div, ni_rem, ni_le, ni_lt, ni_eq, ii_le, ii_lt, ii_eq, ii_leL, ii_leR, ii_ltL, ii_ltR, ii_eqL, ii_eqR, ni_cl, vq_in, xq_si, xq_si2, xq_si3, xq_sa, xq_sa2, xq_sa3, xq_sl, xq_sl2, xq_sl3, xq_di, xq_da, xq_dl, mq_si, mq_si2, mq_si3, mq_si4, mq_sa, mq_sa2, mq_sa3, mq_sa4, mq_sl, mq_sl2, mq_sl3, mq_sl4, va_upE, Nat.reduceEqDiff, reduceIte, Nat.reduceMul, Nat.reduceAdd, Nat.reduceSub, Nat.reduceLT, Nat.reduceLeDiff, true_and, and_true, not_true, not_false_iff, or_true, true_or, eq_self] at hq) <;> (try (exfalso; omega))) | ((with_reducible intro uu ue); subst ue) | (unfold X_TH_placeGauges_57))
      simp (disch := omega) only [nI_lit, nI_m1, nI_add, pk_mul, ni_sub, ii_sub, ii_add, ii_addL, ii_addR, ii_subL, ii_subR, ii_neg, ii_nneg, ii_mul, ii_mulL, ii_mulR, ni_div, ni_rem, ni_le, ni_lt, ni_eq, ii_le, ii_lt, ii_eq, ii_leL, ii_leR, ii_ltL, ii_ltR, ii_eqL, ii_eqR, ni_cl, vq_in, xq_si, xq_si2, xq_si3, xq_sa, xq_sa2, xq_sa3, xq_sl, xq_sl2, xq_sl3, xq_di, xq_da, xq_dl, mq_si, mq_si2, mq_si3, mq_si4, mq_sa, mq_sa2, mq_sa3, mq_sa4, mq_sl, mq_sl2, mq_sl3, mq_sl4, va_upE, Nat.reduceEqDiff, reduceIte, Nat.reduceMul, Nat.reduceAdd, Nat.reduceSub, Nat.reduceLT, Nat.reduceLeDiff, true_and, and_true, not_true, not_false_iff, or_true, true_or, eq_self]
      refine ih (d - 1) _ _ _ (by omega) ⟨hfr, i + 1, c, g, rfl, rfl, by omega, by omega, hp1, by omega, hu8, hu7, hone, fun j hj hj2 => ?_⟩
      rcases Nat.lt_or_ge i (B (2 * j + 1)).toNat with h4 | h4
      · omega
      · by_cases h5 : B (2 * j + 1) = i
        · exact hno j hj h5
        · exact hall j hj (by omega)
    · repeat' (first | (with_reducible refine And.intro n20 ?_) | (with_reducible refine And.intro n010 ?_) | (with_reducible refine And.intro n011 ?_) | ((with_reducible refine vq_and ?_ ?_); · (simp (disch := omega) only [nI_lit, nI_m1, nI_add, pk_mul, ni_sub, ii_sub, ii_add, ii_addL, ii_addR, ii_subL, ii_subR, ii_neg, ii_nneg, ii_mul, ii_mulL, ii_mulR, ni_div, ni_rem, ni_le, ni_lt, ni_eq, ii_le, ii_lt, ii_eq, ii_leL, ii_leR, ii_ltL, ii_ltR, ii_eqL, ii_eqR, ni_cl, vq_in, xq_si, xq_si2, xq_si3, xq_sa, xq_sa2, xq_sa3, xq_sl, xq_sl2, xq_sl3, xq_di, xq_da, xq_dl, mq_si, mq_si2, mq_si3, mq_si4, mq_sa, mq_sa2, mq_sa3, mq_sa4, mq_sl, mq_sl2, mq_sl3, mq_sl4, va_upE, Nat.reduceEqDiff, reduceIte, Nat.reduceMul, Nat.reduceAdd, Nat.reduceSub, Nat.reduceLT, Nat.reduceLeDiff, true_and, and_true, not_true, not_false_iff, or_true, true_or, eq_self, hu8])) | ((with_reducible refine br1 (fun hq => ?_) (fun hq => ?_)) <;> (try simp (disch := omega) only [nI_lit, nI_m1, nI_add, pk_mul, ni_sub, ii_sub, ii_add, ii_addL, ii_addR, ii_subL, ii_subR, ii_neg, ii_nneg, ii_mul, ii_mulL, ii_mulR, ni_div, ni_rem, ni_le, ni_lt, ni_eq, ii_le, ii_lt, ii_eq, ii_leL, ii_leR, ii_ltL, ii_ltR, ii_eqL, ii_eqR, ni_cl, vq_in, xq_si, xq_si2, xq_si3, xq_sa, xq_sa2, xq_sa3, xq_sl, xq_sl2, xq_sl3, xq_di, xq_da, xq_dl, mq_si, mq_si2, mq_si3, mq_si4, mq_sa, mq_sa2, mq_sa3, mq_sa4, mq_sl, mq_sl2, mq_sl3, mq_sl4, va_upE, Nat.reduceEqDiff, reduceIte, Nat.reduceMul, Nat.reduceAdd, Nat.reduceSub, Nat.reduceLT, Nat.reduceLeDiff, true_and, and_true, not_true, not_false_iff, or_true, true_or, eq_self, hu8] at hq) <;> (try (exfalso; omega))) | ((with_reducible refine br2 (fun hq => ?_) (fun hq => ?_)) <;> (try simp (disch := omega) only [nI_lit, nI_m1, nI_add, pk_mul, ni_sub, ii_sub, ii_add, ii_addL, ii_addR, ii_subL, ii_subR, ii_neg, ii_nneg, ii_mul, ii_mulL, ii_mulR, ni_div, ni_rem, ni_le, ni_lt, ni_eq, ii_le, ii_lt, ii_eq, ii_leL, ii_leR, ii_ltL, ii_ltR, ii_eqL, ii_eqR, ni_cl, vq_in, xq_si, xq_si2, xq_si3, xq_sa, xq_sa2, xq_sa3, xq_sl, xq_sl2, xq_sl3, xq_di, xq_da, xq_dl, mq_si, mq_si2, mq_si3, mq_si4, mq_sa, mq_sa2, mq_sa3, mq_sa4, mq_sl, mq_sl2, mq_sl3, mq_sl4, va_upE, Nat.reduceEqDiff, reduceIte, Nat.reduceMul, Nat.reduceAdd, Nat.reduceSub, Nat.reduceLT, Nat.reduceLeDiff, true_and, and_true, not_true, not_false_iff, or_true, true_or, eq_self, hu8] at hq) <;> (try (exfalso; omega))) | ((with_reducible intro uu ue); subst ue) | (unfold X_TH_placeGauges_57))
      simp (disch := omega) only [nI_lit, nI_m1, nI_add, pk_mul, ni_sub, ii_sub, ii_add, ii_addL, ii_addR, ii_subL, ii_subR, ii_neg, ii_nneg, ii_mul, ii_mulL, ii_mulR, ni_div, ni_rem, ni_le, ni_lt, ni_eq, ii_le, ii_lt, ii_eq, ii_leL, ii_leR, ii_ltL, ii_ltR, ii_eqL, ii_eqR, ni_cl, vq_in, xq_si, xq_si2, xq_si3, xq_sa, xq_sa2, xq_sa3, xq_sl, xq_sl2, xq_sl3, xq_di, xq_da, xq_dl, mq_si, mq_si2, mq_si3, mq_si4, mq_sa, mq_sa2, mq_sa3, mq_sa4, mq_sl, mq_sl2, mq_sl3, mq_sl4, va_upE, Nat.reduceEqDiff, reduceIte, Nat.reduceMul, Nat.reduceAdd, Nat.reduceSub, Nat.reduceLT, Nat.reduceLeDiff, true_and, and_true, not_true, not_false_iff, or_true, true_or, eq_self, hu8]
      have hpp : g_prev (iu g c i) (c + 1) = i := by rw [g_prev_s]; exact iu_s _ _ _
      have hp0 : g_prev (iu g c i) c = g_prev g c := g_prev_c (fun k hk => iu_n (by omega))
      refine ih (d - 1) _ _ _ (by omega) ⟨xf_i (by decide) (xf_a (by decide) hfr), i + 1, c + 1, iu g c i, by rw [hpp]; rfl, rfl, by omega, by omega, by omega, by omega, by simp (disch := omega) only [nI_lit, nI_m1, nI_add, pk_mul, ni_sub, ii_sub, ii_add, ii_addL, ii_addR, ii_subL, ii_subR, ii_neg, ii_nneg, ii_mul, ii_mulL, ii_mulR, ni_div, ni_rem, ni_le, ni_lt, ni_eq, ii_le, ii_lt, ii_eq, ii_leL, ii_leR, ii_ltL, ii_ltR, ii_eqL, ii_eqR, ni_cl, vq_in, xq_si, xq_si2, xq_si3, xq_sa, xq_sa2, xq_sa3, xq_sl, xq_sl2, xq_sl3, xq_di, xq_da, xq_dl, mq_si, mq_si2, mq_si3, mq_si4, mq_sa, mq_sa2, mq_sa3, mq_sa4, mq_sl, mq_sl2, mq_sl3, mq_sl4, va_upE, Nat.reduceEqDiff, reduceIte, Nat.reduceMul, Nat.reduceAdd, Nat.reduceSub, Nat.reduceLT, Nat.reduceLeDiff, true_and, and_true, not_true, not_false_iff, or_true, true_or, eq_self, hu8], fun k hk => ?_, fun k hk => ?_, fun j hj hj2 => ?_⟩
      · exact iu_p (z := (i : Int)) rfl hu7 k hk
      · rcases Nat.lt_or_ge k c with h4 | h4
        · exact g_one_c (fun q hq => (iu_n (by omega)).symm) (hone k h4)
        · have : k = c := by omega
          subst this
          unfold g_one
          rw [hp0, iu_s]
          refine ⟨⟨j, hj, he, hl⟩, fun j2 hj3 hl2 => ?_⟩
          have := hall j2 hj3
          simp only [] at hl2 ⊢
          omega
      · rw [hpp]
        have := hlh j hj
        omega

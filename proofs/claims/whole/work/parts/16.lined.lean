/-! lined: the least cost, from the right -/
def lnD (g : Nat) (w : Nat → Nat → Nat) : Nat → Nat → Nat
  | 0, b => b * g
  | a + 1, 0 => (a + 1) * g
  | a + 1, b + 1 => min (min (lnD g w a (b + 1)) (lnD g w (a + 1) b) + g) (w a b + lnD g w a b)
theorem lnD_0 (g : Nat) (w : Nat → Nat → Nat) (b : Nat) : lnD g w 0 b = b * g := by rw [lnD]
theorem lnD_n0 (g : Nat) (w : Nat → Nat → Nat) (a : Nat) : lnD g w a 0 = a * g := by
  cases a with
  | zero => rw [lnD_0]
  | succ a => rw [lnD]
theorem lnD_s (g : Nat) (w : Nat → Nat → Nat) (a b : Nat) : lnD g w (a + 1) (b + 1) = min (min (lnD g w a (b + 1)) (lnD g w (a + 1) b) + g) (w a b + lnD g w a b) := by rw [lnD]
theorem lnD_le {g : Nat} (hg : g ≤ 255) (w : Nat → Nat → Nat) (a b : Nat) : lnD g w a b ≤ 255 * (a + b) := by
  induction a with
  | zero =>
    rw [lnD_0]
    have := Nat.mul_le_mul_left b hg
    omega
  | succ a ih =>
    cases b with
    | zero =>
      rw [lnD_n0]
      have := Nat.mul_le_mul_left (a + 1) hg
      omega
    | succ b =>
      rw [lnD_s]
      omega
def lnw (B : Nat → Int) (n m a b : Nat) : Nat := (B (n - 1 - a) % 256 - B (n + (m - 1 - b)) % 256).natAbs
def lnW (g : Nat) (w : Nat → Nat → Nat) (n m : Nat) : Nat → Nat → Nat → Nat → Int
  | 0, _, _, _ => -1
  | F + 1, a, b, i => if a = 0 ∨ b = 0 then -1 else if lnD g w a b = w (a - 1) (b - 1) + lnD g w (a - 1) (b - 1) then (if i = n - a then ((m - b : Nat) : Int) else lnW g w n m F (a - 1) (b - 1) i) else if lnD g w a b = lnD g w (a - 1) b + g then lnW g w n m F (a - 1) b i else lnW g w n m F a (b - 1) i
theorem lnW_lo {g : Nat} {w : Nat → Nat → Nat} {n m : Nat} : ∀ (F a b i : Nat), a ≤ n → i < n - a → lnW g w n m F a b i = -1 := by
  intro F
  induction F with
  | zero => intro a b i _ _; rw [lnW]
  | succ F ih =>
    intro a b i ha hi
    rw [lnW]
    by_cases h0 : a = 0 ∨ b = 0
    · rw [if_pos h0]
    · rw [if_neg h0]
      by_cases h1 : lnD g w a b = w (a - 1) (b - 1) + lnD g w (a - 1) (b - 1)
      · rw [if_pos h1, if_neg (by omega)]; exact ih _ _ _ (by omega) (by omega)
      · rw [if_neg h1]
        by_cases h2 : lnD g w a b = lnD g w (a - 1) b + g
        · rw [if_pos h2]; exact ih _ _ _ (by omega) (by omega)
        · rw [if_neg h2]; exact ih _ _ _ (by omega) (by omega)
/-- the cells of the cost -/
def lnC (c : Nat → Int32) (g : Nat) (w : Nat → Nat → Nat) (n m : Nat) (i j : Nat) : Prop := c (49 * i + j) = nI (lnD g w (n - i) (m - j))
theorem sx_cp {x : xs_St} {n N i j c : Nat} {B : Nat → Int} {K : Int32 → xs_St → Prop} (hN : N ≤ 96) (h1 : xi x 101 = nI N) (hB : tB (xa x 100) N B) (hn : n ≤ 48) (hi : i < n) (hj : n + j < N) (hc : xa x 902 (49 * (i + 1) + (j + 1)) = nI c) (hj2 : j < 48) (h : K (nI ((B i % 256 - B (n + j) % 256).natAbs + c)) x) : X_LN_costPaired (nI n) (nI i) (nI j) x K := by
  unfold X_LN_costPaired
  refine tx_u (by omega) h1 hB (by omega) ?_
  rw [nI_add]
  refine tx_u (by omega) h1 hB (by omega) ?_
  intro y5 e5
  subst e5
  rw [ii_sub, ii_abs (by omega) (by omega)]
  have e : (i + 1) * 49 + j + 1 = 49 * (i + 1) + (j + 1) := by omega
  repeat' (first | (with_reducible refine And.intro n20 ?_) | (with_reducible refine And.intro n010 ?_) | (with_reducible refine And.intro n011 ?_) | ((with_reducible refine vq_and ?_ ?_); · (simp (disch := omega) only [nI_lit, nI_m1, nI_add, pk_mul, ni_sub, ii_sub, ii_add, ii_addL, ii_addR, ii_subL, ii_subR, ii_neg, ii_nneg, ii_mul, ii_mulL, ii_mulR, ni_div, ni_rem, ni_le, ni_lt, ni_eq, ii_le, ii_lt, ii_eq, ii_leL, ii_leR, ii_ltL, ii_ltR, ii_eqL, ii_eqR, ni_cl, vq_in, xq_si, xq_si2, xq_si3, xq_sa, xq_sa2, xq_sa3, xq_sl, xq_sl2, xq_sl3, xq_di, xq_da, xq_dl, mq_si, mq_si2, mq_si3, mq_si4, mq_sa, mq_sa2, mq_sa3, mq_sa4, mq_sl, mq_sl2, mq_sl3, mq_sl4, va_upE, Nat.reduceEqDiff, reduceIte, Nat.reduceMul, Nat.reduceAdd, Nat.reduceSub, Nat.reduceLT, Nat.reduceLeDiff, true_and, and_true, not_true, not_false_iff, or_true, true_or, eq_self])) | ((with_reducible refine br1 (fun hq => ?_) (fun hq => ?_)) <;> (try simp (disch := omega) only [nI_lit, nI_m1, nI_add, pk_mul, ni_sub, ii_sub, ii_add, ii_addL, ii_addR, ii_subL, ii_subR, ii_neg, ii_nneg, ii_mul, ii_mulL, ii_mulR, ni_div, ni_rem, ni_le, ni_lt, ni_eq, ii_le, ii_lt, ii_eq, ii_leL, ii_leR, ii_ltL, ii_ltR, ii_eqL, ii_eqR, ni_cl, vq_in, xq_si, xq_si2, xq_si3, xq_sa, xq_sa2, xq_sa3, xq_sl, xq_sl2, xq_sl3, xq_di, xq_da, xq_dl, mq_si, mq_si2, mq_si3, mq_si4, mq_sa, mq_sa2, mq_sa3, mq_sa4, mq_sl, mq_sl2, mq_sl3, mq_sl4, va_upE, Nat.reduceEqDiff, reduceIte, Nat.reduceMul, Nat.reduceAdd, Nat.reduceSub, Nat.reduceLT, Nat.reduceLeDiff, true_and, and_true, not_true, not_false_iff, or_true, true_or, eq_self] at hq) <;> (try (exfalso; omega))) | ((with_reducible refine br2 (fun hq => ?_) (fun hq => ?_)) <;> (try simp (disch := omega) only [nI_lit, nI_m1, nI_add, pk_mul, ni_sub, ii_sub, ii_add, ii_addL, ii_addR, ii_subL, ii_subR, ii_neg, ii_nneg, ii_mul, ii_mulL, ii_mulR, ni_div, ni_rem, ni_le, ni_lt, ni_eq, ii_le, ii_lt, ii_eq, ii_leL, ii_leR, ii_ltL, ii_ltR, ii_eqL, ii_eqR, ni_cl, vq_in, xq_si, xq_si2, xq_si3, xq_sa, xq_sa2, xq_sa3, xq_sl, xq_sl2, xq_sl3, xq_di, xq_da, xq_dl, mq_si, mq_si2, mq_si3, mq_si4, mq_sa, mq_sa2, mq_sa3, mq_sa4, mq_sl, mq_sl2, mq_sl3, mq_sl4, va_upE, Nat.reduceEqDiff, reduceIte, Nat.reduceMul, Nat.reduceAdd, Nat.reduceSub, Nat.reduceLT, Nat.reduceLeDiff, true_and, and_true, not_true, not_false_iff, or_true, true_or, eq_self] at hq) <;> (try (exfalso; omega))) | ((with_reducible intro uu ue); subst ue))
  simp (disch := omega) only [nI_lit, nI_m1, nI_add, pk_mul, ni_sub, ii_sub, ii_add, ii_addL, ii_addR, ii_subL, ii_subR, ii_neg, ii_nneg, ii_mul, ii_mulL, ii_mulR, ni_div, ni_rem, ni_le, ni_lt, ni_eq, ii_le, ii_lt, ii_eq, ii_leL, ii_leR, ii_ltL, ii_ltR, ii_eqL, ii_eqR, ni_cl, vq_in, xq_si, xq_si2, xq_si3, xq_sa, xq_sa2, xq_sa3, xq_sl, xq_sl2, xq_sl3, xq_di, xq_da, xq_dl, mq_si, mq_si2, mq_si3, mq_si4, mq_sa, mq_sa2, mq_sa3, mq_sa4, mq_sl, mq_sl2, mq_sl3, mq_sl4, va_upE, Nat.reduceEqDiff, reduceIte, Nat.reduceMul, Nat.reduceAdd, Nat.reduceSub, Nat.reduceLT, Nat.reduceLeDiff, true_and, and_true, not_true, not_false_iff, or_true, true_or, eq_self, e, hc]
  exact h
theorem sx_least {x : xs_St} {n m g : Nat} {B : Nat → Int} (hn : n ≤ 48) (hm : m ≤ 48) (hg : g ≤ 255) (h1 : xi x 101 = nI (n + m)) (hB : tB (xa x 100) (n + m) B) {K : Int32 → xs_St → Prop}
    (k1 : ∀ y, xf [901] [900, 902] [] x y → xi y 901 = nI n → (∀ i, i < n → xa y 900 i = iI (lnW g (lnw B n m) n m (n + m) n m i)) → K (nI (lnD g (lnw B n m) n m)) y) : X_LN_leastCost (nI n) (nI g) x K := by
  unfold X_LN_leastCost X_LN_areRows
  have em : n + m - n = m := by omega
  repeat' (first | (with_reducible refine And.intro n20 ?_) | (with_reducible refine And.intro n010 ?_) | (with_reducible refine And.intro n011 ?_) | ((with_reducible refine vq_and ?_ ?_); · (simp (disch := omega) only [nI_lit, nI_m1, nI_add, pk_mul, ni_sub, ii_sub, ii_add, ii_addL, ii_addR, ii_subL, ii_subR, ii_neg, ii_nneg, ii_mul, ii_mulL, ii_mulR, ni_div, ni_rem, ni_le, ni_lt, ni_eq, ii_le, ii_lt, ii_eq, ii_leL, ii_leR, ii_ltL, ii_ltR, ii_eqL, ii_eqR, ni_cl, vq_in, xq_si, xq_si2, xq_si3, xq_sa, xq_sa2, xq_sa3, xq_sl, xq_sl2, xq_sl3, xq_di, xq_da, xq_dl, mq_si, mq_si2, mq_si3, mq_si4, mq_sa, mq_sa2, mq_sa3, mq_sa4, mq_sl, mq_sl2, mq_sl3, mq_sl4, va_upE, Nat.reduceEqDiff, reduceIte, Nat.reduceMul, Nat.reduceAdd, Nat.reduceSub, Nat.reduceLT, Nat.reduceLeDiff, true_and, and_true, not_true, not_false_iff, or_true, true_or, eq_self, h1])) | ((with_reducible refine br1 (fun hq => ?_) (fun hq => ?_)) <;> (try simp (disch := omega) only [nI_lit, nI_m1, nI_add, pk_mul, ni_sub, ii_sub, ii_add, ii_addL, ii_addR, ii_subL, ii_subR, ii_neg, ii_nneg, ii_mul, ii_mulL, ii_mulR, ni_div, ni_rem, ni_le, ni_lt, ni_eq, ii_le, ii_lt, ii_eq, ii_leL, ii_leR, ii_ltL, ii_ltR, ii_eqL, ii_eqR, ni_cl, vq_in, xq_si, xq_si2, xq_si3, xq_sa, xq_sa2, xq_sa3, xq_sl, xq_sl2, xq_sl3, xq_di, xq_da, xq_dl, mq_si, mq_si2, mq_si3, mq_si4, mq_sa, mq_sa2, mq_sa3, mq_sa4, mq_sl, mq_sl2, mq_sl3, mq_sl4, va_upE, Nat.reduceEqDiff, reduceIte, Nat.reduceMul, Nat.reduceAdd, Nat.reduceSub, Nat.reduceLT, Nat.reduceLeDiff, true_and, and_true, not_true, not_false_iff, or_true, true_or, eq_self, h1] at hq) <;> (try (exfalso; omega))) | ((with_reducible refine br2 (fun hq => ?_) (fun hq => ?_)) <;> (try simp (disch := omega) only [nI_lit, nI_m1, nI_add, pk_mul, ni_sub, ii_sub, ii_add, ii_addL, ii_addR, ii_subL, ii_subR, ii_neg, ii_nneg, ii_mul, ii_mulL, ii_mulR, ni_div, ni_rem, ni_le, ni_lt, ni_eq, ii_le, ii_lt, ii_eq, ii_leL, ii_leR, ii_ltL, ii_ltR, ii_eqL, ii_eqR, ni_cl, vq_in, xq_si, xq_si2, xq_si3, xq_sa, xq_sa2, xq_sa3, xq_sl, xq_sl2, xq_sl3, xq_di, xq_da, xq_dl, mq_si, mq_si2, mq_si3, mq_si4, mq_sa, mq_sa2, mq_sa3, mq_sa4, mq_sl, mq_sl2, mq_sl3, mq_sl4, va_upE, Nat.reduceEqDiff, reduceIte, Nat.reduceMul, Nat.reduceAdd, Nat.reduceSub, Nat.reduceLT, Nat.reduceLeDiff, true_and, and_true, not_true, not_false_iff, or_true, true_or, eq_self, h1] at hq) <;> (try (exfalso; omega))) | ((with_reducible intro uu ue); subst ue) | (unfold X_LN_areRows_27) | (unfold X_LN_areRows_28))
  simp (disch := omega) only [nI_lit, nI_m1, nI_add, pk_mul, ni_sub, ii_sub, ii_add, ii_addL, ii_addR, ii_subL, ii_subR, ii_neg, ii_nneg, ii_mul, ii_mulL, ii_mulR, ni_div, ni_rem, ni_le, ni_lt, ni_eq, ii_le, ii_lt, ii_eq, ii_leL, ii_leR, ii_ltL, ii_ltR, ii_eqL, ii_eqR, ni_cl, vq_in, xq_si, xq_si2, xq_si3, xq_sa, xq_sa2, xq_sa3, xq_sl, xq_sl2, xq_sl3, xq_di, xq_da, xq_dl, mq_si, mq_si2, mq_si3, mq_si4, mq_sa, mq_sa2, mq_sa3, mq_sa4, mq_sl, mq_sl2, mq_sl3, mq_sl4, va_upE, Nat.reduceEqDiff, reduceIte, Nat.reduceMul, Nat.reduceAdd, Nat.reduceSub, Nat.reduceLT, Nat.reduceLeDiff, true_and, and_true, not_true, not_false_iff, or_true, true_or, eq_self, h1, em]
  refine lqe5 (F := X_LN_leastCost_25_lp K) (G := X_LN_leastCost_25 K) (fun _ _ _ _ _ _ => rfl) (fun d a2 a3 a4 a5 u => xf [] [902] [] x u ∧ a2 = nI n ∧ a3 = nI g ∧ a4 = nI m ∧ a5 = dn d ∧ d ≤ n + 1 ∧ ∀ i, d ≤ i → i ≤ n → ∀ j, j ≤ m → lnC (xa u 902) g (lnw B n m) n m i j) ?_ (n + 1) _ _ _ _ _ ⟨xf_r x, rfl, rfl, rfl, (dn_s n).symm, Nat.le_refl _, fun i h2 h3 => by omega⟩
  rintro k d a2 a3 a4 a5 u ⟨hf, rfl, rfl, rfl, rfl, hd, hcell⟩ ih
  have e101 : xi u 101 = nI (n + m) := (hf.1 101 (by decide)).trans h1
  have eB : tB (xa u 100) (n + m) B := by rw [hf.2.1 100 (by decide)]; exact hB
  unfold X_LN_leastCost_25
  cases d with
  | zero =>
    rw [dn_0]
    clear ih
    repeat' (first | (with_reducible refine And.intro n20 ?_) | (with_reducible refine And.intro n010 ?_) | (with_reducible refine And.intro n011 ?_) | ((with_reducible refine vq_and ?_ ?_); · (simp (disch := omega) only [nI_lit, nI_m1, nI_add, pk_mul, ni_sub, ii_sub, ii_add, ii_addL, ii_addR, ii_subL, ii_subR, ii_neg, ii_nneg, ii_mul, ii_mulL, ii_mulR, ni_div, ni_rem, ni_le, ni_lt, ni_eq, ii_le, ii_lt, ii_eq, ii_leL, ii_leR, ii_ltL, ii_ltR, ii_eqL, ii_eqR, ni_cl, vq_in, xq_si, xq_si2, xq_si3, xq_sa, xq_sa2, xq_sa3, xq_sl, xq_sl2, xq_sl3, xq_di, xq_da, xq_dl, mq_si, mq_si2, mq_si3, mq_si4, mq_sa, mq_sa2, mq_sa3, mq_sa4, mq_sl, mq_sl2, mq_sl3, mq_sl4, va_upE, Nat.reduceEqDiff, reduceIte, Nat.reduceMul, Nat.reduceAdd, Nat.reduceSub, Nat.reduceLT, Nat.reduceLeDiff, true_and, and_true, not_true, not_false_iff, or_true, true_or, eq_self])) | ((with_reducible refine br1 (fun hq => ?_) (fun hq => ?_)) <;> (try simp (disch := omega) only [nI_lit, nI_m1, nI_add, pk_mul, ni_sub, ii_sub, ii_add, ii_addL, ii_addR, ii_subL, ii_subR, ii_neg, ii_nneg, ii_mul, ii_mulL, ii_mulR, ni_div, ni_rem, ni_le, ni_lt, ni_eq, ii_le, ii_lt, ii_eq, ii_leL, ii_leR, ii_ltL, ii_ltR, ii_eqL, ii_eqR, ni_cl, vq_in, xq_si, xq_si2, xq_si3, xq_sa, xq_sa2, xq_sa3, xq_sl, xq_sl2, xq_sl3, xq_di, xq_da, xq_dl, mq_si, mq_si2, mq_si3, mq_si4, mq_sa, mq_sa2, mq_sa3, mq_sa4, mq_sl, mq_sl2, mq_sl3, mq_sl4, va_upE, Nat.reduceEqDiff, reduceIte, Nat.reduceMul, Nat.reduceAdd, Nat.reduceSub, Nat.reduceLT, Nat.reduceLeDiff, true_and, and_true, not_true, not_false_iff, or_true, true_or, eq_self] at hq) <;> (try (exfalso; omega))) | ((with_reducible refine br2 (fun hq => ?_) (fun hq => ?_)) <;> (try simp (disch := omega) only [nI_lit, nI_m1, nI_add, pk_mul, ni_sub, ii_sub, ii_add, ii_addL, ii_addR, ii_subL, ii_subR, ii_neg, ii_nneg, ii_mul, ii_mulL, ii_mulR, ni_div, ni_rem, ni_le, ni_lt, ni_eq, ii_le, ii_lt, ii_eq, ii_leL, ii_leR, ii_ltL, ii_ltR, ii_eqL, ii_eqR, ni_cl, vq_in, xq_si, xq_si2, xq_si3, xq_sa, xq_sa2, xq_sa3, xq_sl, xq_sl2, xq_sl3, xq_di, xq_da, xq_dl, mq_si, mq_si2, mq_si3, mq_si4, mq_sa, mq_sa2, mq_sa3, mq_sa4, mq_sl, mq_sl2, mq_sl3, mq_sl4, va_upE, Nat.reduceEqDiff, reduceIte, Nat.reduceMul, Nat.reduceAdd, Nat.reduceSub, Nat.reduceLT, Nat.reduceLeDiff, true_and, and_true, not_true, not_false_iff, or_true, true_or, eq_self] at hq) <;> (try (exfalso; omega))) | ((with_reducible intro uu ue); subst ue))
    unfold X_LN_notePairs
    intro y1 e1 u2 e2
    subst e2
    rw [e101, pk_sub (by omega), em] at e1
    subst e1
    refine fi_900 (fun y hy hfill => ?_)
    have hfx : xf [901] [900, 902] [] x y := xf_t (xf_i (by decide) (xf_w hf (by decide) (by decide) (by decide))) (xf_w hy (by decide) (by decide) (by decide))
    have y901 : xi y 901 = nI n := (hy.1 901 (by decide)).trans (by simp (disch := omega) only [nI_lit, nI_m1, nI_add, pk_mul, ni_sub, ii_sub, ii_add, ii_addL, ii_addR, ii_subL, ii_subR, ii_neg, ii_nneg, ii_mul, ii_mulL, ii_mulR, ni_div, ni_rem, ni_le, ni_lt, ni_eq, ii_le, ii_lt, ii_eq, ii_leL, ii_leR, ii_ltL, ii_ltR, ii_eqL, ii_eqR, ni_cl, vq_in, xq_si, xq_si2, xq_si3, xq_sa, xq_sa2, xq_sa3, xq_sl, xq_sl2, xq_sl3, xq_di, xq_da, xq_dl, mq_si, mq_si2, mq_si3, mq_si4, mq_sa, mq_sa2, mq_sa3, mq_sa4, mq_sl, mq_sl2, mq_sl3, mq_sl4, va_upE, Nat.reduceEqDiff, reduceIte, Nat.reduceMul, Nat.reduceAdd, Nat.reduceSub, Nat.reduceLT, Nat.reduceLeDiff, true_and, and_true, not_true, not_false_iff, or_true, true_or, eq_self])
    have ycell : ∀ i, i ≤ n → ∀ j, j ≤ m → lnC (xa y 902) g (lnw B n m) n m i j := by
      intro i hi j hj
      have := hcell i (by omega) hi j hj
      rw [hy.2.1 902 (by decide)]
      exact this
    refine lqe6 (F := X_LN_notePairs_27_lp _) (G := X_LN_notePairs_27 _) (fun _ _ _ _ _ _ _ => rfl) (fun d a2 a3 a4 a5 a6 v => xf [901] [900, 902] [] x v ∧ xi v 901 = nI n ∧ a2 = nI n ∧ a3 = nI g ∧ a4 = nI m ∧ (∀ i, i ≤ n → ∀ j, j ≤ m → lnC (xa v 902) g (lnw B n m) n m i j) ∧ ∃ i j, a5 = nI i ∧ a6 = nI j ∧ i ≤ n ∧ j ≤ m ∧ (n - i) + (m - j) = d ∧ (∀ q, q < i → xa v 900 q = iI (lnW g (lnw B n m) n m (n + m) n m q)) ∧ (∀ q, i ≤ q → q < n → xa v 900 q = iI (-1) ∧ ∃ F, d ≤ F ∧ lnW g (lnw B n m) n m (n + m) n m q = lnW g (lnw B n m) n m F (n - i) (m - j) q)) ?_ (n + m) _ _ _ _ _ _ ⟨hfx, y901, rfl, rfl, rfl, ycell, 0, 0, rfl, rfl, by omega, by omega, by omega, fun q hq => by omega, fun q _ hq => ⟨hfill q (by omega), n + m, by omega, rfl⟩⟩
    rintro k d a2 a3 a4 a5 a6 v ⟨hfv, v901, rfl, rfl, rfl, vcell, i, j, rfl, rfl, hi, hj, hdd, hlo, hhi⟩ ih
    have v101 : xi v 101 = nI (n + m) := (hfv.1 101 (by decide)).trans h1
    have vB : tB (xa v 100) (n + m) B := by rw [hfv.2.1 100 (by decide)]; exact hB
    have fin : (n ≤ i ∨ m ≤ j) → ∀ i', vp_in i' 2401 → i'.toNatClampNeg = 0 → K (xa v 902 i'.toNatClampNeg) v := by
      intro hh i' _ hi'
      rw [hi']
      have h00 := vcell 0 (by omega) 0 (by omega)
      unfold lnC at h00
      have h00 : xa v 902 0 = _ := h00
      rw [h00]
      refine k1 v hfv v901 (fun q hq => ?_)
      rcases Nat.lt_or_ge q i with h4 | h4
      · exact hlo q h4
      · obtain ⟨p1, F, hF, p2⟩ := hhi q h4 hq
        rw [p1, p2]
        cases F with
        | zero => rw [lnW]
        | succ F => rw [lnW, if_pos (by omega)]
    have b1 := vB.1 i
    have b2 := vB.1 (n + j)
    have dle := lnD_le hg (lnw B n m)
    unfold X_LN_notePairs_27
    have c00 := fun (h1 : i < n) (h2 : j < m) => vcell i (by omega) j (by omega)
    have c11 := fun (h1 : i < n) (h2 : j < m) => vcell (i + 1) (by omega) (j + 1) (by omega)
    have c10 := fun (h1 : i < n) (h2 : j < m) => vcell (i + 1) (by omega) j (by omega)
    unfold lnC at c00 c11 c10
    have z0 : ((0 : Int32)).toNatClampNeg = 0 := by decide
    have e49 : i * 49 + j = 49 * i + j := by omega
    have e49' : (i + 1) * 49 + j = 49 * (i + 1) + j := by omega
    repeat' (first | (with_reducible refine And.intro n20 ?_) | (with_reducible refine And.intro n010 ?_) | (with_reducible refine And.intro n011 ?_) | ((with_reducible refine vq_and ?_ ?_); · (simp (disch := omega) only [nI_lit, nI_m1, nI_add, pk_mul, ni_sub, ii_sub, ii_add, ii_addL, ii_addR, ii_subL, ii_subR, ii_neg, ii_nneg, ii_mul, ii_mulL, ii_mulR, ni_div, ni_rem, ni_le, ni_lt, ni_eq, ii_le, ii_lt, ii_eq, ii_leL, ii_leR, ii_ltL, ii_ltR, ii_eqL, ii_eqR, ni_cl, vq_in, xq_si, xq_si2, xq_si3, xq_sa, xq_sa2, xq_sa3, xq_sl, xq_sl2, xq_sl3, xq_di, xq_da, xq_dl, mq_si, mq_si2, mq_si3, mq_si4, mq_sa, mq_sa2, mq_sa3, mq_sa4, mq_sl, mq_sl2, mq_sl3, mq_sl4, va_upE, Nat.reduceEqDiff, reduceIte, Nat.reduceMul, Nat.reduceAdd, Nat.reduceSub, Nat.reduceLT, Nat.reduceLeDiff, true_and, and_true, not_true, not_false_iff, or_true, true_or, eq_self])) | ((with_reducible refine br1 (fun hq => ?_) (fun hq => ?_)) <;> (try simp (disch := omega) only [nI_lit, nI_m1, nI_add, pk_mul, ni_sub, ii_sub, ii_add, ii_addL, ii_addR, ii_subL, ii_subR, ii_neg, ii_nneg, ii_mul, ii_mulL, ii_mulR, ni_div, ni_rem, ni_le, ni_lt, ni_eq, ii_le, ii_lt, ii_eq, ii_leL, ii_leR, ii_ltL, ii_ltR, ii_eqL, ii_eqR, ni_cl, vq_in, xq_si, xq_si2, xq_si3, xq_sa, xq_sa2, xq_sa3, xq_sl, xq_sl2, xq_sl3, xq_di, xq_da, xq_dl, mq_si, mq_si2, mq_si3, mq_si4, mq_sa, mq_sa2, mq_sa3, mq_sa4, mq_sl, mq_sl2, mq_sl3, mq_sl4, va_upE, Nat.reduceEqDiff, reduceIte, Nat.reduceMul, Nat.reduceAdd, Nat.reduceSub, Nat.reduceLT, Nat.reduceLeDiff, true_and, and_true, not_true, not_false_iff, or_true, true_or, eq_self] at hq) <;> (try (exfalso; omega))) | ((with_reducible refine br2 (fun hq => ?_) (fun hq => ?_)) <;> (try simp (disch := omega) only [nI_lit, nI_m1, nI_add, pk_mul, ni_sub, ii_sub, ii_add, ii_addL, ii_addR, ii_subL, ii_subR, ii_neg, ii_nneg, ii_mul, ii_mulL, ii_mulR, ni_div, ni_rem, ni_le, ni_lt, ni_eq, ii_le, ii_lt, ii_eq, ii_leL, ii_leR, ii_ltL, ii_ltR, ii_eqL, ii_eqR, ni_cl, vq_in, xq_si, xq_si2, xq_si3, xq_sa, xq_sa2, xq_sa3, xq_sl, xq_sl2, xq_sl3, xq_di, xq_da, xq_dl, mq_si, mq_si2, mq_si3, mq_si4, mq_sa, mq_sa2, mq_sa3, mq_sa4, mq_sl, mq_sl2, mq_sl3, mq_sl4, va_upE, Nat.reduceEqDiff, reduceIte, Nat.reduceMul, Nat.reduceAdd, Nat.reduceSub, Nat.reduceLT, Nat.reduceLeDiff, true_and, and_true, not_true, not_false_iff, or_true, true_or, eq_self] at hq) <;> (try (exfalso; omega))) | ((with_reducible intro uu ue); subst ue) | (unfold X_LN_notePairs_122))
    · exact fin (by omega) 0 (by unfold vp_in; decide) z0
    · exact fin (by omega) 0 (by unfold vp_in; decide) z0
    · have c00 := c00 (by omega) (by omega)
      have c11 := c11 (by omega) (by omega)
      have c10 := c10 (by omega) (by omega)
      refine sx_cp (by omega) v101 vB hn (by omega) (by omega) c11 (by omega) ?_
      have ew : (B i % 256 - B (n + j) % 256).natAbs = lnw B n m (n - (i + 1)) (m - (j + 1)) := by
        unfold lnw
        rw [show n - 1 - (n - (i + 1)) = i by omega, show m - 1 - (m - (j + 1)) = j by omega]
      rw [ew]
      have wle : lnw B n m (n - (i + 1)) (m - (j + 1)) ≤ 255 := by rw [← ew]; omega
      have d00 := dle (n - i) (m - j)
      have d11 := dle (n - (i + 1)) (m - (j + 1))
      have d10 := dle (n - (i + 1)) (m - j)
      have o1 : n - i - 1 = n - (i + 1) := by omega
      have o2 : m - j - 1 = m - (j + 1) := by omega
      have hs : ∀ q, i ≤ q → q < n → ∃ F, d ≤ F + 1 ∧ lnW g (lnw B n m) n m (n + m) n m q = (if lnD g (lnw B n m) (n - i) (m - j) = lnw B n m (n - (i + 1)) (m - (j + 1)) + lnD g (lnw B n m) (n - (i + 1)) (m - (j + 1)) then (if q = i then (j : Int) else lnW g (lnw B n m) n m F (n - (i + 1)) (m - (j + 1)) q) else if lnD g (lnw B n m) (n - i) (m - j) = lnD g (lnw B n m) (n - (i + 1)) (m - j) + g then lnW g (lnw B n m) n m F (n - (i + 1)) (m - j) q else lnW g (lnw B n m) n m F (n - i) (m - (j + 1)) q) := by
        intro q hq1 hq2
        obtain ⟨-, F, hF, p2⟩ := hhi q hq1 hq2
        cases F with
        | zero => omega
        | succ F =>
          refine ⟨F, hF, ?_⟩
          rw [p2, lnW, if_neg (by omega), o1, o2, show n - (n - i) = i by omega, show m - (m - j) = j by omega]
      repeat' (first | (with_reducible refine And.intro n20 ?_) | (with_reducible refine And.intro n010 ?_) | (with_reducible refine And.intro n011 ?_) | ((with_reducible refine vq_and ?_ ?_); · (simp (disch := omega) only [nI_lit, nI_m1, nI_add, pk_mul, ni_sub, ii_sub, ii_add, ii_addL, ii_addR, ii_subL, ii_subR, ii_neg, ii_nneg, ii_mul, ii_mulL, ii_mulR, ni_div, ni_rem, ni_le, ni_lt, ni_eq, ii_le, ii_lt, ii_eq, ii_leL, ii_leR, ii_ltL, ii_ltR, ii_eqL, ii_eqR, ni_cl, vq_in, xq_si, xq_si2, xq_si3, xq_sa, xq_sa2, xq_sa3, xq_sl, xq_sl2, xq_sl3, xq_di, xq_da, xq_dl, mq_si, mq_si2, mq_si3, mq_si4, mq_sa, mq_sa2, mq_sa3, mq_sa4, mq_sl, mq_sl2, mq_sl3, mq_sl4, va_upE, Nat.reduceEqDiff, reduceIte, Nat.reduceMul, Nat.reduceAdd, Nat.reduceSub, Nat.reduceLT, Nat.reduceLeDiff, true_and, and_true, not_true, not_false_iff, or_true, true_or, eq_self, e49, e49', c00, c10])) | ((with_reducible refine br1 (fun hq => ?_) (fun hq => ?_)) <;> (try simp (disch := omega) only [nI_lit, nI_m1, nI_add, pk_mul, ni_sub, ii_sub, ii_add, ii_addL, ii_addR, ii_subL, ii_subR, ii_neg, ii_nneg, ii_mul, ii_mulL, ii_mulR, ni_div, ni_rem, ni_le, ni_lt, ni_eq, ii_le, ii_lt, ii_eq, ii_leL, ii_leR, ii_ltL, ii_ltR, ii_eqL, ii_eqR, ni_cl, vq_in, xq_si, xq_si2, xq_si3, xq_sa, xq_sa2, xq_sa3, xq_sl, xq_sl2, xq_sl3, xq_di, xq_da, xq_dl, mq_si, mq_si2, mq_si3, mq_si4, mq_sa, mq_sa2, mq_sa3, mq_sa4, mq_sl, mq_sl2, mq_sl3, mq_sl4, va_upE, Nat.reduceEqDiff, reduceIte, Nat.reduceMul, Nat.reduceAdd, Nat.reduceSub, Nat.reduceLT, Nat.reduceLeDiff, true_and, and_true, not_true, not_false_iff, or_true, true_or, eq_self, e49, e49', c00, c10] at hq) <;> (try (exfalso; omega))) | ((with_reducible refine br2 (fun hq => ?_) (fun hq => ?_)) <;> (try simp (disch := omega) only [nI_lit, nI_m1, nI_add, pk_mul, ni_sub, ii_sub, ii_add, ii_addL, ii_addR, ii_subL, ii_subR, ii_neg, ii_nneg, ii_mul, ii_mulL, ii_mulR, ni_div, ni_rem, ni_le, ni_lt, ni_eq, ii_le, ii_lt, ii_eq, ii_leL, ii_leR, ii_ltL, ii_ltR, ii_eqL, ii_eqR, ni_cl, vq_in, xq_si, xq_si2, xq_si3, xq_sa, xq_sa2, xq_sa3, xq_sl, xq_sl2, xq_sl3, xq_di, xq_da, xq_dl, mq_si, mq_si2, mq_si3, mq_si4, mq_sa, mq_sa2, mq_sa3, mq_sa4, mq_sl, mq_sl2, mq_sl3, mq_sl4, va_upE, Nat.reduceEqDiff, reduceIte, Nat.reduceMul, Nat.reduceAdd, Nat.reduceSub, Nat.reduceLT, Nat.reduceLeDiff, true_and, and_true, not_true, not_false_iff, or_true, true_or, eq_self, e49, e49', c00, c10] at hq) <;> (try (exfalso; omega))) | ((with_reducible intro uu ue); subst ue) | (unfold X_LN_notePairs_119))
      · simp (disch := omega) only [nI_lit, nI_m1, nI_add, pk_mul, ni_sub, ii_sub, ii_add, ii_addL, ii_addR, ii_subL, ii_subR, ii_neg, ii_nneg, ii_mul, ii_mulL, ii_mulR, ni_div, ni_rem, ni_le, ni_lt, ni_eq, ii_le, ii_lt, ii_eq, ii_leL, ii_leR, ii_ltL, ii_ltR, ii_eqL, ii_eqR, ni_cl, vq_in, xq_si, xq_si2, xq_si3, xq_sa, xq_sa2, xq_sa3, xq_sl, xq_sl2, xq_sl3, xq_di, xq_da, xq_dl, mq_si, mq_si2, mq_si3, mq_si4, mq_sa, mq_sa2, mq_sa3, mq_sa4, mq_sl, mq_sl2, mq_sl3, mq_sl4, va_upE, Nat.reduceEqDiff, reduceIte, Nat.reduceMul, Nat.reduceAdd, Nat.reduceSub, Nat.reduceLT, Nat.reduceLeDiff, true_and, and_true, not_true, not_false_iff, or_true, true_or, eq_self]
        refine ih (d - 1) _ _ _ _ _ _ (by omega) ⟨hfv, v901, rfl, rfl, rfl, vcell, i, j + 1, rfl, rfl, by omega, by omega, by omega, hlo, fun q hq1 hq2 => ⟨(hhi q hq1 hq2).1, ?_⟩⟩
        obtain ⟨F, hF, p2⟩ := hs q hq1 hq2
        exact ⟨F, by omega, by rw [p2, if_neg (by omega), if_neg (by omega)]⟩
      · simp (disch := omega) only [nI_lit, nI_m1, nI_add, pk_mul, ni_sub, ii_sub, ii_add, ii_addL, ii_addR, ii_subL, ii_subR, ii_neg, ii_nneg, ii_mul, ii_mulL, ii_mulR, ni_div, ni_rem, ni_le, ni_lt, ni_eq, ii_le, ii_lt, ii_eq, ii_leL, ii_leR, ii_ltL, ii_ltR, ii_eqL, ii_eqR, ni_cl, vq_in, xq_si, xq_si2, xq_si3, xq_sa, xq_sa2, xq_sa3, xq_sl, xq_sl2, xq_sl3, xq_di, xq_da, xq_dl, mq_si, mq_si2, mq_si3, mq_si4, mq_sa, mq_sa2, mq_sa3, mq_sa4, mq_sl, mq_sl2, mq_sl3, mq_sl4, va_upE, Nat.reduceEqDiff, reduceIte, Nat.reduceMul, Nat.reduceAdd, Nat.reduceSub, Nat.reduceLT, Nat.reduceLeDiff, true_and, and_true, not_true, not_false_iff, or_true, true_or, eq_self]
        refine ih (d - 1) _ _ _ _ _ _ (by omega) ⟨hfv, v901, rfl, rfl, rfl, vcell, i + 1, j, rfl, rfl, by omega, by omega, by omega, fun q hq => ?_, fun q hq1 hq2 => ⟨(hhi q (by omega) hq2).1, ?_⟩⟩
        · rcases Nat.lt_or_ge q i with h4 | h4
          · exact hlo q h4
          · have : q = i := by omega
            subst this
            obtain ⟨F, hF, p2⟩ := hs q (Nat.le_refl _) (by omega)
            rw [p2, if_neg (by omega), if_pos (by omega), (hhi q (Nat.le_refl _) (by omega)).1, lnW_lo _ _ _ _ (by omega) (by omega)]
        · obtain ⟨F, hF, p2⟩ := hs q (by omega) hq2
          exact ⟨F, by omega, by rw [p2, if_neg (by omega), if_pos (by omega)]⟩
      · simp (disch := omega) only [nI_lit, nI_m1, nI_add, pk_mul, ni_sub, ii_sub, ii_add, ii_addL, ii_addR, ii_subL, ii_subR, ii_neg, ii_nneg, ii_mul, ii_mulL, ii_mulR, ni_div, ni_rem, ni_le, ni_lt, ni_eq, ii_le, ii_lt, ii_eq, ii_leL, ii_leR, ii_ltL, ii_ltR, ii_eqL, ii_eqR, ni_cl, vq_in, xq_si, xq_si2, xq_si3, xq_sa, xq_sa2, xq_sa3, xq_sl, xq_sl2, xq_sl3, xq_di, xq_da, xq_dl, mq_si, mq_si2, mq_si3, mq_si4, mq_sa, mq_sa2, mq_sa3, mq_sa4, mq_sl, mq_sl2, mq_sl3, mq_sl4, va_upE, Nat.reduceEqDiff, reduceIte, Nat.reduceMul, Nat.reduceAdd, Nat.reduceSub, Nat.reduceLT, Nat.reduceLeDiff, true_and, and_true, not_true, not_false_iff, or_true, true_or, eq_self]
        refine ih (d - 2) _ _ _ _ _ _ (by omega) ⟨xf_a (by decide) hfv, v901, rfl, rfl, rfl, vcell, i + 1, j + 1, rfl, rfl, by omega, by omega, by omega, fun q hq => ?_, fun q hq1 hq2 => ⟨?_, ?_⟩⟩
        · simp (disch := omega) only [nI_lit, nI_m1, nI_add, pk_mul, ni_sub, ii_sub, ii_add, ii_addL, ii_addR, ii_subL, ii_subR, ii_neg, ii_nneg, ii_mul, ii_mulL, ii_mulR, ni_div, ni_rem, ni_le, ni_lt, ni_eq, ii_le, ii_lt, ii_eq, ii_leL, ii_leR, ii_ltL, ii_ltR, ii_eqL, ii_eqR, ni_cl, vq_in, xq_si, xq_si2, xq_si3, xq_sa, xq_sa2, xq_sa3, xq_sl, xq_sl2, xq_sl3, xq_di, xq_da, xq_dl, mq_si, mq_si2, mq_si3, mq_si4, mq_sa, mq_sa2, mq_sa3, mq_sa4, mq_sl, mq_sl2, mq_sl3, mq_sl4, va_upE, Nat.reduceEqDiff, reduceIte, Nat.reduceMul, Nat.reduceAdd, Nat.reduceSub, Nat.reduceLT, Nat.reduceLeDiff, true_and, and_true, not_true, not_false_iff, or_true, true_or, eq_self]
          rcases Nat.lt_or_ge q i with h4 | h4
          · rw [pk_un (by omega)]; exact hlo q h4
          · have : q = i := by omega
            subst this
            obtain ⟨F, hF, p2⟩ := hs q (Nat.le_refl _) (by omega)
            rw [pk_us, p2, if_pos (by omega), if_pos rfl]; rfl
        · simp (disch := omega) only [nI_lit, nI_m1, nI_add, pk_mul, ni_sub, ii_sub, ii_add, ii_addL, ii_addR, ii_subL, ii_subR, ii_neg, ii_nneg, ii_mul, ii_mulL, ii_mulR, ni_div, ni_rem, ni_le, ni_lt, ni_eq, ii_le, ii_lt, ii_eq, ii_leL, ii_leR, ii_ltL, ii_ltR, ii_eqL, ii_eqR, ni_cl, vq_in, xq_si, xq_si2, xq_si3, xq_sa, xq_sa2, xq_sa3, xq_sl, xq_sl2, xq_sl3, xq_di, xq_da, xq_dl, mq_si, mq_si2, mq_si3, mq_si4, mq_sa, mq_sa2, mq_sa3, mq_sa4, mq_sl, mq_sl2, mq_sl3, mq_sl4, va_upE, Nat.reduceEqDiff, reduceIte, Nat.reduceMul, Nat.reduceAdd, Nat.reduceSub, Nat.reduceLT, Nat.reduceLeDiff, true_and, and_true, not_true, not_false_iff, or_true, true_or, eq_self]
          rw [pk_un (by omega)]; exact (hhi q (by omega) hq2).1
        · obtain ⟨F, hF, p2⟩ := hs q (by omega) hq2
          exact ⟨F, by omega, by rw [p2, if_pos (by omega), if_neg (by omega)]⟩
  | succ d =>
    rw [dn_s]
    repeat' (first | (with_reducible refine And.intro n20 ?_) | (with_reducible refine And.intro n010 ?_) | (with_reducible refine And.intro n011 ?_) | ((with_reducible refine vq_and ?_ ?_); · (simp (disch := omega) only [nI_lit, nI_m1, nI_add, pk_mul, ni_sub, ii_sub, ii_add, ii_addL, ii_addR, ii_subL, ii_subR, ii_neg, ii_nneg, ii_mul, ii_mulL, ii_mulR, ni_div, ni_rem, ni_le, ni_lt, ni_eq, ii_le, ii_lt, ii_eq, ii_leL, ii_leR, ii_ltL, ii_ltR, ii_eqL, ii_eqR, ni_cl, vq_in, xq_si, xq_si2, xq_si3, xq_sa, xq_sa2, xq_sa3, xq_sl, xq_sl2, xq_sl3, xq_di, xq_da, xq_dl, mq_si, mq_si2, mq_si3, mq_si4, mq_sa, mq_sa2, mq_sa3, mq_sa4, mq_sl, mq_sl2, mq_sl3, mq_sl4, va_upE, Nat.reduceEqDiff, reduceIte, Nat.reduceMul, Nat.reduceAdd, Nat.reduceSub, Nat.reduceLT, Nat.reduceLeDiff, true_and, and_true, not_true, not_false_iff, or_true, true_or, eq_self])) | ((with_reducible refine br1 (fun hq => ?_) (fun hq => ?_)) <;> (try simp (disch := omega) only [nI_lit, nI_m1, nI_add, pk_mul, ni_sub, ii_sub, ii_add, ii_addL, ii_addR, ii_subL, ii_subR, ii_neg, ii_nneg, ii_mul, ii_mulL, ii_mulR, ni_div, ni_rem, ni_le, ni_lt, ni_eq, ii_le, ii_lt, ii_eq, ii_leL, ii_leR, ii_ltL, ii_ltR, ii_eqL, ii_eqR, ni_cl, vq_in, xq_si, xq_si2, xq_si3, xq_sa, xq_sa2, xq_sa3, xq_sl, xq_sl2, xq_sl3, xq_di, xq_da, xq_dl, mq_si, mq_si2, mq_si3, mq_si4, mq_sa, mq_sa2, mq_sa3, mq_sa4, mq_sl, mq_sl2, mq_sl3, mq_sl4, va_upE, Nat.reduceEqDiff, reduceIte, Nat.reduceMul, Nat.reduceAdd, Nat.reduceSub, Nat.reduceLT, Nat.reduceLeDiff, true_and, and_true, not_true, not_false_iff, or_true, true_or, eq_self] at hq) <;> (try (exfalso; omega))) | ((with_reducible refine br2 (fun hq => ?_) (fun hq => ?_)) <;> (try simp (disch := omega) only [nI_lit, nI_m1, nI_add, pk_mul, ni_sub, ii_sub, ii_add, ii_addL, ii_addR, ii_subL, ii_subR, ii_neg, ii_nneg, ii_mul, ii_mulL, ii_mulR, ni_div, ni_rem, ni_le, ni_lt, ni_eq, ii_le, ii_lt, ii_eq, ii_leL, ii_leR, ii_ltL, ii_ltR, ii_eqL, ii_eqR, ni_cl, vq_in, xq_si, xq_si2, xq_si3, xq_sa, xq_sa2, xq_sa3, xq_sl, xq_sl2, xq_sl3, xq_di, xq_da, xq_dl, mq_si, mq_si2, mq_si3, mq_si4, mq_sa, mq_sa2, mq_sa3, mq_sa4, mq_sl, mq_sl2, mq_sl3, mq_sl4, va_upE, Nat.reduceEqDiff, reduceIte, Nat.reduceMul, Nat.reduceAdd, Nat.reduceSub, Nat.reduceLT, Nat.reduceLeDiff, true_and, and_true, not_true, not_false_iff, or_true, true_or, eq_self] at hq) <;> (try (exfalso; omega))) | ((with_reducible intro uu ue); subst ue))
    refine lqe6 (F := X_LN_leastCost_34_lp K k) (G := X_LN_leastCost_34 K k) (fun _ _ _ _ _ _ _ => rfl) (fun e a2 a3 a4 a5 a6 v => xf [] [902] [] x v ∧ a2 = nI n ∧ a3 = nI g ∧ a4 = nI m ∧ a5 = nI d ∧ a6 = dn e ∧ e ≤ m + 1 ∧ (∀ i, d + 1 ≤ i → i ≤ n → ∀ j, j ≤ m → lnC (xa v 902) g (lnw B n m) n m i j) ∧ ∀ j, e ≤ j → j ≤ m → lnC (xa v 902) g (lnw B n m) n m d j) ?_ (m + 1) _ _ _ _ _ _ ⟨hf, rfl, rfl, rfl, rfl, (dn_s m).symm, Nat.le_refl _, hcell, fun j h2 h3 => by omega⟩
    rintro k2 e a2 a3 a4 a5 a6 v ⟨hfv, rfl, rfl, rfl, rfl, rfl, he, hup, hrow⟩ ih2
    have v101 : xi v 101 = nI (n + m) := (hfv.1 101 (by decide)).trans h1
    have vB : tB (xa v 100) (n + m) B := by rw [hfv.2.1 100 (by decide)]; exact hB
    unfold X_LN_leastCost_34
    cases e with
    | zero =>
      rw [dn_0]
      repeat' (first | (with_reducible refine And.intro n20 ?_) | (with_reducible refine And.intro n010 ?_) | (with_reducible refine And.intro n011 ?_) | ((with_reducible refine vq_and ?_ ?_); · (simp (disch := omega) only [nI_lit, nI_m1, nI_add, pk_mul, ni_sub, ii_sub, ii_add, ii_addL, ii_addR, ii_subL, ii_subR, ii_neg, ii_nneg, ii_mul, ii_mulL, ii_mulR, ni_div, ni_rem, ni_le, ni_lt, ni_eq, ii_le, ii_lt, ii_eq, ii_leL, ii_leR, ii_ltL, ii_ltR, ii_eqL, ii_eqR, ni_cl, vq_in, xq_si, xq_si2, xq_si3, xq_sa, xq_sa2, xq_sa3, xq_sl, xq_sl2, xq_sl3, xq_di, xq_da, xq_dl, mq_si, mq_si2, mq_si3, mq_si4, mq_sa, mq_sa2, mq_sa3, mq_sa4, mq_sl, mq_sl2, mq_sl3, mq_sl4, va_upE, Nat.reduceEqDiff, reduceIte, Nat.reduceMul, Nat.reduceAdd, Nat.reduceSub, Nat.reduceLT, Nat.reduceLeDiff, true_and, and_true, not_true, not_false_iff, or_true, true_or, eq_self])) | ((with_reducible refine br1 (fun hq => ?_) (fun hq => ?_)) <;> (try simp (disch := omega) only [nI_lit, nI_m1, nI_add, pk_mul, ni_sub, ii_sub, ii_add, ii_addL, ii_addR, ii_subL, ii_subR, ii_neg, ii_nneg, ii_mul, ii_mulL, ii_mulR, ni_div, ni_rem, ni_le, ni_lt, ni_eq, ii_le, ii_lt, ii_eq, ii_leL, ii_leR, ii_ltL, ii_ltR, ii_eqL, ii_eqR, ni_cl, vq_in, xq_si, xq_si2, xq_si3, xq_sa, xq_sa2, xq_sa3, xq_sl, xq_sl2, xq_sl3, xq_di, xq_da, xq_dl, mq_si, mq_si2, mq_si3, mq_si4, mq_sa, mq_sa2, mq_sa3, mq_sa4, mq_sl, mq_sl2, mq_sl3, mq_sl4, va_upE, Nat.reduceEqDiff, reduceIte, Nat.reduceMul, Nat.reduceAdd, Nat.reduceSub, Nat.reduceLT, Nat.reduceLeDiff, true_and, and_true, not_true, not_false_iff, or_true, true_or, eq_self] at hq) <;> (try (exfalso; omega))) | ((with_reducible refine br2 (fun hq => ?_) (fun hq => ?_)) <;> (try simp (disch := omega) only [nI_lit, nI_m1, nI_add, pk_mul, ni_sub, ii_sub, ii_add, ii_addL, ii_addR, ii_subL, ii_subR, ii_neg, ii_nneg, ii_mul, ii_mulL, ii_mulR, ni_div, ni_rem, ni_le, ni_lt, ni_eq, ii_le, ii_lt, ii_eq, ii_leL, ii_leR, ii_ltL, ii_ltR, ii_eqL, ii_eqR, ni_cl, vq_in, xq_si, xq_si2, xq_si3, xq_sa, xq_sa2, xq_sa3, xq_sl, xq_sl2, xq_sl3, xq_di, xq_da, xq_dl, mq_si, mq_si2, mq_si3, mq_si4, mq_sa, mq_sa2, mq_sa3, mq_sa4, mq_sl, mq_sl2, mq_sl3, mq_sl4, va_upE, Nat.reduceEqDiff, reduceIte, Nat.reduceMul, Nat.reduceAdd, Nat.reduceSub, Nat.reduceLT, Nat.reduceLeDiff, true_and, and_true, not_true, not_false_iff, or_true, true_or, eq_self] at hq) <;> (try (exfalso; omega))) | ((with_reducible intro uu ue); subst ue))
      rw [dn_m]
      exact ih d _ _ _ _ _ (by omega) ⟨hfv, rfl, rfl, rfl, rfl, by omega, fun i h2 h3 j hj => by
        rcases Nat.lt_or_ge d i with h4 | h4
        · exact hup i (by omega) h3 j hj
        · have : i = d := by omega
          subst this; exact hrow j (Nat.zero_le _) hj⟩
    | succ e =>
      rw [dn_s]
      repeat' (first | (with_reducible refine And.intro n20 ?_) | (with_reducible refine And.intro n010 ?_) | (with_reducible refine And.intro n011 ?_) | ((with_reducible refine vq_and ?_ ?_); · (simp (disch := omega) only [nI_lit, nI_m1, nI_add, pk_mul, ni_sub, ii_sub, ii_add, ii_addL, ii_addR, ii_subL, ii_subR, ii_neg, ii_nneg, ii_mul, ii_mulL, ii_mulR, ni_div, ni_rem, ni_le, ni_lt, ni_eq, ii_le, ii_lt, ii_eq, ii_leL, ii_leR, ii_ltL, ii_ltR, ii_eqL, ii_eqR, ni_cl, vq_in, xq_si, xq_si2, xq_si3, xq_sa, xq_sa2, xq_sa3, xq_sl, xq_sl2, xq_sl3, xq_di, xq_da, xq_dl, mq_si, mq_si2, mq_si3, mq_si4, mq_sa, mq_sa2, mq_sa3, mq_sa4, mq_sl, mq_sl2, mq_sl3, mq_sl4, va_upE, Nat.reduceEqDiff, reduceIte, Nat.reduceMul, Nat.reduceAdd, Nat.reduceSub, Nat.reduceLT, Nat.reduceLeDiff, true_and, and_true, not_true, not_false_iff, or_true, true_or, eq_self])) | ((with_reducible refine br1 (fun hq => ?_) (fun hq => ?_)) <;> (try simp (disch := omega) only [nI_lit, nI_m1, nI_add, pk_mul, ni_sub, ii_sub, ii_add, ii_addL, ii_addR, ii_subL, ii_subR, ii_neg, ii_nneg, ii_mul, ii_mulL, ii_mulR, ni_div, ni_rem, ni_le, ni_lt, ni_eq, ii_le, ii_lt, ii_eq, ii_leL, ii_leR, ii_ltL, ii_ltR, ii_eqL, ii_eqR, ni_cl, vq_in, xq_si, xq_si2, xq_si3, xq_sa, xq_sa2, xq_sa3, xq_sl, xq_sl2, xq_sl3, xq_di, xq_da, xq_dl, mq_si, mq_si2, mq_si3, mq_si4, mq_sa, mq_sa2, mq_sa3, mq_sa4, mq_sl, mq_sl2, mq_sl3, mq_sl4, va_upE, Nat.reduceEqDiff, reduceIte, Nat.reduceMul, Nat.reduceAdd, Nat.reduceSub, Nat.reduceLT, Nat.reduceLeDiff, true_and, and_true, not_true, not_false_iff, or_true, true_or, eq_self] at hq) <;> (try (exfalso; omega))) | ((with_reducible refine br2 (fun hq => ?_) (fun hq => ?_)) <;> (try simp (disch := omega) only [nI_lit, nI_m1, nI_add, pk_mul, ni_sub, ii_sub, ii_add, ii_addL, ii_addR, ii_subL, ii_subR, ii_neg, ii_nneg, ii_mul, ii_mulL, ii_mulR, ni_div, ni_rem, ni_le, ni_lt, ni_eq, ii_le, ii_lt, ii_eq, ii_leL, ii_leR, ii_ltL, ii_ltR, ii_eqL, ii_eqR, ni_cl, vq_in, xq_si, xq_si2, xq_si3, xq_sa, xq_sa2, xq_sa3, xq_sl, xq_sl2, xq_sl3, xq_di, xq_da, xq_dl, mq_si, mq_si2, mq_si3, mq_si4, mq_sa, mq_sa2, mq_sa3, mq_sa4, mq_sl, mq_sl2, mq_sl3, mq_sl4, va_upE, Nat.reduceEqDiff, reduceIte, Nat.reduceMul, Nat.reduceAdd, Nat.reduceSub, Nat.reduceLT, Nat.reduceLeDiff, true_and, and_true, not_true, not_false_iff, or_true, true_or, eq_self] at hq) <;> (try (exfalso; omega))) | ((with_reducible intro uu ue); subst ue))
      have dle := lnD_le hg (lnw B n m)
      have step : ∀ c, c = lnD g (lnw B n m) (n - d) (m - e) → ((vp_in ((nI d * (49 : Int32)) + nI e) 2401 ∧ ∀ u_4 : xs_St, u_4 = xs_sa v 902 (upd (xa v 902) (((nI d * (49 : Int32)) + nI e)).toNatClampNeg (nI c)) → ∀ x6_5 : Int32, x6_5 = nI e + (-1 : Int32) → k2 (nI n) (nI g) (nI m) (nI d) x6_5 u_4)) := by
        intro c hc
        have e49 : d * 49 + e = 49 * d + e := by omega
        refine ⟨by simp (disch := omega) only [nI_lit, nI_m1, nI_add, pk_mul, ni_sub, ii_sub, ii_add, ii_addL, ii_addR, ii_subL, ii_subR, ii_neg, ii_nneg, ii_mul, ii_mulL, ii_mulR, ni_div, ni_rem, ni_le, ni_lt, ni_eq, ii_le, ii_lt, ii_eq, ii_leL, ii_leR, ii_ltL, ii_ltR, ii_eqL, ii_eqR, ni_cl, vq_in, xq_si, xq_si2, xq_si3, xq_sa, xq_sa2, xq_sa3, xq_sl, xq_sl2, xq_sl3, xq_di, xq_da, xq_dl, mq_si, mq_si2, mq_si3, mq_si4, mq_sa, mq_sa2, mq_sa3, mq_sa4, mq_sl, mq_sl2, mq_sl3, mq_sl4, va_upE, Nat.reduceEqDiff, reduceIte, Nat.reduceMul, Nat.reduceAdd, Nat.reduceSub, Nat.reduceLT, Nat.reduceLeDiff, true_and, and_true, not_true, not_false_iff, or_true, true_or, eq_self], fun u4 e4 x6 e6 => ?_⟩
        subst e4; subst e6
        rw [dn_m]
        simp (disch := omega) only [nI_lit, nI_m1, nI_add, pk_mul, ni_sub, ii_sub, ii_add, ii_addL, ii_addR, ii_subL, ii_subR, ii_neg, ii_nneg, ii_mul, ii_mulL, ii_mulR, ni_div, ni_rem, ni_le, ni_lt, ni_eq, ii_le, ii_lt, ii_eq, ii_leL, ii_leR, ii_ltL, ii_ltR, ii_eqL, ii_eqR, ni_cl, vq_in, xq_si, xq_si2, xq_si3, xq_sa, xq_sa2, xq_sa3, xq_sl, xq_sl2, xq_sl3, xq_di, xq_da, xq_dl, mq_si, mq_si2, mq_si3, mq_si4, mq_sa, mq_sa2, mq_sa3, mq_sa4, mq_sl, mq_sl2, mq_sl3, mq_sl4, va_upE, Nat.reduceEqDiff, reduceIte, Nat.reduceMul, Nat.reduceAdd, Nat.reduceSub, Nat.reduceLT, Nat.reduceLeDiff, true_and, and_true, not_true, not_false_iff, or_true, true_or, eq_self, e49]
        refine ih2 e _ _ _ _ _ _ (by omega) ⟨xf_a (by decide) hfv, rfl, rfl, rfl, rfl, rfl, by omega, fun i h2 h3 j hj => ?_, fun j h2 h3 => ?_⟩
        · unfold lnC
          simp (disch := omega) only [nI_lit, nI_m1, nI_add, pk_mul, ni_sub, ii_sub, ii_add, ii_addL, ii_addR, ii_subL, ii_subR, ii_neg, ii_nneg, ii_mul, ii_mulL, ii_mulR, ni_div, ni_rem, ni_le, ni_lt, ni_eq, ii_le, ii_lt, ii_eq, ii_leL, ii_leR, ii_ltL, ii_ltR, ii_eqL, ii_eqR, ni_cl, vq_in, xq_si, xq_si2, xq_si3, xq_sa, xq_sa2, xq_sa3, xq_sl, xq_sl2, xq_sl3, xq_di, xq_da, xq_dl, mq_si, mq_si2, mq_si3, mq_si4, mq_sa, mq_sa2, mq_sa3, mq_sa4, mq_sl, mq_sl2, mq_sl3, mq_sl4, va_upE, Nat.reduceEqDiff, reduceIte, Nat.reduceMul, Nat.reduceAdd, Nat.reduceSub, Nat.reduceLT, Nat.reduceLeDiff, true_and, and_true, not_true, not_false_iff, or_true, true_or, eq_self]
          rw [pk_un (by omega)]
          exact hup i h2 h3 j hj
        · unfold lnC
          simp (disch := omega) only [nI_lit, nI_m1, nI_add, pk_mul, ni_sub, ii_sub, ii_add, ii_addL, ii_addR, ii_subL, ii_subR, ii_neg, ii_nneg, ii_mul, ii_mulL, ii_mulR, ni_div, ni_rem, ni_le, ni_lt, ni_eq, ii_le, ii_lt, ii_eq, ii_leL, ii_leR, ii_ltL, ii_ltR, ii_eqL, ii_eqR, ni_cl, vq_in, xq_si, xq_si2, xq_si3, xq_sa, xq_sa2, xq_sa3, xq_sl, xq_sl2, xq_sl3, xq_di, xq_da, xq_dl, mq_si, mq_si2, mq_si3, mq_si4, mq_sa, mq_sa2, mq_sa3, mq_sa4, mq_sl, mq_sl2, mq_sl3, mq_sl4, va_upE, Nat.reduceEqDiff, reduceIte, Nat.reduceMul, Nat.reduceAdd, Nat.reduceSub, Nat.reduceLT, Nat.reduceLeDiff, true_and, and_true, not_true, not_false_iff, or_true, true_or, eq_self]
          by_cases hje : j = e
          · subst hje
            rw [pk_us, hc]
          · rw [pk_un (by omega)]
            exact hrow j (by omega) h3
      unfold X_LN_costFrom
      have c10 := fun (h1 : d < n) (h2 : e < m) => hup (d + 1) (by omega) (by omega) e (by omega)
      have c11 := fun (h1 : d < n) (h2 : e < m) => hup (d + 1) (by omega) (by omega) (e + 1) (by omega)
      have c01 := fun (h1 : d < n) (h2 : e < m) => hrow (e + 1) (by omega) (by omega)
      unfold lnC at c10 c11 c01
      have e10 : (d + 1) * 49 + e = 49 * (d + 1) + e := by omega
      have e01 : d * 49 + e + 1 = 49 * d + (e + 1) := by omega
      intro y1 ey1
      rw [v101, pk_sub (by omega), em] at ey1
      subst ey1
      repeat' (first | (with_reducible refine And.intro n20 ?_) | (with_reducible refine And.intro n010 ?_) | (with_reducible refine And.intro n011 ?_) | ((with_reducible refine vq_and ?_ ?_); · (simp (disch := omega) only [nI_lit, nI_m1, nI_add, pk_mul, ni_sub, ii_sub, ii_add, ii_addL, ii_addR, ii_subL, ii_subR, ii_neg, ii_nneg, ii_mul, ii_mulL, ii_mulR, ni_div, ni_rem, ni_le, ni_lt, ni_eq, ii_le, ii_lt, ii_eq, ii_leL, ii_leR, ii_ltL, ii_ltR, ii_eqL, ii_eqR, ni_cl, vq_in, xq_si, xq_si2, xq_si3, xq_sa, xq_sa2, xq_sa3, xq_sl, xq_sl2, xq_sl3, xq_di, xq_da, xq_dl, mq_si, mq_si2, mq_si3, mq_si4, mq_sa, mq_sa2, mq_sa3, mq_sa4, mq_sl, mq_sl2, mq_sl3, mq_sl4, va_upE, Nat.reduceEqDiff, reduceIte, Nat.reduceMul, Nat.reduceAdd, Nat.reduceSub, Nat.reduceLT, Nat.reduceLeDiff, true_and, and_true, not_true, not_false_iff, or_true, true_or, eq_self])) | ((with_reducible refine br1 (fun hq => ?_) (fun hq => ?_)) <;> (try simp (disch := omega) only [nI_lit, nI_m1, nI_add, pk_mul, ni_sub, ii_sub, ii_add, ii_addL, ii_addR, ii_subL, ii_subR, ii_neg, ii_nneg, ii_mul, ii_mulL, ii_mulR, ni_div, ni_rem, ni_le, ni_lt, ni_eq, ii_le, ii_lt, ii_eq, ii_leL, ii_leR, ii_ltL, ii_ltR, ii_eqL, ii_eqR, ni_cl, vq_in, xq_si, xq_si2, xq_si3, xq_sa, xq_sa2, xq_sa3, xq_sl, xq_sl2, xq_sl3, xq_di, xq_da, xq_dl, mq_si, mq_si2, mq_si3, mq_si4, mq_sa, mq_sa2, mq_sa3, mq_sa4, mq_sl, mq_sl2, mq_sl3, mq_sl4, va_upE, Nat.reduceEqDiff, reduceIte, Nat.reduceMul, Nat.reduceAdd, Nat.reduceSub, Nat.reduceLT, Nat.reduceLeDiff, true_and, and_true, not_true, not_false_iff, or_true, true_or, eq_self] at hq) <;> (try (exfalso; omega))) | ((with_reducible refine br2 (fun hq => ?_) (fun hq => ?_)) <;> (try simp (disch := omega) only [nI_lit, nI_m1, nI_add, pk_mul, ni_sub, ii_sub, ii_add, ii_addL, ii_addR, ii_subL, ii_subR, ii_neg, ii_nneg, ii_mul, ii_mulL, ii_mulR, ni_div, ni_rem, ni_le, ni_lt, ni_eq, ii_le, ii_lt, ii_eq, ii_leL, ii_leR, ii_ltL, ii_ltR, ii_eqL, ii_eqR, ni_cl, vq_in, xq_si, xq_si2, xq_si3, xq_sa, xq_sa2, xq_sa3, xq_sl, xq_sl2, xq_sl3, xq_di, xq_da, xq_dl, mq_si, mq_si2, mq_si3, mq_si4, mq_sa, mq_sa2, mq_sa3, mq_sa4, mq_sl, mq_sl2, mq_sl3, mq_sl4, va_upE, Nat.reduceEqDiff, reduceIte, Nat.reduceMul, Nat.reduceAdd, Nat.reduceSub, Nat.reduceLT, Nat.reduceLeDiff, true_and, and_true, not_true, not_false_iff, or_true, true_or, eq_self] at hq) <;> (try (exfalso; omega))) | ((with_reducible intro uu ue); subst ue))
      · have c10 := c10 (by omega) (by omega)
        have c11 := c11 (by omega) (by omega)
        have c01 := c01 (by omega) (by omega)
        have d10 := dle (n - (d + 1)) (m - e)
        have d01 := dle (n - d) (m - (e + 1))
        have d11 := dle (n - (d + 1)) (m - (e + 1))
        simp (disch := omega) only [nI_lit, nI_m1, nI_add, pk_mul, ni_sub, ii_sub, ii_add, ii_addL, ii_addR, ii_subL, ii_subR, ii_neg, ii_nneg, ii_mul, ii_mulL, ii_mulR, ni_div, ni_rem, ni_le, ni_lt, ni_eq, ii_le, ii_lt, ii_eq, ii_leL, ii_leR, ii_ltL, ii_ltR, ii_eqL, ii_eqR, ni_cl, vq_in, xq_si, xq_si2, xq_si3, xq_sa, xq_sa2, xq_sa3, xq_sl, xq_sl2, xq_sl3, xq_di, xq_da, xq_dl, mq_si, mq_si2, mq_si3, mq_si4, mq_sa, mq_sa2, mq_sa3, mq_sa4, mq_sl, mq_sl2, mq_sl3, mq_sl4, va_upE, Nat.reduceEqDiff, reduceIte, Nat.reduceMul, Nat.reduceAdd, Nat.reduceSub, Nat.reduceLT, Nat.reduceLeDiff, true_and, and_true, not_true, not_false_iff, or_true, true_or, eq_self, e10, e01, c10, c01, ni_min]
        refine sx_cp (by omega) v101 vB hn (by omega) (by omega) c11 (by omega) ?_
        have b1 := vB.1 d
        have b2 := vB.1 (n + e)
        have ew : (B d % 256 - B (n + e) % 256).natAbs = lnw B n m (n - (d + 1)) (m - (e + 1)) := by
          unfold lnw
          rw [show n - 1 - (n - (d + 1)) = d by omega, show m - 1 - (m - (e + 1)) = e by omega]
        rw [ew]
        have wle : lnw B n m (n - (d + 1)) (m - (e + 1)) ≤ 255 := by rw [← ew]; omega
        simp (disch := omega) only [nI_lit, nI_m1, nI_add, pk_mul, ni_sub, ii_sub, ii_add, ii_addL, ii_addR, ii_subL, ii_subR, ii_neg, ii_nneg, ii_mul, ii_mulL, ii_mulR, ni_div, ni_rem, ni_le, ni_lt, ni_eq, ii_le, ii_lt, ii_eq, ii_leL, ii_leR, ii_ltL, ii_ltR, ii_eqL, ii_eqR, ni_cl, vq_in, xq_si, xq_si2, xq_si3, xq_sa, xq_sa2, xq_sa3, xq_sl, xq_sl2, xq_sl3, xq_di, xq_da, xq_dl, mq_si, mq_si2, mq_si3, mq_si4, mq_sa, mq_sa2, mq_sa3, mq_sa4, mq_sl, mq_sl2, mq_sl3, mq_sl4, va_upE, Nat.reduceEqDiff, reduceIte, Nat.reduceMul, Nat.reduceAdd, Nat.reduceSub, Nat.reduceLT, Nat.reduceLeDiff, true_and, and_true, not_true, not_false_iff, or_true, true_or, eq_self, ni_min]
        have := step (min (lnw B n m (n - (d + 1)) (m - (e + 1)) + lnD g (lnw B n m) (n - (d + 1)) (m - (e + 1))) (min (lnD g (lnw B n m) (n - d) (m - (e + 1))) (lnD g (lnw B n m) (n - (d + 1)) (m - e)) + g)) (by
          have q := lnD_s g (lnw B n m) (n - (d + 1)) (m - (e + 1))
          rw [show n - (d + 1) + 1 = n - d by omega, show m - (e + 1) + 1 = m - e by omega] at q
          rw [q]; omega)
        simp (disch := omega) only [nI_lit, nI_m1, nI_add, pk_mul, ni_sub, ii_sub, ii_add, ii_addL, ii_addR, ii_subL, ii_subR, ii_neg, ii_nneg, ii_mul, ii_mulL, ii_mulR, ni_div, ni_rem, ni_le, ni_lt, ni_eq, ii_le, ii_lt, ii_eq, ii_leL, ii_leR, ii_ltL, ii_ltR, ii_eqL, ii_eqR, ni_cl, vq_in, xq_si, xq_si2, xq_si3, xq_sa, xq_sa2, xq_sa3, xq_sl, xq_sl2, xq_sl3, xq_di, xq_da, xq_dl, mq_si, mq_si2, mq_si3, mq_si4, mq_sa, mq_sa2, mq_sa3, mq_sa4, mq_sl, mq_sl2, mq_sl3, mq_sl4, va_upE, Nat.reduceEqDiff, reduceIte, Nat.reduceMul, Nat.reduceAdd, Nat.reduceSub, Nat.reduceLT, Nat.reduceLeDiff, true_and, and_true, not_true, not_false_iff, or_true, true_or, eq_self, ni_min] at this
        first | exact this | exact this _ rfl _ rfl
      · have := step ((n - d) * g) (by
          have : m - e = 0 := by omega
          rw [this, lnD_n0])
        simp (disch := omega) only [nI_lit, nI_m1, nI_add, pk_mul, ni_sub, ii_sub, ii_add, ii_addL, ii_addR, ii_subL, ii_subR, ii_neg, ii_nneg, ii_mul, ii_mulL, ii_mulR, ni_div, ni_rem, ni_le, ni_lt, ni_eq, ii_le, ii_lt, ii_eq, ii_leL, ii_leR, ii_ltL, ii_ltR, ii_eqL, ii_eqR, ni_cl, vq_in, xq_si, xq_si2, xq_si3, xq_sa, xq_sa2, xq_sa3, xq_sl, xq_sl2, xq_sl3, xq_di, xq_da, xq_dl, mq_si, mq_si2, mq_si3, mq_si4, mq_sa, mq_sa2, mq_sa3, mq_sa4, mq_sl, mq_sl2, mq_sl3, mq_sl4, va_upE, Nat.reduceEqDiff, reduceIte, Nat.reduceMul, Nat.reduceAdd, Nat.reduceSub, Nat.reduceLT, Nat.reduceLeDiff, true_and, and_true, not_true, not_false_iff, or_true, true_or, eq_self] at this
        simp (disch := omega) only [nI_lit, nI_m1, nI_add, pk_mul, ni_sub, ii_sub, ii_add, ii_addL, ii_addR, ii_subL, ii_subR, ii_neg, ii_nneg, ii_mul, ii_mulL, ii_mulR, ni_div, ni_rem, ni_le, ni_lt, ni_eq, ii_le, ii_lt, ii_eq, ii_leL, ii_leR, ii_ltL, ii_ltR, ii_eqL, ii_eqR, ni_cl, vq_in, xq_si, xq_si2, xq_si3, xq_sa, xq_sa2, xq_sa3, xq_sl, xq_sl2, xq_sl3, xq_di, xq_da, xq_dl, mq_si, mq_si2, mq_si3, mq_si4, mq_sa, mq_sa2, mq_sa3, mq_sa4, mq_sl, mq_sl2, mq_sl3, mq_sl4, va_upE, Nat.reduceEqDiff, reduceIte, Nat.reduceMul, Nat.reduceAdd, Nat.reduceSub, Nat.reduceLT, Nat.reduceLeDiff, true_and, and_true, not_true, not_false_iff, or_true, true_or, eq_self]
        exact this _ rfl _ rfl
      · have := step ((m - e) * g) (by
          have : n - d = 0 := by omega
          rw [this, lnD_0])
        simp (disch := omega) only [nI_lit, nI_m1, nI_add, pk_mul, ni_sub, ii_sub, ii_add, ii_addL, ii_addR, ii_subL, ii_subR, ii_neg, ii_nneg, ii_mul, ii_mulL, ii_mulR, ni_div, ni_rem, ni_le, ni_lt, ni_eq, ii_le, ii_lt, ii_eq, ii_leL, ii_leR, ii_ltL, ii_ltR, ii_eqL, ii_eqR, ni_cl, vq_in, xq_si, xq_si2, xq_si3, xq_sa, xq_sa2, xq_sa3, xq_sl, xq_sl2, xq_sl3, xq_di, xq_da, xq_dl, mq_si, mq_si2, mq_si3, mq_si4, mq_sa, mq_sa2, mq_sa3, mq_sa4, mq_sl, mq_sl2, mq_sl3, mq_sl4, va_upE, Nat.reduceEqDiff, reduceIte, Nat.reduceMul, Nat.reduceAdd, Nat.reduceSub, Nat.reduceLT, Nat.reduceLeDiff, true_and, and_true, not_true, not_false_iff, or_true, true_or, eq_self] at this
        simp (disch := omega) only [nI_lit, nI_m1, nI_add, pk_mul, ni_sub, ii_sub, ii_add, ii_addL, ii_addR, ii_subL, ii_subR, ii_neg, ii_nneg, ii_mul, ii_mulL, ii_mulR, ni_div, ni_rem, ni_le, ni_lt, ni_eq, ii_le, ii_lt, ii_eq, ii_leL, ii_leR, ii_ltL, ii_ltR, ii_eqL, ii_eqR, ni_cl, vq_in, xq_si, xq_si2, xq_si3, xq_sa, xq_sa2, xq_sa3, xq_sl, xq_sl2, xq_sl3, xq_di, xq_da, xq_dl, mq_si, mq_si2, mq_si3, mq_si4, mq_sa, mq_sa2, mq_sa3, mq_sa4, mq_sl, mq_sl2, mq_sl3, mq_sl4, va_upE, Nat.reduceEqDiff, reduceIte, Nat.reduceMul, Nat.reduceAdd, Nat.reduceSub, Nat.reduceLT, Nat.reduceLeDiff, true_and, and_true, not_true, not_false_iff, or_true, true_or, eq_self]
        exact this _ rfl _ rfl
def ln_acc (a g : Int) (N : Nat) : Prop := (0 ≤ a ∧ a ≤ 48) ∧ (0 ≤ N - a ∧ N - a ≤ 48) ∧ 0 ≤ g ∧ g ≤ 255
theorem sx_linedX {x : xs_St} {N : Nat} {B : Nat → Int} (hN : N ≤ 440) (h1 : xi x 101 = nI N) (hB : tB (xa x 100) N B) {a g : Int32} {K : Int32 → xs_St → Prop} (k0 : ¬ ln_acc a.toInt g.toInt N → K (-1) (xs_si x 101 0))
    (k1 : ∀ n m c : Nat, n ≤ 48 → m ≤ 48 → c ≤ 255 → N = n + m → a = nI n → g = nI c → ∀ y, xf [101, 901] [900, 902] [] x y → xi y 101 = 0 → xi y 901 = nI n → (∀ i, i < n → xa y 900 i = iI (lnW c (lnw B n m) n m (n + m) n m i)) → K (nI (lnD c (lnw B n m) n m)) y) : X_TH_lined a g x K := by
  have ra := ti_r a
  have rg := ti_r g
  have k0' : ¬ ln_acc a.toInt g.toInt N → X_TH_lined_45 K (-1 : Int32) x := fun h => by unfold X_TH_lined_45; exact tx_c (k0 h)
  unfold ln_acc at k0'
  have ea := (ii_self a).symm
  have eg := (ii_self g).symm
  generalize a.toInt = za at *
  generalize g.toInt = zg at *
  subst ea; subst eg
  unfold X_TH_lined X_LN_areRows
  rw [h1]
  repeat' (first | (with_reducible refine And.intro n20 ?_) | (with_reducible refine And.intro n010 ?_) | (with_reducible refine And.intro n011 ?_) | ((with_reducible refine vq_and ?_ ?_); · (simp (disch := omega) only [nI_lit, nI_m1, nI_add, pk_mul, ni_sub, ii_sub, ii_add, ii_addL, ii_addR, ii_subL, ii_subR, ii_neg, ii_nneg, ii_mul, ii_mulL, ii_mulR, ni_div, ni_rem, ni_le, ni_lt, ni_eq, ii_le, ii_lt, ii_eq, ii_leL, ii_leR, ii_ltL, ii_ltR, ii_eqL, ii_eqR, ni_cl, vq_in, xq_si, xq_si2, xq_si3, xq_sa, xq_sa2, xq_sa3, xq_sl, xq_sl2, xq_sl3, xq_di, xq_da, xq_dl, mq_si, mq_si2, mq_si3, mq_si4, mq_sa, mq_sa2, mq_sa3, mq_sa4, mq_sl, mq_sl2, mq_sl3, mq_sl4, va_upE, Nat.reduceEqDiff, reduceIte, Nat.reduceMul, Nat.reduceAdd, Nat.reduceSub, Nat.reduceLT, Nat.reduceLeDiff, true_and, and_true, not_true, not_false_iff, or_true, true_or, eq_self])) | ((with_reducible refine br1 (fun hq => ?_) (fun hq => ?_)) <;> (try simp (disch := omega) only [nI_lit, nI_m1, nI_add, pk_mul, ni_sub, ii_sub, ii_add, ii_addL, ii_addR, ii_subL, ii_subR, ii_neg, ii_nneg, ii_mul, ii_mulL, ii_mulR, ni_div, ni_rem, ni_le, ni_lt, ni_eq, ii_le, ii_lt, ii_eq, ii_leL, ii_leR, ii_ltL, ii_ltR, ii_eqL, ii_eqR, ni_cl, vq_in, xq_si, xq_si2, xq_si3, xq_sa, xq_sa2, xq_sa3, xq_sl, xq_sl2, xq_sl3, xq_di, xq_da, xq_dl, mq_si, mq_si2, mq_si3, mq_si4, mq_sa, mq_sa2, mq_sa3, mq_sa4, mq_sl, mq_sl2, mq_sl3, mq_sl4, va_upE, Nat.reduceEqDiff, reduceIte, Nat.reduceMul, Nat.reduceAdd, Nat.reduceSub, Nat.reduceLT, Nat.reduceLeDiff, true_and, and_true, not_true, not_false_iff, or_true, true_or, eq_self] at hq) <;> (try (exfalso; omega))) | ((with_reducible refine br2 (fun hq => ?_) (fun hq => ?_)) <;> (try simp (disch := omega) only [nI_lit, nI_m1, nI_add, pk_mul, ni_sub, ii_sub, ii_add, ii_addL, ii_addR, ii_subL, ii_subR, ii_neg, ii_nneg, ii_mul, ii_mulL, ii_mulR, ni_div, ni_rem, ni_le, ni_lt, ni_eq, ii_le, ii_lt, ii_eq, ii_leL, ii_leR, ii_ltL, ii_ltR, ii_eqL, ii_eqR, ni_cl, vq_in, xq_si, xq_si2, xq_si3, xq_sa, xq_sa2, xq_sa3, xq_sl, xq_sl2, xq_sl3, xq_di, xq_da, xq_dl, mq_si, mq_si2, mq_si3, mq_si4, mq_sa, mq_sa2, mq_sa3, mq_sa4, mq_sl, mq_sl2, mq_sl3, mq_sl4, va_upE, Nat.reduceEqDiff, reduceIte, Nat.reduceMul, Nat.reduceAdd, Nat.reduceSub, Nat.reduceLT, Nat.reduceLeDiff, true_and, and_true, not_true, not_false_iff, or_true, true_or, eq_self] at hq) <;> (try (exfalso; omega))) | ((with_reducible intro uu ue); subst ue) | (unfold X_LN_areRows_27) | (unfold X_LN_areRows_28))
  · exact k0' (by omega)
  · exact k0' (by omega)
  · exact k0' (by omega)
  · exact k0' (by omega)
  · exact k0' (by omega)
  · exact k0' (by omega)
  · obtain ⟨n, rfl⟩ := Int.eq_ofNat_of_zero_le (show 0 ≤ za by omega)
    obtain ⟨c, rfl⟩ := Int.eq_ofNat_of_zero_le (show 0 ≤ zg by omega)
    obtain ⟨m, rfl⟩ : ∃ m, N = n + m := ⟨N - n, by omega⟩
    refine sx_least (n := n) (m := m) (g := c) (by omega) (by omega) (by omega) h1 hB (fun y hy y1 y2 => ?_)
    unfold X_TH_lined_45
    refine tx_c ?_
    exact k1 n m c (by omega) (by omega) (by omega) rfl rfl rfl _ (xf_i (by decide) (xf_w hy (by decide) (by decide) (by decide))) rfl y1 y2

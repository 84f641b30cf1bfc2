/-! tellings: one side -/
theorem sx_atM {x : xs_St} {a : Nat} {K : Int64 → xs_St → Prop} (ha : a ≤ 4000000000000000000) (h : K (lN (tSat a)) x) : X_US_atMost (lN a) x K := by
  unfold X_US_atMost X_US_atMost_15
  rw [show (1000000000000000 : Int64) = lN 1000000000000000 from rfl]
  have e : ((0 : Int32) ≤ lg_cmp (lN a) (lN 1000000000000000)) = (1000000000000000 ≤ a) := by
    rw [show (0 : Int32) = nI 0 from rfl, lgn_ge, ll_le (by omega) (by omega)]
  rw [e]
  refine ⟨fun q => ?_, fun q => ?_⟩
  · have : tSat a = 1000000000000000 := by unfold tSat; omega
    rw [this] at h; exact h
  · have : tSat a = a := by unfold tSat; omega
    rw [this] at h; exact h
theorem sx_pairX {x : xs_St} {n i : Nat} {B : Nat → Int} (hn : n ≤ 440) (h1 : xi x 101 = nI n) (hB : tB (xa x 100) n B) (hi : 2 * i + 1 < n) {K : Int32 → xs_St → Prop} (h : K (iI (B (2 * i) * 256 + B (2 * i + 1) % 256)) x) : X_TP_signedPair (nI i) x K := by
  have b1 := hB.1 (2 * i)
  have b2 := hB.1 (2 * i + 1)
  unfold X_TP_signedPair
  rw [show (2 : Int32) * nI i = nI (2 * i) from pk_mul 2 i, show nI (2 * i) + (1 : Int32) = nI (2 * i + 1) from nI_1 _]
  refine tx_s hn h1 hB (by omega) (tx_u hn h1 hB hi ?_)
  obtain ⟨u, hu⟩ := Int.eq_ofNat_of_zero_le (show 0 ≤ B (2 * i + 1) % 256 by omega)
  rw [hu] at h ⊢
  rw [show iI ((u : Nat) : Int) = nI u from rfl, ii_pair b1.1 b1.2 (by omega)]
  exact h
theorem sx_sumW {x : xs_St} {i b : Nat} {f : Nat → Nat} {K : xs_St → Prop} (hi : i < 48) (hb : b < 31) (hf : ∀ a, f a ≤ 1000000000000000) (h603 : ∀ a, a < 31 → xl x 603 (a * 31 + b) = lN (f a)) (h605 : xl x 605 0 = lN 0)
    (h : ∀ y, xf [] [606] [605] x y → (∀ k, k ≤ 31 → xl y 605 k = lN (fsT f k)) → bs (xa y 606 (i * 31 + b)) (fun a => 0 < f a) → (∀ k, k ≠ i * 31 + b → xa y 606 k = xa x 606 k) → K y) : X_US_sumWays (nI i) (nI b) x K := by
  unfold X_US_sumWays
  refine lqe5 (F := X_US_sumWays_5_lp K) (G := X_US_sumWays_5 K) (fun _ _ _ _ _ _ => rfl) (fun d a1 a2 a3 a4 u => xf [] [] [605] x u ∧ a1 = nI i ∧ a2 = nI b ∧ ∃ a, a4 = nI a ∧ a + d = 31 ∧ bs a3 (fun j => j < a ∧ 0 < f j) ∧ ∀ k, k ≤ a → xl u 605 k = lN (fsT f k)) ?_ 31 _ _ _ _ _ ⟨xf_r x, rfl, rfl, 0, rfl, rfl, bs_c bs_0 (fun j _ => ⟨fun q => q.elim, fun q => absurd q.1 (Nat.not_lt_zero j)⟩), fun k hk => by rw [show k = 0 by omega]; exact h605⟩
  rintro k d a1 a2 a3 a4 u ⟨hfr, rfl, rfl, a, rfl, hd, hbs, hpre⟩ ih
  have u603 : a < 31 → xl u 603 (a * 31 + b) = lN (f a) := fun q => by rw [hfr.2.2.1 603 (by decide)]; exact h603 a q
  have u605 := hpre a (Nat.le_refl a)
  have bT : fsT f a ≤ a * 1000000000000000 := fsT_bd a (fun s _ => hf s)
  have bF := hf a
  unfold X_US_sumWays_5
  refine br1 (fun g => ?_) (fun g => ?_)
  · simp (disch := omega) only [nI_lit, nI_m1, nI_add, pk_mul, ni_sub, ii_sub, ii_add, ii_addL, ii_addR, ii_subL, ii_subR, ii_neg, ii_nneg, ii_mul, ii_mulL, ii_mulR, ni_div, ni_rem, ni_le, ni_lt, ni_eq, ii_le, ii_lt, ii_eq, ii_leL, ii_leR, ii_ltL, ii_ltR, ii_eqL, ii_eqR, ni_cl, vq_in, xq_si, xq_si2, xq_si3, xq_sa, xq_sa2, xq_sa3, xq_sl, xq_sl2, xq_sl3, xq_di, xq_da, xq_dl, mq_si, mq_si2, mq_si3, mq_si4, mq_sa, mq_sa2, mq_sa3, mq_sa4, mq_sl, mq_sl2, mq_sl3, mq_sl4, va_upE, Nat.reduceEqDiff, reduceIte, Nat.reduceMul, Nat.reduceAdd, Nat.reduceSub, Nat.reduceLT, Nat.reduceLeDiff, true_and, and_true, not_true, not_false_iff, or_true, true_or, eq_self] at g
    repeat' (first | (with_reducible refine And.intro n20 ?_) | (with_reducible refine And.intro n010 ?_) | (with_reducible refine And.intro n011 ?_) | ((with_reducible refine vq_and ?_ ?_); · (simp (disch := omega) only [nI_lit, nI_m1, nI_add, pk_mul, ni_sub, ii_sub, ii_add, ii_addL, ii_addR, ii_subL, ii_subR, ii_neg, ii_nneg, ii_mul, ii_mulL, ii_mulR, ni_div, ni_rem, ni_le, ni_lt, ni_eq, ii_le, ii_lt, ii_eq, ii_leL, ii_leR, ii_ltL, ii_ltR, ii_eqL, ii_eqR, ni_cl, vq_in, xq_si, xq_si2, xq_si3, xq_sa, xq_sa2, xq_sa3, xq_sl, xq_sl2, xq_sl3, xq_di, xq_da, xq_dl, mq_si, mq_si2, mq_si3, mq_si4, mq_sa, mq_sa2, mq_sa3, mq_sa4, mq_sl, mq_sl2, mq_sl3, mq_sl4, va_upE, Nat.reduceEqDiff, reduceIte, Nat.reduceMul, Nat.reduceAdd, Nat.reduceSub, Nat.reduceLT, Nat.reduceLeDiff, true_and, and_true, not_true, not_false_iff, or_true, true_or, eq_self])) | ((with_reducible refine br1 (fun hww => ?_) (fun hww => ?_)) <;> (try simp (disch := omega) only [nI_lit, nI_m1, nI_add, pk_mul, ni_sub, ii_sub, ii_add, ii_addL, ii_addR, ii_subL, ii_subR, ii_neg, ii_nneg, ii_mul, ii_mulL, ii_mulR, ni_div, ni_rem, ni_le, ni_lt, ni_eq, ii_le, ii_lt, ii_eq, ii_leL, ii_leR, ii_ltL, ii_ltR, ii_eqL, ii_eqR, ni_cl, vq_in, xq_si, xq_si2, xq_si3, xq_sa, xq_sa2, xq_sa3, xq_sl, xq_sl2, xq_sl3, xq_di, xq_da, xq_dl, mq_si, mq_si2, mq_si3, mq_si4, mq_sa, mq_sa2, mq_sa3, mq_sa4, mq_sl, mq_sl2, mq_sl3, mq_sl4, va_upE, Nat.reduceEqDiff, reduceIte, Nat.reduceMul, Nat.reduceAdd, Nat.reduceSub, Nat.reduceLT, Nat.reduceLeDiff, true_and, and_true, not_true, not_false_iff, or_true, true_or, eq_self] at hww) <;> (try (exfalso; omega))) | ((with_reducible refine br2 (fun hww => ?_) (fun hww => ?_)) <;> (try simp (disch := omega) only [nI_lit, nI_m1, nI_add, pk_mul, ni_sub, ii_sub, ii_add, ii_addL, ii_addR, ii_subL, ii_subR, ii_neg, ii_nneg, ii_mul, ii_mulL, ii_mulR, ni_div, ni_rem, ni_le, ni_lt, ni_eq, ii_le, ii_lt, ii_eq, ii_leL, ii_leR, ii_ltL, ii_ltR, ii_eqL, ii_eqR, ni_cl, vq_in, xq_si, xq_si2, xq_si3, xq_sa, xq_sa2, xq_sa3, xq_sl, xq_sl2, xq_sl3, xq_di, xq_da, xq_dl, mq_si, mq_si2, mq_si3, mq_si4, mq_sa, mq_sa2, mq_sa3, mq_sa4, mq_sl, mq_sl2, mq_sl3, mq_sl4, va_upE, Nat.reduceEqDiff, reduceIte, Nat.reduceMul, Nat.reduceAdd, Nat.reduceSub, Nat.reduceLT, Nat.reduceLeDiff, true_and, and_true, not_true, not_false_iff, or_true, true_or, eq_self] at hww) <;> (try (exfalso; omega))) | ((with_reducible intro uu ue); subst ue) | (unfold X_US_sumWays_87))
    refine h _ (xf_a (by decide) (xf_w hfr (by decide) (by decide) (by decide))) (fun k hk => ?_) ?_ (fun k hk => ?_)
    · simp (disch := omega) only [nI_lit, nI_m1, nI_add, pk_mul, ni_sub, ii_sub, ii_add, ii_addL, ii_addR, ii_subL, ii_subR, ii_neg, ii_nneg, ii_mul, ii_mulL, ii_mulR, ni_div, ni_rem, ni_le, ni_lt, ni_eq, ii_le, ii_lt, ii_eq, ii_leL, ii_leR, ii_ltL, ii_ltR, ii_eqL, ii_eqR, ni_cl, vq_in, xq_si, xq_si2, xq_si3, xq_sa, xq_sa2, xq_sa3, xq_sl, xq_sl2, xq_sl3, xq_di, xq_da, xq_dl, mq_si, mq_si2, mq_si3, mq_si4, mq_sa, mq_sa2, mq_sa3, mq_sa4, mq_sl, mq_sl2, mq_sl3, mq_sl4, va_upE, Nat.reduceEqDiff, reduceIte, Nat.reduceMul, Nat.reduceAdd, Nat.reduceSub, Nat.reduceLT, Nat.reduceLeDiff, true_and, and_true, not_true, not_false_iff, or_true, true_or, eq_self]
      exact hpre k (by omega)
    · simp (disch := omega) only [nI_lit, nI_m1, nI_add, pk_mul, ni_sub, ii_sub, ii_add, ii_addL, ii_addR, ii_subL, ii_subR, ii_neg, ii_nneg, ii_mul, ii_mulL, ii_mulR, ni_div, ni_rem, ni_le, ni_lt, ni_eq, ii_le, ii_lt, ii_eq, ii_leL, ii_leR, ii_ltL, ii_ltR, ii_eqL, ii_eqR, ni_cl, vq_in, xq_si, xq_si2, xq_si3, xq_sa, xq_sa2, xq_sa3, xq_sl, xq_sl2, xq_sl3, xq_di, xq_da, xq_dl, mq_si, mq_si2, mq_si3, mq_si4, mq_sa, mq_sa2, mq_sa3, mq_sa4, mq_sl, mq_sl2, mq_sl3, mq_sl4, va_upE, Nat.reduceEqDiff, reduceIte, Nat.reduceMul, Nat.reduceAdd, Nat.reduceSub, Nat.reduceLT, Nat.reduceLeDiff, true_and, and_true, not_true, not_false_iff, or_true, true_or, eq_self]
      rw [pk_us]
      exact bs_c hbs (fun j hj => ⟨fun q => q.2, fun q => ⟨by omega, q⟩⟩)
    · simp (disch := omega) only [nI_lit, nI_m1, nI_add, pk_mul, ni_sub, ii_sub, ii_add, ii_addL, ii_addR, ii_subL, ii_subR, ii_neg, ii_nneg, ii_mul, ii_mulL, ii_mulR, ni_div, ni_rem, ni_le, ni_lt, ni_eq, ii_le, ii_lt, ii_eq, ii_leL, ii_leR, ii_ltL, ii_ltR, ii_eqL, ii_eqR, ni_cl, vq_in, xq_si, xq_si2, xq_si3, xq_sa, xq_sa2, xq_sa3, xq_sl, xq_sl2, xq_sl3, xq_di, xq_da, xq_dl, mq_si, mq_si2, mq_si3, mq_si4, mq_sa, mq_sa2, mq_sa3, mq_sa4, mq_sl, mq_sl2, mq_sl3, mq_sl4, va_upE, Nat.reduceEqDiff, reduceIte, Nat.reduceMul, Nat.reduceAdd, Nat.reduceSub, Nat.reduceLT, Nat.reduceLeDiff, true_and, and_true, not_true, not_false_iff, or_true, true_or, eq_self]
      rw [pk_un hk, hfr.2.1 606 (by decide)]
  · simp (disch := omega) only [nI_lit, nI_m1, nI_add, pk_mul, ni_sub, ii_sub, ii_add, ii_addL, ii_addR, ii_subL, ii_subR, ii_neg, ii_nneg, ii_mul, ii_mulL, ii_mulR, ni_div, ni_rem, ni_le, ni_lt, ni_eq, ii_le, ii_lt, ii_eq, ii_leL, ii_leR, ii_ltL, ii_ltR, ii_eqL, ii_eqR, ni_cl, vq_in, xq_si, xq_si2, xq_si3, xq_sa, xq_sa2, xq_sa3, xq_sl, xq_sl2, xq_sl3, xq_di, xq_da, xq_dl, mq_si, mq_si2, mq_si3, mq_si4, mq_sa, mq_sa2, mq_sa3, mq_sa4, mq_sl, mq_sl2, mq_sl3, mq_sl4, va_upE, Nat.reduceEqDiff, reduceIte, Nat.reduceMul, Nat.reduceAdd, Nat.reduceSub, Nat.reduceLT, Nat.reduceLeDiff, true_and, and_true, not_true, not_false_iff, or_true, true_or, eq_self] at g
    have u603 := u603 (by omega)
    have step : ∀ a3' : Int32, bs a3' (fun j => j < a + 1 ∧ 0 < f j) → X_US_sumWays_59 K k (nI i) (nI b) a3' (nI a) (xs_sl u 605 (vp_updL (xl u 605) (a + 1) (lN (fsT f a + f a)))) := by
      intro a3' hb3
      unfold X_US_sumWays_59
      intro x5 e5
      subst e5
      refine ih (d - 1) _ _ _ _ _ (by omega) ⟨xf_l (by decide) hfr, rfl, rfl, a + 1, nI_1 a, by omega, hb3, fun k hk => ?_⟩
      simp (disch := omega) only [nI_lit, nI_m1, nI_add, pk_mul, ni_sub, ii_sub, ii_add, ii_addL, ii_addR, ii_subL, ii_subR, ii_neg, ii_nneg, ii_mul, ii_mulL, ii_mulR, ni_div, ni_rem, ni_le, ni_lt, ni_eq, ii_le, ii_lt, ii_eq, ii_leL, ii_leR, ii_ltL, ii_ltR, ii_eqL, ii_eqR, ni_cl, vq_in, xq_si, xq_si2, xq_si3, xq_sa, xq_sa2, xq_sa3, xq_sl, xq_sl2, xq_sl3, xq_di, xq_da, xq_dl, mq_si, mq_si2, mq_si3, mq_si4, mq_sa, mq_sa2, mq_sa3, mq_sa4, mq_sl, mq_sl2, mq_sl3, mq_sl4, va_upE, Nat.reduceEqDiff, reduceIte, Nat.reduceMul, Nat.reduceAdd, Nat.reduceSub, Nat.reduceLT, Nat.reduceLeDiff, true_and, and_true, not_true, not_false_iff, or_true, true_or, eq_self, lI_lit, lN_add, lN_mul, ll_sub, ll_lt, ll_le, ll_eq, ll_div, ll_rem, ll_n, lgn_ge, lgn_le, lgn_gt, lgn_lt, lgn_eq]
      rcases Nat.lt_or_ge k (a + 1) with h4 | h4
      · rw [pk_uLn (by omega)]; exact hpre k (by omega)
      · have : k = a + 1 := by omega
        subst this
        rw [pk_uLs, fsT]
    repeat' (first | (with_reducible refine And.intro n20 ?_) | (with_reducible refine And.intro n010 ?_) | (with_reducible refine And.intro n011 ?_) | ((with_reducible refine vq_and ?_ ?_); · (simp (disch := omega) only [nI_lit, nI_m1, nI_add, pk_mul, ni_sub, ii_sub, ii_add, ii_addL, ii_addR, ii_subL, ii_subR, ii_neg, ii_nneg, ii_mul, ii_mulL, ii_mulR, ni_div, ni_rem, ni_le, ni_lt, ni_eq, ii_le, ii_lt, ii_eq, ii_leL, ii_leR, ii_ltL, ii_ltR, ii_eqL, ii_eqR, ni_cl, vq_in, xq_si, xq_si2, xq_si3, xq_sa, xq_sa2, xq_sa3, xq_sl, xq_sl2, xq_sl3, xq_di, xq_da, xq_dl, mq_si, mq_si2, mq_si3, mq_si4, mq_sa, mq_sa2, mq_sa3, mq_sa4, mq_sl, mq_sl2, mq_sl3, mq_sl4, va_upE, Nat.reduceEqDiff, reduceIte, Nat.reduceMul, Nat.reduceAdd, Nat.reduceSub, Nat.reduceLT, Nat.reduceLeDiff, true_and, and_true, not_true, not_false_iff, or_true, true_or, eq_self, u603, u605, lI_lit, lN_add, lN_mul, ll_sub, ll_lt, ll_le, ll_eq, ll_div, ll_rem, ll_n, lgn_ge, lgn_le, lgn_gt, lgn_lt, lgn_eq])) | ((with_reducible refine br1 (fun hww => ?_) (fun hww => ?_)) <;> (try simp (disch := omega) only [nI_lit, nI_m1, nI_add, pk_mul, ni_sub, ii_sub, ii_add, ii_addL, ii_addR, ii_subL, ii_subR, ii_neg, ii_nneg, ii_mul, ii_mulL, ii_mulR, ni_div, ni_rem, ni_le, ni_lt, ni_eq, ii_le, ii_lt, ii_eq, ii_leL, ii_leR, ii_ltL, ii_ltR, ii_eqL, ii_eqR, ni_cl, vq_in, xq_si, xq_si2, xq_si3, xq_sa, xq_sa2, xq_sa3, xq_sl, xq_sl2, xq_sl3, xq_di, xq_da, xq_dl, mq_si, mq_si2, mq_si3, mq_si4, mq_sa, mq_sa2, mq_sa3, mq_sa4, mq_sl, mq_sl2, mq_sl3, mq_sl4, va_upE, Nat.reduceEqDiff, reduceIte, Nat.reduceMul, Nat.reduceAdd, Nat.reduceSub, Nat.reduceLT, Nat.reduceLeDiff, true_and, and_true, not_true, not_false_iff, or_true, true_or, eq_self, u603, u605, lI_lit, lN_add, lN_mul, ll_sub, ll_lt, ll_le, ll_eq, ll_div, ll_rem, ll_n, lgn_ge, lgn_le, lgn_gt, lgn_lt, lgn_eq] at hww) <;> (try (exfalso; omega))) | ((with_reducible refine br2 (fun hww => ?_) (fun hww => ?_)) <;> (try simp (disch := omega) only [nI_lit, nI_m1, nI_add, pk_mul, ni_sub, ii_sub, ii_add, ii_addL, ii_addR, ii_subL, ii_subR, ii_neg, ii_nneg, ii_mul, ii_mulL, ii_mulR, ni_div, ni_rem, ni_le, ni_lt, ni_eq, ii_le, ii_lt, ii_eq, ii_leL, ii_leR, ii_ltL, ii_ltR, ii_eqL, ii_eqR, ni_cl, vq_in, xq_si, xq_si2, xq_si3, xq_sa, xq_sa2, xq_sa3, xq_sl, xq_sl2, xq_sl3, xq_di, xq_da, xq_dl, mq_si, mq_si2, mq_si3, mq_si4, mq_sa, mq_sa2, mq_sa3, mq_sa4, mq_sl, mq_sl2, mq_sl3, mq_sl4, va_upE, Nat.reduceEqDiff, reduceIte, Nat.reduceMul, Nat.reduceAdd, Nat.reduceSub, Nat.reduceLT, Nat.reduceLeDiff, true_and, and_true, not_true, not_false_iff, or_true, true_or, eq_self, u603, u605, lI_lit, lN_add, lN_mul, ll_sub, ll_lt, ll_le, ll_eq, ll_div, ll_rem, ll_n, lgn_ge, lgn_le, lgn_gt, lgn_lt, lgn_eq] at hww) <;> (try (exfalso; omega))) | ((with_reducible intro uu ue); subst ue))
    · simp (disch := omega) only [nI_lit, nI_m1, nI_add, pk_mul, ni_sub, ii_sub, ii_add, ii_addL, ii_addR, ii_subL, ii_subR, ii_neg, ii_nneg, ii_mul, ii_mulL, ii_mulR, ni_div, ni_rem, ni_le, ni_lt, ni_eq, ii_le, ii_lt, ii_eq, ii_leL, ii_leR, ii_ltL, ii_ltR, ii_eqL, ii_eqR, ni_cl, vq_in, xq_si, xq_si2, xq_si3, xq_sa, xq_sa2, xq_sa3, xq_sl, xq_sl2, xq_sl3, xq_di, xq_da, xq_dl, mq_si, mq_si2, mq_si3, mq_si4, mq_sa, mq_sa2, mq_sa3, mq_sa4, mq_sl, mq_sl2, mq_sl3, mq_sl4, va_upE, Nat.reduceEqDiff, reduceIte, Nat.reduceMul, Nat.reduceAdd, Nat.reduceSub, Nat.reduceLT, Nat.reduceLeDiff, true_and, and_true, not_true, not_false_iff, or_true, true_or, eq_self, u603, u605, lI_lit, lN_add, lN_mul, ll_sub, ll_lt, ll_le, ll_eq, ll_div, ll_rem, ll_n, lgn_ge, lgn_le, lgn_gt, lgn_lt, lgn_eq]
      exact step _ (bs_c hbs (fun j hj => ⟨fun q => ⟨by omega, q.2⟩, fun q => ⟨by
        rcases Nat.lt_or_ge j a with h4 | h4
        · exact h4
        · exfalso; have : j = a := by omega
          subst this; omega, q.2⟩⟩))
    · simp (disch := omega) only [nI_lit, nI_m1, nI_add, pk_mul, ni_sub, ii_sub, ii_add, ii_addL, ii_addR, ii_subL, ii_subR, ii_neg, ii_nneg, ii_mul, ii_mulL, ii_mulR, ni_div, ni_rem, ni_le, ni_lt, ni_eq, ii_le, ii_lt, ii_eq, ii_leL, ii_leR, ii_ltL, ii_ltR, ii_eqL, ii_eqR, ni_cl, vq_in, xq_si, xq_si2, xq_si3, xq_sa, xq_sa2, xq_sa3, xq_sl, xq_sl2, xq_sl3, xq_di, xq_da, xq_dl, mq_si, mq_si2, mq_si3, mq_si4, mq_sa, mq_sa2, mq_sa3, mq_sa4, mq_sl, mq_sl2, mq_sl3, mq_sl4, va_upE, Nat.reduceEqDiff, reduceIte, Nat.reduceMul, Nat.reduceAdd, Nat.reduceSub, Nat.reduceLT, Nat.reduceLeDiff, true_and, and_true, not_true, not_false_iff, or_true, true_or, eq_self, u603, u605, lI_lit, lN_add, lN_mul, ll_sub, ll_lt, ll_le, ll_eq, ll_div, ll_rem, ll_n, lgn_ge, lgn_le, lgn_gt, lgn_lt, lgn_eq]
      refine step _ (bs_c (bs_or hbs (show a < 31 by omega)) (fun j hj => ⟨fun q => ?_, fun q => ?_⟩))
      · rcases q with q | rfl
        · exact ⟨by omega, q.2⟩
        · exact ⟨by omega, by omega⟩
      · by_cases e : j = a
        · exact Or.inr e
        · exact Or.inl ⟨by omega, q.2⟩
theorem t_win {f : Nat → Nat} {S : Nat → Int} {v i b c : Nat} {lo hi : Int} (hlo : lo = S i - 2 * ((b : Int) - 15) + 30 - v - c) (hhi : hi = S i - 2 * ((b : Int) - 15) + 30 + v - c) : fsT (fun a => tI (tFit S v i a b c) (f a)) 31 = if min hi 30 < max lo 0 then 0 else fsT f (min hi 30 + 1).toNat - fsT f (max lo 0).toNat := by
  by_cases h : min hi 30 < max lo 0
  · rw [if_pos h, fsT_k (g := fun _ => 0) 31 (fun a ha => tI_f (fun q => by unfold tFit at q; omega))]
    exact fsT_0 31
  · rw [if_neg h]
    have h1 := fsT_wn f (max lo 0).toNat (min hi 30).toNat (by omega) 31
    rw [show min 31 (max lo 0).toNat = (max lo 0).toNat by omega, show min 31 ((min hi 30).toNat + 1) = (min hi 30 + 1).toNat by omega] at h1
    have h2 : fsT (fun a => tI (tFit S v i a b c) (f a)) 31 = fsT (fun a => if (max lo 0).toNat ≤ a ∧ a ≤ (min hi 30).toNat then f a else 0) 31 := by
      refine fsT_k 31 (fun a ha => ?_)
      by_cases q : (max lo 0).toNat ≤ a ∧ a ≤ (min hi 30).toNat
      · rw [if_pos q, tI_t]; unfold tFit; omega
      · rw [if_neg q, tI_f]; intro q2; unfold tFit at q2; omega
    rw [h2]; omega
theorem sx_past {x : xs_St} {i v : Nat} {S : Nat → Int} {f : Nat → Nat → Nat} {K : xs_St → Prop} (hi : i < 48) (hv : v ≤ 9) (hS : -32768 ≤ S i ∧ S i ≤ 32767) (hf : ∀ a b, f a b ≤ 1000000000000000) (h603 : ∀ a b, a < 31 → b < 31 → xl x 603 (a * 31 + b) = lN (f a b)) (h605 : xl x 605 0 = lN 0)
    (h : ∀ y, xf [] [606] [603, 604, 605] x y → xl y 605 0 = lN 0 → (∀ b c, b < 31 → c < 31 → xl y 603 (b * 31 + c) = lN (tSat (fsT (fun a => tI (tFit S v i a b c) (f a b)) 31))) → (∀ b, b < 31 → bs (xa y 606 (i * 31 + b)) (fun a => 0 < f a b)) → (∀ k, k < i * 31 → xa y 606 k = xa x 606 k) → K y) : X_US_goPast (nI i) (iI (S i)) (nI v) x K := by
  unfold X_US_goPast
  refine lqe5 (F := X_US_goPast_3_lp K) (G := X_US_goPast_3 K) (fun _ _ _ _ _ _ => rfl) (fun d a1 a2 a3 a4 u => xf [] [606] [604, 605] x u ∧ a1 = nI i ∧ a2 = iI (S i) ∧ a3 = nI v ∧ xl u 605 0 = lN 0 ∧ ∃ b, a4 = nI b ∧ b + d = 31 ∧ (∀ b' c, b' < b → c < 31 → xl u 604 (b' * 31 + c) = lN (tSat (fsT (fun a => tI (tFit S v i a b' c) (f a b')) 31))) ∧ (∀ b', b' < b → bs (xa u 606 (i * 31 + b')) (fun a => 0 < f a b')) ∧ ∀ k, k < i * 31 → xa u 606 k = xa x 606 k) ?_ 31 _ _ _ _ _ ⟨xf_r x, rfl, rfl, rfl, h605, 0, rfl, rfl, fun b' c hb => by omega, fun b' hb => by omega, fun _ _ => rfl⟩
  rintro k d a1 a2 a3 a4 u ⟨hfr, rfl, rfl, rfl, hz, b, rfl, hd, h4, hr, hr2⟩ ih
  unfold X_US_goPast_3
  repeat' (first | (with_reducible refine And.intro n20 ?_) | (with_reducible refine And.intro n010 ?_) | (with_reducible refine And.intro n011 ?_) | ((with_reducible refine vq_and ?_ ?_); · (simp (disch := omega) only [nI_lit, nI_m1, nI_add, pk_mul, ni_sub, ii_sub, ii_add, ii_addL, ii_addR, ii_subL, ii_subR, ii_neg, ii_nneg, ii_mul, ii_mulL, ii_mulR, ni_div, ni_rem, ni_le, ni_lt, ni_eq, ii_le, ii_lt, ii_eq, ii_leL, ii_leR, ii_ltL, ii_ltR, ii_eqL, ii_eqR, ni_cl, vq_in, xq_si, xq_si2, xq_si3, xq_sa, xq_sa2, xq_sa3, xq_sl, xq_sl2, xq_sl3, xq_di, xq_da, xq_dl, mq_si, mq_si2, mq_si3, mq_si4, mq_sa, mq_sa2, mq_sa3, mq_sa4, mq_sl, mq_sl2, mq_sl3, mq_sl4, va_upE, Nat.reduceEqDiff, reduceIte, Nat.reduceMul, Nat.reduceAdd, Nat.reduceSub, Nat.reduceLT, Nat.reduceLeDiff, true_and, and_true, not_true, not_false_iff, or_true, true_or, eq_self])) | ((with_reducible refine br1 (fun hww => ?_) (fun hww => ?_)) <;> (try simp (disch := omega) only [nI_lit, nI_m1, nI_add, pk_mul, ni_sub, ii_sub, ii_add, ii_addL, ii_addR, ii_subL, ii_subR, ii_neg, ii_nneg, ii_mul, ii_mulL, ii_mulR, ni_div, ni_rem, ni_le, ni_lt, ni_eq, ii_le, ii_lt, ii_eq, ii_leL, ii_leR, ii_ltL, ii_ltR, ii_eqL, ii_eqR, ni_cl, vq_in, xq_si, xq_si2, xq_si3, xq_sa, xq_sa2, xq_sa3, xq_sl, xq_sl2, xq_sl3, xq_di, xq_da, xq_dl, mq_si, mq_si2, mq_si3, mq_si4, mq_sa, mq_sa2, mq_sa3, mq_sa4, mq_sl, mq_sl2, mq_sl3, mq_sl4, va_upE, Nat.reduceEqDiff, reduceIte, Nat.reduceMul, Nat.reduceAdd, Nat.reduceSub, Nat.reduceLT, Nat.reduceLeDiff, true_and, and_true, not_true, not_false_iff, or_true, true_or, eq_self] at hww) <;> (try (exfalso; omega))) | ((with_reducible refine br2 (fun hww => ?_) (fun hww => ?_)) <;> (try simp (disch := omega) only [nI_lit, nI_m1, nI_add, pk_mul, ni_sub, ii_sub, ii_add, ii_addL, ii_addR, ii_subL, ii_subR, ii_neg, ii_nneg, ii_mul, ii_mulL, ii_mulR, ni_div, ni_rem, ni_le, ni_lt, ni_eq, ii_le, ii_lt, ii_eq, ii_leL, ii_leR, ii_ltL, ii_ltR, ii_eqL, ii_eqR, ni_cl, vq_in, xq_si, xq_si2, xq_si3, xq_sa, xq_sa2, xq_sa3, xq_sl, xq_sl2, xq_sl3, xq_di, xq_da, xq_dl, mq_si, mq_si2, mq_si3, mq_si4, mq_sa, mq_sa2, mq_sa3, mq_sa4, mq_sl, mq_sl2, mq_sl3, mq_sl4, va_upE, Nat.reduceEqDiff, reduceIte, Nat.reduceMul, Nat.reduceAdd, Nat.reduceSub, Nat.reduceLT, Nat.reduceLeDiff, true_and, and_true, not_true, not_false_iff, or_true, true_or, eq_self] at hww) <;> (try (exfalso; omega))) | ((with_reducible intro uu ue); subst ue))
  · refine h _ (xf_l (by decide) (xf_l (by decide) (xf_w hfr (by decide) (by decide) (by decide)))) ?_ (fun b' c hb' hc => ?_) (fun b' hb' => ?_) (fun k hk => ?_)
    · unfold xw_603_604
      simp (disch := omega) only [nI_lit, nI_m1, nI_add, pk_mul, ni_sub, ii_sub, ii_add, ii_addL, ii_addR, ii_subL, ii_subR, ii_neg, ii_nneg, ii_mul, ii_mulL, ii_mulR, ni_div, ni_rem, ni_le, ni_lt, ni_eq, ii_le, ii_lt, ii_eq, ii_leL, ii_leR, ii_ltL, ii_ltR, ii_eqL, ii_eqR, ni_cl, vq_in, xq_si, xq_si2, xq_si3, xq_sa, xq_sa2, xq_sa3, xq_sl, xq_sl2, xq_sl3, xq_di, xq_da, xq_dl, mq_si, mq_si2, mq_si3, mq_si4, mq_sa, mq_sa2, mq_sa3, mq_sa4, mq_sl, mq_sl2, mq_sl3, mq_sl4, va_upE, Nat.reduceEqDiff, reduceIte, Nat.reduceMul, Nat.reduceAdd, Nat.reduceSub, Nat.reduceLT, Nat.reduceLeDiff, true_and, and_true, not_true, not_false_iff, or_true, true_or, eq_self]
      exact hz
    · unfold xw_603_604
      simp (disch := omega) only [nI_lit, nI_m1, nI_add, pk_mul, ni_sub, ii_sub, ii_add, ii_addL, ii_addR, ii_subL, ii_subR, ii_neg, ii_nneg, ii_mul, ii_mulL, ii_mulR, ni_div, ni_rem, ni_le, ni_lt, ni_eq, ii_le, ii_lt, ii_eq, ii_leL, ii_leR, ii_ltL, ii_ltR, ii_eqL, ii_eqR, ni_cl, vq_in, xq_si, xq_si2, xq_si3, xq_sa, xq_sa2, xq_sa3, xq_sl, xq_sl2, xq_sl3, xq_di, xq_da, xq_dl, mq_si, mq_si2, mq_si3, mq_si4, mq_sa, mq_sa2, mq_sa3, mq_sa4, mq_sl, mq_sl2, mq_sl3, mq_sl4, va_upE, Nat.reduceEqDiff, reduceIte, Nat.reduceMul, Nat.reduceAdd, Nat.reduceSub, Nat.reduceLT, Nat.reduceLeDiff, true_and, and_true, not_true, not_false_iff, or_true, true_or, eq_self]
      exact h4 b' c (by omega) hc
    · exact hr b' (by omega)
    · exact hr2 k hk
  · refine sx_sumW (f := fun a => f a b) hi (by omega) (fun a => hf a b) (fun a ha => by rw [hfr.2.2.1 603 (by decide)]; exact h603 a b ha (by omega)) hz (fun y hy y605 y606 y606' => ?_)
    unfold X_US_outerSum
    have eo : iI (S i) - (2 : Int32) * (nI b - (15 : Int32)) + (30 : Int32) = iI (S i - 2 * ((b : Int) - 15) + 30) := by
      rw [show nI b - (15 : Int32) = iI ((b : Int) - 15) from ii_nsub b 15, show (2 : Int32) = iI 2 from rfl, ii_mul, ii_sub, show (30 : Int32) = iI 30 from rfl, ii_add]
    rw [eo]
    refine lqe7 (F := X_US_goPast_28_lp K k) (G := X_US_goPast_28 K k) (fun _ _ _ _ _ _ _ _ => rfl) (fun d2 a1 a2 a3 a4 a5 a6 w => xf [] [] [604] y w ∧ a1 = nI i ∧ a2 = iI (S i) ∧ a3 = nI v ∧ a4 = nI b ∧ a5 = iI (S i - 2 * ((b : Int) - 15) + 30) ∧ ∃ c, a6 = nI c ∧ c + d2 = 31 ∧ (∀ c', c' < c → xl w 604 (b * 31 + c') = lN (tSat (fsT (fun a => tI (tFit S v i a b c') (f a b)) 31))) ∧ ∀ k, k < b * 31 → xl w 604 k = xl u 604 k) ?_ 31 _ _ _ _ _ _ _ ⟨xf_r y, rfl, rfl, rfl, rfl, rfl, 0, rfl, rfl, fun c' hc => by omega, fun k hk => by rw [hy.2.2.1 604 (by decide)]⟩
    rintro k2 d2 a1 a2 a3 a4 a5 a6 w ⟨hfw, rfl, rfl, rfl, rfl, rfl, c, rfl, hd2, w604, w604'⟩ ih2
    unfold X_US_goPast_28
    refine br1 (fun g => ?_) (fun g => ?_)
    · simp (disch := omega) only [nI_lit, nI_m1, nI_add, pk_mul, ni_sub, ii_sub, ii_add, ii_addL, ii_addR, ii_subL, ii_subR, ii_neg, ii_nneg, ii_mul, ii_mulL, ii_mulR, ni_div, ni_rem, ni_le, ni_lt, ni_eq, ii_le, ii_lt, ii_eq, ii_leL, ii_leR, ii_ltL, ii_ltR, ii_eqL, ii_eqR, ni_cl, vq_in, xq_si, xq_si2, xq_si3, xq_sa, xq_sa2, xq_sa3, xq_sl, xq_sl2, xq_sl3, xq_di, xq_da, xq_dl, mq_si, mq_si2, mq_si3, mq_si4, mq_sa, mq_sa2, mq_sa3, mq_sa4, mq_sl, mq_sl2, mq_sl3, mq_sl4, va_upE, Nat.reduceEqDiff, reduceIte, Nat.reduceMul, Nat.reduceAdd, Nat.reduceSub, Nat.reduceLT, Nat.reduceLeDiff, true_and, and_true, not_true, not_false_iff, or_true, true_or, eq_self] at g
      intro x4 e4
      subst e4
      refine ih (d - 1) _ _ _ _ _ (by omega) ⟨xf_t hfr (xf_t (xf_w hy (by decide) (by decide) (by decide)) (xf_w hfw (by decide) (by decide) (by decide))), rfl, rfl, rfl, ?_, b + 1, nI_1 b, by omega, fun b' c' hb' hc' => ?_, fun b' hb' => ?_, fun k hk => ?_⟩
      · rw [hfw.2.2.1 605 (by decide), y605 0 (by omega)]; rfl
      · rcases Nat.lt_or_ge b' b with q | q
        · rw [w604' _ (by omega)]; exact h4 b' c' q hc'
        · have : b' = b := by omega
          subst this
          exact w604 c' (by omega)
      · rw [hfw.2.1 606 (by decide)]
        rcases Nat.lt_or_ge b' b with q | q
        · rw [y606' _ (by omega)]; exact hr b' q
        · have : b' = b := by omega
          subst this
          exact y606
      · rw [hfw.2.1 606 (by decide), y606' _ (by omega)]
        exact hr2 k hk
    · simp (disch := omega) only [nI_lit, nI_m1, nI_add, pk_mul, ni_sub, ii_sub, ii_add, ii_addL, ii_addR, ii_subL, ii_subR, ii_neg, ii_nneg, ii_mul, ii_mulL, ii_mulR, ni_div, ni_rem, ni_le, ni_lt, ni_eq, ii_le, ii_lt, ii_eq, ii_leL, ii_leR, ii_ltL, ii_ltR, ii_eqL, ii_eqR, ni_cl, vq_in, xq_si, xq_si2, xq_si3, xq_sa, xq_sa2, xq_sa3, xq_sl, xq_sl2, xq_sl3, xq_di, xq_da, xq_dl, mq_si, mq_si2, mq_si3, mq_si4, mq_sa, mq_sa2, mq_sa3, mq_sa4, mq_sl, mq_sl2, mq_sl3, mq_sl4, va_upE, Nat.reduceEqDiff, reduceIte, Nat.reduceMul, Nat.reduceAdd, Nat.reduceSub, Nat.reduceLT, Nat.reduceLeDiff, true_and, and_true, not_true, not_false_iff, or_true, true_or, eq_self] at g
      intro y2 e2 y3 e3
      have el : iI (S i - 2 * ((b : Int) - 15) + 30) - nI v - nI c = iI (S i - 2 * ((b : Int) - 15) + 30 - v - c) := by rw [ii_subL, ii_subL]
      have eh : iI (S i - 2 * ((b : Int) - 15) + 30) + nI v - nI c = iI (S i - 2 * ((b : Int) - 15) + 30 + v - c) := by rw [ii_addL, ii_subL]
      rw [el] at e2
      rw [eh] at e3
      have hw := t_win (f := fun a => f a b) (S := S) (v := v) (i := i) (b := b) (c := c) rfl rfl
      generalize hlo : S i - 2 * ((b : Int) - 15) + 30 - v - c = lo at *
      generalize hhi : S i - 2 * ((b : Int) - 15) + 30 + v - c = hh at *
      have c1 : ((0 : Int32) < iI lo) = (0 < lo) := ii_lt (a := 0) (by omega) (by omega) (by omega) (by omega)
      have c2 : (iI hh < (30 : Int32)) = (hh < 30) := ii_lt (b := 30) (by omega) (by omega) (by omega) (by omega)
      have e2 : y2 = iI (max lo 0) := by
        rw [e2]
        by_cases q : 0 < lo
        · rw [if_pos (by rw [c1]; exact q), show max lo 0 = lo by omega]
        · rw [if_neg (by rw [c1]; exact q), show max lo 0 = 0 by omega]; rfl
      have e3 : y3 = iI (min hh 30) := by
        rw [e3]
        by_cases q : hh < 30
        · rw [if_pos (by rw [c2]; exact q), show min hh 30 = hh by omega]
        · rw [if_neg (by rw [c2]; exact q), show min hh 30 = 30 by omega]; rfl
      subst e2; subst e3
      have c3 : (iI (min hh 30) < iI (max lo 0)) = (min hh 30 < max lo 0) := ii_lt (by omega) (by omega) (by omega) (by omega)
      have fin : ∀ z : Nat, z = fsT (fun a => tI (tFit S v i a b c) (f a b)) 31 → z ≤ 31000000000000000 → X_US_goPast_90 K k k2 (nI i) (iI (S i)) (nI v) (nI b) (iI (S i - 2 * ((b : Int) - 15) + 30)) (nI c) (lN z) w := by
        intro z hz2 hzb
        unfold X_US_goPast_90
        refine sx_atM (by omega) ?_
        repeat' (first | (with_reducible refine And.intro n20 ?_) | (with_reducible refine And.intro n010 ?_) | (with_reducible refine And.intro n011 ?_) | ((with_reducible refine vq_and ?_ ?_); · (simp (disch := omega) only [nI_lit, nI_m1, nI_add, pk_mul, ni_sub, ii_sub, ii_add, ii_addL, ii_addR, ii_subL, ii_subR, ii_neg, ii_nneg, ii_mul, ii_mulL, ii_mulR, ni_div, ni_rem, ni_le, ni_lt, ni_eq, ii_le, ii_lt, ii_eq, ii_leL, ii_leR, ii_ltL, ii_ltR, ii_eqL, ii_eqR, ni_cl, vq_in, xq_si, xq_si2, xq_si3, xq_sa, xq_sa2, xq_sa3, xq_sl, xq_sl2, xq_sl3, xq_di, xq_da, xq_dl, mq_si, mq_si2, mq_si3, mq_si4, mq_sa, mq_sa2, mq_sa3, mq_sa4, mq_sl, mq_sl2, mq_sl3, mq_sl4, va_upE, Nat.reduceEqDiff, reduceIte, Nat.reduceMul, Nat.reduceAdd, Nat.reduceSub, Nat.reduceLT, Nat.reduceLeDiff, true_and, and_true, not_true, not_false_iff, or_true, true_or, eq_self])) | ((with_reducible refine br1 (fun hww => ?_) (fun hww => ?_)) <;> (try simp (disch := omega) only [nI_lit, nI_m1, nI_add, pk_mul, ni_sub, ii_sub, ii_add, ii_addL, ii_addR, ii_subL, ii_subR, ii_neg, ii_nneg, ii_mul, ii_mulL, ii_mulR, ni_div, ni_rem, ni_le, ni_lt, ni_eq, ii_le, ii_lt, ii_eq, ii_leL, ii_leR, ii_ltL, ii_ltR, ii_eqL, ii_eqR, ni_cl, vq_in, xq_si, xq_si2, xq_si3, xq_sa, xq_sa2, xq_sa3, xq_sl, xq_sl2, xq_sl3, xq_di, xq_da, xq_dl, mq_si, mq_si2, mq_si3, mq_si4, mq_sa, mq_sa2, mq_sa3, mq_sa4, mq_sl, mq_sl2, mq_sl3, mq_sl4, va_upE, Nat.reduceEqDiff, reduceIte, Nat.reduceMul, Nat.reduceAdd, Nat.reduceSub, Nat.reduceLT, Nat.reduceLeDiff, true_and, and_true, not_true, not_false_iff, or_true, true_or, eq_self] at hww) <;> (try (exfalso; omega))) | ((with_reducible refine br2 (fun hww => ?_) (fun hww => ?_)) <;> (try simp (disch := omega) only [nI_lit, nI_m1, nI_add, pk_mul, ni_sub, ii_sub, ii_add, ii_addL, ii_addR, ii_subL, ii_subR, ii_neg, ii_nneg, ii_mul, ii_mulL, ii_mulR, ni_div, ni_rem, ni_le, ni_lt, ni_eq, ii_le, ii_lt, ii_eq, ii_leL, ii_leR, ii_ltL, ii_ltR, ii_eqL, ii_eqR, ni_cl, vq_in, xq_si, xq_si2, xq_si3, xq_sa, xq_sa2, xq_sa3, xq_sl, xq_sl2, xq_sl3, xq_di, xq_da, xq_dl, mq_si, mq_si2, mq_si3, mq_si4, mq_sa, mq_sa2, mq_sa3, mq_sa4, mq_sl, mq_sl2, mq_sl3, mq_sl4, va_upE, Nat.reduceEqDiff, reduceIte, Nat.reduceMul, Nat.reduceAdd, Nat.reduceSub, Nat.reduceLT, Nat.reduceLeDiff, true_and, and_true, not_true, not_false_iff, or_true, true_or, eq_self] at hww) <;> (try (exfalso; omega))) | ((with_reducible intro uu ue); subst ue))
        refine ih2 (d2 - 1) _ _ _ _ _ _ _ (by omega) ⟨xf_l (by decide) hfw, rfl, rfl, rfl, rfl, rfl, c + 1, by simp (disch := omega) only [nI_lit, nI_m1, nI_add, pk_mul, ni_sub, ii_sub, ii_add, ii_addL, ii_addR, ii_subL, ii_subR, ii_neg, ii_nneg, ii_mul, ii_mulL, ii_mulR, ni_div, ni_rem, ni_le, ni_lt, ni_eq, ii_le, ii_lt, ii_eq, ii_leL, ii_leR, ii_ltL, ii_ltR, ii_eqL, ii_eqR, ni_cl, vq_in, xq_si, xq_si2, xq_si3, xq_sa, xq_sa2, xq_sa3, xq_sl, xq_sl2, xq_sl3, xq_di, xq_da, xq_dl, mq_si, mq_si2, mq_si3, mq_si4, mq_sa, mq_sa2, mq_sa3, mq_sa4, mq_sl, mq_sl2, mq_sl3, mq_sl4, va_upE, Nat.reduceEqDiff, reduceIte, Nat.reduceMul, Nat.reduceAdd, Nat.reduceSub, Nat.reduceLT, Nat.reduceLeDiff, true_and, and_true, not_true, not_false_iff, or_true, true_or, eq_self], by omega, fun c' hc' => ?_, fun k hk => ?_⟩
        · simp (disch := omega) only [nI_lit, nI_m1, nI_add, pk_mul, ni_sub, ii_sub, ii_add, ii_addL, ii_addR, ii_subL, ii_subR, ii_neg, ii_nneg, ii_mul, ii_mulL, ii_mulR, ni_div, ni_rem, ni_le, ni_lt, ni_eq, ii_le, ii_lt, ii_eq, ii_leL, ii_leR, ii_ltL, ii_ltR, ii_eqL, ii_eqR, ni_cl, vq_in, xq_si, xq_si2, xq_si3, xq_sa, xq_sa2, xq_sa3, xq_sl, xq_sl2, xq_sl3, xq_di, xq_da, xq_dl, mq_si, mq_si2, mq_si3, mq_si4, mq_sa, mq_sa2, mq_sa3, mq_sa4, mq_sl, mq_sl2, mq_sl3, mq_sl4, va_upE, Nat.reduceEqDiff, reduceIte, Nat.reduceMul, Nat.reduceAdd, Nat.reduceSub, Nat.reduceLT, Nat.reduceLeDiff, true_and, and_true, not_true, not_false_iff, or_true, true_or, eq_self]
          rcases Nat.lt_or_ge c' c with q | q
          · rw [pk_uLn (by omega)]; exact w604 c' q
          · have : c' = c := by omega
            subst this
            rw [pk_uLs, hz2]
        · simp (disch := omega) only [nI_lit, nI_m1, nI_add, pk_mul, ni_sub, ii_sub, ii_add, ii_addL, ii_addR, ii_subL, ii_subR, ii_neg, ii_nneg, ii_mul, ii_mulL, ii_mulR, ni_div, ni_rem, ni_le, ni_lt, ni_eq, ii_le, ii_lt, ii_eq, ii_leL, ii_leR, ii_ltL, ii_ltR, ii_eqL, ii_eqR, ni_cl, vq_in, xq_si, xq_si2, xq_si3, xq_sa, xq_sa2, xq_sa3, xq_sl, xq_sl2, xq_sl3, xq_di, xq_da, xq_dl, mq_si, mq_si2, mq_si3, mq_si4, mq_sa, mq_sa2, mq_sa3, mq_sa4, mq_sl, mq_sl2, mq_sl3, mq_sl4, va_upE, Nat.reduceEqDiff, reduceIte, Nat.reduceMul, Nat.reduceAdd, Nat.reduceSub, Nat.reduceLT, Nat.reduceLeDiff, true_and, and_true, not_true, not_false_iff, or_true, true_or, eq_self]
          rw [pk_uLn (by omega)]; exact w604' k hk
      have hbd := fsT_bd (f := fun a => tI (tFit S v i a b c) (f a b)) (B := 1000000000000000) 31 (fun s _ => Nat.le_trans (tI_le _ _) (hf s b))
      rw [c3]
      refine br1 (fun q => ?_) (fun q => ?_)
      · rw [if_pos q] at hw
        exact fin 0 hw.symm (by omega)
      · rw [if_neg q] at hw
        obtain ⟨p1, hp1⟩ := Int.eq_ofNat_of_zero_le (show 0 ≤ max lo 0 by omega)
        obtain ⟨p2, hp2⟩ := Int.eq_ofNat_of_zero_le (show 0 ≤ min hh 30 by omega)
        have w605 : ∀ k, k ≤ 31 → xl w 605 k = lN (fsT (fun a => f a b) k) := fun k hk => by rw [hfw.2.2.1 605 (by decide)]; exact y605 k hk
        rw [hp1, hp2] at hw ⊢
        rw [show ((p2 : Nat) : Int) + 1 = ((p2 + 1 : Nat) : Int) by omega, Int.toNat_natCast, Int.toNat_natCast] at hw
        rw [show iI ((p1 : Nat) : Int) = nI p1 from rfl, show iI ((p2 : Nat) : Int) = nI p2 from rfl]
        have m1 : fsT (fun a => f a b) p1 ≤ fsT (fun a => f a b) (p2 + 1) := by
          have := fsT_wn (fun a => f a b) p1 p2 (by omega) 31
          rw [show min 31 p1 = p1 by omega, show min 31 (p2 + 1) = p2 + 1 by omega] at this
          omega
        have q1 := w605 p1 (by omega)
        have q2 := w605 (p2 + 1) (by omega)
        repeat' (first | (with_reducible refine And.intro n20 ?_) | (with_reducible refine And.intro n010 ?_) | (with_reducible refine And.intro n011 ?_) | ((with_reducible refine vq_and ?_ ?_); · (simp (disch := omega) only [nI_lit, nI_m1, nI_add, pk_mul, ni_sub, ii_sub, ii_add, ii_addL, ii_addR, ii_subL, ii_subR, ii_neg, ii_nneg, ii_mul, ii_mulL, ii_mulR, ni_div, ni_rem, ni_le, ni_lt, ni_eq, ii_le, ii_lt, ii_eq, ii_leL, ii_leR, ii_ltL, ii_ltR, ii_eqL, ii_eqR, ni_cl, vq_in, xq_si, xq_si2, xq_si3, xq_sa, xq_sa2, xq_sa3, xq_sl, xq_sl2, xq_sl3, xq_di, xq_da, xq_dl, mq_si, mq_si2, mq_si3, mq_si4, mq_sa, mq_sa2, mq_sa3, mq_sa4, mq_sl, mq_sl2, mq_sl3, mq_sl4, va_upE, Nat.reduceEqDiff, reduceIte, Nat.reduceMul, Nat.reduceAdd, Nat.reduceSub, Nat.reduceLT, Nat.reduceLeDiff, true_and, and_true, not_true, not_false_iff, or_true, true_or, eq_self, q1, q2, lI_lit, lN_add, lN_mul, ll_sub, ll_lt, ll_le, ll_eq, ll_div, ll_rem, ll_n, lgn_ge, lgn_le, lgn_gt, lgn_lt, lgn_eq])) | ((with_reducible refine br1 (fun hww => ?_) (fun hww => ?_)) <;> (try simp (disch := omega) only [nI_lit, nI_m1, nI_add, pk_mul, ni_sub, ii_sub, ii_add, ii_addL, ii_addR, ii_subL, ii_subR, ii_neg, ii_nneg, ii_mul, ii_mulL, ii_mulR, ni_div, ni_rem, ni_le, ni_lt, ni_eq, ii_le, ii_lt, ii_eq, ii_leL, ii_leR, ii_ltL, ii_ltR, ii_eqL, ii_eqR, ni_cl, vq_in, xq_si, xq_si2, xq_si3, xq_sa, xq_sa2, xq_sa3, xq_sl, xq_sl2, xq_sl3, xq_di, xq_da, xq_dl, mq_si, mq_si2, mq_si3, mq_si4, mq_sa, mq_sa2, mq_sa3, mq_sa4, mq_sl, mq_sl2, mq_sl3, mq_sl4, va_upE, Nat.reduceEqDiff, reduceIte, Nat.reduceMul, Nat.reduceAdd, Nat.reduceSub, Nat.reduceLT, Nat.reduceLeDiff, true_and, and_true, not_true, not_false_iff, or_true, true_or, eq_self, q1, q2, lI_lit, lN_add, lN_mul, ll_sub, ll_lt, ll_le, ll_eq, ll_div, ll_rem, ll_n, lgn_ge, lgn_le, lgn_gt, lgn_lt, lgn_eq] at hww) <;> (try (exfalso; omega))) | ((with_reducible refine br2 (fun hww => ?_) (fun hww => ?_)) <;> (try simp (disch := omega) only [nI_lit, nI_m1, nI_add, pk_mul, ni_sub, ii_sub, ii_add, ii_addL, ii_addR, ii_subL, ii_subR, ii_neg, ii_nneg, ii_mul, ii_mulL, ii_mulR, ni_div, ni_rem, ni_le, ni_lt, ni_eq, ii_le, ii_lt, ii_eq, ii_leL, ii_leR, ii_ltL, ii_ltR, ii_eqL, ii_eqR, ni_cl, vq_in, xq_si, xq_si2, xq_si3, xq_sa, xq_sa2, xq_sa3, xq_sl, xq_sl2, xq_sl3, xq_di, xq_da, xq_dl, mq_si, mq_si2, mq_si3, mq_si4, mq_sa, mq_sa2, mq_sa3, mq_sa4, mq_sl, mq_sl2, mq_sl3, mq_sl4, va_upE, Nat.reduceEqDiff, reduceIte, Nat.reduceMul, Nat.reduceAdd, Nat.reduceSub, Nat.reduceLT, Nat.reduceLeDiff, true_and, and_true, not_true, not_false_iff, or_true, true_or, eq_self, q1, q2, lI_lit, lN_add, lN_mul, ll_sub, ll_lt, ll_le, ll_eq, ll_div, ll_rem, ll_n, lgn_ge, lgn_le, lgn_gt, lgn_lt, lgn_eq] at hww) <;> (try (exfalso; omega))) | ((with_reducible intro uu ue); subst ue))
        simp (disch := omega) only [nI_lit, nI_m1, nI_add, pk_mul, ni_sub, ii_sub, ii_add, ii_addL, ii_addR, ii_subL, ii_subR, ii_neg, ii_nneg, ii_mul, ii_mulL, ii_mulR, ni_div, ni_rem, ni_le, ni_lt, ni_eq, ii_le, ii_lt, ii_eq, ii_leL, ii_leR, ii_ltL, ii_ltR, ii_eqL, ii_eqR, ni_cl, vq_in, xq_si, xq_si2, xq_si3, xq_sa, xq_sa2, xq_sa3, xq_sl, xq_sl2, xq_sl3, xq_di, xq_da, xq_dl, mq_si, mq_si2, mq_si3, mq_si4, mq_sa, mq_sa2, mq_sa3, mq_sa4, mq_sl, mq_sl2, mq_sl3, mq_sl4, va_upE, Nat.reduceEqDiff, reduceIte, Nat.reduceMul, Nat.reduceAdd, Nat.reduceSub, Nat.reduceLT, Nat.reduceLeDiff, true_and, and_true, not_true, not_false_iff, or_true, true_or, eq_self, q1, q2, lI_lit, lN_add, lN_mul, ll_sub, ll_lt, ll_le, ll_eq, ll_div, ll_rem, ll_n, lgn_ge, lgn_le, lgn_gt, lgn_lt, lgn_eq]
        exact fin _ hw.symm (by omega)
theorem sx_goOn {x : xs_St} {b v : Nat} {S : Nat → Int} {i : Nat} {g : Nat → Prop} {K : Int32 → xs_St → Prop} (hb : b < 31) (hv : v ≤ 9) (hS : -32768 ≤ S i ∧ S i ≤ 32767) (h608 : bs (xa x 608 b) g) {H : Nat → Nat → Prop} (h607 : ∀ a, a < 31 → bs (xa x 607 a) (H a))
    (h : ∀ r y, xf [] [607] [] x y → bs r (fun a => ∃ c, c < 31 ∧ tFit S v i a b c ∧ g c) → (∀ a, a < 31 → bs (xa y 607 a) (fun j => H a j ∨ (j = b ∧ ∃ c, c < 31 ∧ tFit S v i a b c ∧ g c))) → K r y) : X_US_goOn (nI b) (iI (S i - 2 * ((b : Int) - 15) + 30)) (nI v) x K := by
  unfold X_US_goOn
  refine lqe6 (F := X_US_goOn_6_lp K) (G := X_US_goOn_6 K) (fun _ _ _ _ _ _ _ => rfl) (fun d a1 a2 a3 a4 a5 u => xf [] [607] [] x u ∧ a1 = nI b ∧ a2 = iI (S i - 2 * ((b : Int) - 15) + 30) ∧ a3 = nI v ∧ ∃ a, a5 = nI a ∧ a + d = 31 ∧ bs a4 (fun j => j < a ∧ ∃ c, c < 31 ∧ tFit S v i j b c ∧ g c) ∧ (∀ a', a' < a → bs (xa u 607 a') (fun j => H a' j ∨ (j = b ∧ ∃ c, c < 31 ∧ tFit S v i a' b c ∧ g c))) ∧ ∀ a', a ≤ a' → xa u 607 a' = xa x 607 a') ?_ 31 _ _ _ _ _ _ ⟨xf_r x, rfl, rfl, rfl, 0, rfl, rfl, bs_c bs_0 (fun j _ => ⟨fun q => q.elim, fun q => absurd q.1 (Nat.not_lt_zero j)⟩), fun a' ha => by omega, fun _ _ => rfl⟩
  rintro k d a1 a2 a3 a4 a5 u ⟨hfr, rfl, rfl, rfl, a, rfl, hd, hbs, hdone, hrest⟩ ih
  unfold X_US_goOn_6
  repeat' (first | (with_reducible refine And.intro n20 ?_) | (with_reducible refine And.intro n010 ?_) | (with_reducible refine And.intro n011 ?_) | ((with_reducible refine vq_and ?_ ?_); · (simp (disch := omega) only [nI_lit, nI_m1, nI_add, pk_mul, ni_sub, ii_sub, ii_add, ii_addL, ii_addR, ii_subL, ii_subR, ii_neg, ii_nneg, ii_mul, ii_mulL, ii_mulR, ni_div, ni_rem, ni_le, ni_lt, ni_eq, ii_le, ii_lt, ii_eq, ii_leL, ii_leR, ii_ltL, ii_ltR, ii_eqL, ii_eqR, ni_cl, vq_in, xq_si, xq_si2, xq_si3, xq_sa, xq_sa2, xq_sa3, xq_sl, xq_sl2, xq_sl3, xq_di, xq_da, xq_dl, mq_si, mq_si2, mq_si3, mq_si4, mq_sa, mq_sa2, mq_sa3, mq_sa4, mq_sl, mq_sl2, mq_sl3, mq_sl4, va_upE, Nat.reduceEqDiff, reduceIte, Nat.reduceMul, Nat.reduceAdd, Nat.reduceSub, Nat.reduceLT, Nat.reduceLeDiff, true_and, and_true, not_true, not_false_iff, or_true, true_or, eq_self])) | ((with_reducible refine br1 (fun hww => ?_) (fun hww => ?_)) <;> (try simp (disch := omega) only [nI_lit, nI_m1, nI_add, pk_mul, ni_sub, ii_sub, ii_add, ii_addL, ii_addR, ii_subL, ii_subR, ii_neg, ii_nneg, ii_mul, ii_mulL, ii_mulR, ni_div, ni_rem, ni_le, ni_lt, ni_eq, ii_le, ii_lt, ii_eq, ii_leL, ii_leR, ii_ltL, ii_ltR, ii_eqL, ii_eqR, ni_cl, vq_in, xq_si, xq_si2, xq_si3, xq_sa, xq_sa2, xq_sa3, xq_sl, xq_sl2, xq_sl3, xq_di, xq_da, xq_dl, mq_si, mq_si2, mq_si3, mq_si4, mq_sa, mq_sa2, mq_sa3, mq_sa4, mq_sl, mq_sl2, mq_sl3, mq_sl4, va_upE, Nat.reduceEqDiff, reduceIte, Nat.reduceMul, Nat.reduceAdd, Nat.reduceSub, Nat.reduceLT, Nat.reduceLeDiff, true_and, and_true, not_true, not_false_iff, or_true, true_or, eq_self] at hww) <;> (try (exfalso; omega))) | ((with_reducible refine br2 (fun hww => ?_) (fun hww => ?_)) <;> (try simp (disch := omega) only [nI_lit, nI_m1, nI_add, pk_mul, ni_sub, ii_sub, ii_add, ii_addL, ii_addR, ii_subL, ii_subR, ii_neg, ii_nneg, ii_mul, ii_mulL, ii_mulR, ni_div, ni_rem, ni_le, ni_lt, ni_eq, ii_le, ii_lt, ii_eq, ii_leL, ii_leR, ii_ltL, ii_ltR, ii_eqL, ii_eqR, ni_cl, vq_in, xq_si, xq_si2, xq_si3, xq_sa, xq_sa2, xq_sa3, xq_sl, xq_sl2, xq_sl3, xq_di, xq_da, xq_dl, mq_si, mq_si2, mq_si3, mq_si4, mq_sa, mq_sa2, mq_sa3, mq_sa4, mq_sl, mq_sl2, mq_sl3, mq_sl4, va_upE, Nat.reduceEqDiff, reduceIte, Nat.reduceMul, Nat.reduceAdd, Nat.reduceSub, Nat.reduceLT, Nat.reduceLeDiff, true_and, and_true, not_true, not_false_iff, or_true, true_or, eq_self] at hww) <;> (try (exfalso; omega))) | ((with_reducible intro uu ue); subst ue))
  · refine h _ u hfr (bs_c hbs (fun j hj => ⟨fun q => q.2, fun q => ⟨by omega, q⟩⟩)) (fun a' ha' => hdone a' (by omega))
  · have el : iI (S i - 2 * ((b : Int) - 15) + 30) - nI v - nI a = iI (S i - 2 * ((b : Int) - 15) + 30 - v - a) := by rw [ii_subL, ii_subL]
    have eh : iI (S i - 2 * ((b : Int) - 15) + 30) + nI v - nI a = iI (S i - 2 * ((b : Int) - 15) + 30 + v - a) := by rw [ii_addL, ii_subL]
    rw [el, eh]
    refine sx_bits (by omega) (by omega) (by omega) (by omega) (fun r hr => ?_)
    have u608 : bs (xa u 608 b) g := by rw [hfr.2.1 608 (by decide)]; exact h608
    have hand := bs_and hr u608
    have hiff : (∃ j : Nat, j < 31 ∧ (S i - 2 * ((b : Int) - 15) + 30 - v - a ≤ (j : Int) ∧ (j : Int) ≤ S i - 2 * ((b : Int) - 15) + 30 + v - a) ∧ g j) ↔ ∃ c, c < 31 ∧ tFit S v i a b c ∧ g c := by
      constructor
      · rintro ⟨j, hj, h1, h2⟩; exact ⟨j, hj, by unfold tFit; omega, h2⟩
      · rintro ⟨j, hj, h1, h2⟩; exact ⟨j, hj, by unfold tFit at h1; omega, h2⟩
    have go : ∀ (a4' : Int32) (w : xs_St), xf [] [607] [] x w → bs a4' (fun j => j < a + 1 ∧ ∃ c, c < 31 ∧ tFit S v i j b c ∧ g c) → (∀ a', a' < a + 1 → bs (xa w 607 a') (fun j => H a' j ∨ (j = b ∧ ∃ c, c < 31 ∧ tFit S v i a' b c ∧ g c))) → (∀ a', a + 1 ≤ a' → xa w 607 a' = xa x 607 a') → X_US_goOn_60 K k (nI b) (iI (S i - 2 * ((b : Int) - 15) + 30)) (nI v) a4' (nI a) w := by
      intro a4' w q1 q2 q3 q4
      unfold X_US_goOn_60
      intro x5 e5
      subst e5
      exact ih (d - 1) _ _ _ _ _ _ (by omega) ⟨q1, rfl, rfl, rfl, a + 1, nI_1 a, by omega, q2, q3, q4⟩
    have hH := h607 a (by omega)
    rw [← hrest a (Nat.le_refl a)] at hH
    rw [show nI b = nI b from rfl]
    refine And.intro (vp_in_nI (by omega) (by omega)) ?_
    intro y3 e3
    rw [ni_cl (show b ≤ 2147483647 by omega)] at e3
    subst e3
    refine br1 (fun q => ?_) (fun q => ?_)
    · have hno := hand.mp q
      have hno2 : ¬ ∃ c, c < 31 ∧ tFit S v i a b c ∧ g c := fun q2 => by
        obtain ⟨j, hj, h1, h2⟩ := hiff.mpr q2
        exact hno j hj ⟨h1, h2⟩
      refine go _ u hfr (bs_c hbs (fun j hj => ⟨fun q2 => ⟨by omega, q2.2⟩, fun q2 => ⟨?_, q2.2⟩⟩)) (fun a' ha' => ?_) (fun a' ha' => hrest a' (by omega))
      · rcases Nat.lt_or_ge j a with h5 | h5
        · exact h5
        · have : j = a := by omega
          subst this
          exact absurd q2.2 hno2
      · rcases Nat.lt_or_ge a' a with h5 | h5
        · exact hdone a' h5
        · have : a' = a := by omega
          subst this
          exact bs_c hH (fun j hj => ⟨fun q2 => Or.inl q2, fun q2 => q2.elim id (fun q3 => absurd q3.2 hno2)⟩)
    · have hyes : ∃ c, c < 31 ∧ tFit S v i a b c ∧ g c := by
        apply Classical.byContradiction
        intro hn
        exact q (hand.mpr (fun j hj hj2 => hn (hiff.mp ⟨j, hj, hj2.1, hj2.2⟩)))
      intro y4 e4
      subst e4
      refine And.intro (vp_in_nI (by omega) (by omega)) ?_
      intro y5 e5
      rw [ni_cl (show a ≤ 2147483647 by omega)] at e5
      subst e5
      refine And.intro (vp_in_nI (by omega) (by omega)) ?_
      intro u6 e6
      rw [ni_cl (show a ≤ 2147483647 by omega)] at e6
      subst e6
      refine go _ _ (xf_a (by decide) hfr) (bs_c (bs_or hbs (show a < 31 by omega)) (fun j hj => ⟨fun q2 => ?_, fun q2 => ?_⟩)) (fun a' ha' => ?_) (fun a' ha' => ?_)
      · rcases q2 with q2 | rfl
        · exact ⟨by omega, q2.2⟩
        · exact ⟨by omega, hyes⟩
      · by_cases e : j = a
        · exact Or.inr e
        · exact Or.inl ⟨by omega, q2.2⟩
      · simp (disch := omega) only [nI_lit, nI_m1, nI_add, pk_mul, ni_sub, ii_sub, ii_add, ii_addL, ii_addR, ii_subL, ii_subR, ii_neg, ii_nneg, ii_mul, ii_mulL, ii_mulR, ni_div, ni_rem, ni_le, ni_lt, ni_eq, ii_le, ii_lt, ii_eq, ii_leL, ii_leR, ii_ltL, ii_ltR, ii_eqL, ii_eqR, ni_cl, vq_in, xq_si, xq_si2, xq_si3, xq_sa, xq_sa2, xq_sa3, xq_sl, xq_sl2, xq_sl3, xq_di, xq_da, xq_dl, mq_si, mq_si2, mq_si3, mq_si4, mq_sa, mq_sa2, mq_sa3, mq_sa4, mq_sl, mq_sl2, mq_sl3, mq_sl4, va_upE, Nat.reduceEqDiff, reduceIte, Nat.reduceMul, Nat.reduceAdd, Nat.reduceSub, Nat.reduceLT, Nat.reduceLeDiff, true_and, and_true, not_true, not_false_iff, or_true, true_or, eq_self]
        rcases Nat.lt_or_ge a' a with h5 | h5
        · rw [pk_un (by omega)]; exact hdone a' h5
        · have : a' = a := by omega
          subst this
          rw [pk_us]
          refine bs_c (bs_or hH hb) (fun j hj => ⟨fun q2 => ?_, fun q2 => ?_⟩)
          · rcases q2 with q2 | rfl
            · exact Or.inl q2
            · exact Or.inr ⟨rfl, hyes⟩
          · rcases q2 with q2 | q2
            · exact Or.inl q2
            · exact Or.inr q2.1
      · simp (disch := omega) only [nI_lit, nI_m1, nI_add, pk_mul, ni_sub, ii_sub, ii_add, ii_addL, ii_addR, ii_subL, ii_subR, ii_neg, ii_nneg, ii_mul, ii_mulL, ii_mulR, ni_div, ni_rem, ni_le, ni_lt, ni_eq, ii_le, ii_lt, ii_eq, ii_leL, ii_leR, ii_ltL, ii_ltR, ii_eqL, ii_eqR, ni_cl, vq_in, xq_si, xq_si2, xq_si3, xq_sa, xq_sa2, xq_sa3, xq_sl, xq_sl2, xq_sl3, xq_di, xq_da, xq_dl, mq_si, mq_si2, mq_si3, mq_si4, mq_sa, mq_sa2, mq_sa3, mq_sa4, mq_sl, mq_sl2, mq_sl3, mq_sl4, va_upE, Nat.reduceEqDiff, reduceIte, Nat.reduceMul, Nat.reduceAdd, Nat.reduceSub, Nat.reduceLT, Nat.reduceLeDiff, true_and, and_true, not_true, not_false_iff, or_true, true_or, eq_self]
        rw [pk_un (by omega)]; exact hrest a' (by omega)

/-! explain: both -/
def sNoise (x : xs_St) (m : th_St) : Prop := ∃ v : Nat, v ≤ 9 ∧ xi x 303 = nI v ∧ m.2.2.1 14 0 = nI v
theorem sx_explain {x : xs_St} {m : th_St} (hT : sTape x m) (hF : sFeet x m) (hNo : sNoise x m) (hS : sShape x m) (hE : sEv x m) {K : Int32 → xs_St → Int32 → th_St → Prop} (k0 : K (-1) (xs_si x 101 0) (-1) (mT m))
    (k1 : ∀ (r : Int32) (x' : xs_St) (m' : th_St), xf [101, 708] [702, 703, 704, 705, 706, 707] [] x x' → mf [0, 2, 3, 4, 56] [51, 52, 53, 54, 55] [] m m' → xi x' 101 = 0 → m'.1 2 = 0 → sEv x' m' → K r x' r m') : X_TH_explain x (fun r x' => M_explain m (fun r' m' => K r x' r' m')) := by
  obtain ⟨N, B, hN, h1, h2, hX, hM⟩ := tB_of hT
  obtain ⟨n, hn4, hn, h300, h11⟩ := hF
  obtain ⟨v, hv, h303, h14⟩ := hNo
  obtain ⟨L, s, hSx, hSm⟩ := sh_of hS
  obtain ⟨F, f0, fG⟩ := exF_ex B s L v n
  unfold X_TH_explain
  repeat' (first | (with_reducible refine And.intro n20 ?_) | (with_reducible refine And.intro n010 ?_) | (with_reducible refine And.intro n011 ?_) | ((with_reducible refine vq_and ?_ ?_); · (simp (disch := omega) only [nI_lit, nI_m1, nI_add, pk_mul, ni_sub, ii_sub, ii_add, ii_addL, ii_addR, ii_subL, ii_subR, ii_neg, ii_nneg, ii_mul, ii_mulL, ii_mulR, ni_div, ni_rem, ni_le, ni_lt, ni_eq, ii_le, ii_lt, ii_eq, ii_leL, ii_leR, ii_ltL, ii_ltR, ii_eqL, ii_eqR, ni_cl, vq_in, xq_si, xq_si2, xq_si3, xq_sa, xq_sa2, xq_sa3, xq_sl, xq_sl2, xq_sl3, xq_di, xq_da, xq_dl, mq_si, mq_si2, mq_si3, mq_si4, mq_sa, mq_sa2, mq_sa3, mq_sa4, mq_sl, mq_sl2, mq_sl3, mq_sl4, va_upE, Nat.reduceEqDiff, reduceIte, Nat.reduceMul, Nat.reduceAdd, Nat.reduceSub, Nat.reduceLT, Nat.reduceLeDiff, true_and, and_true, not_true, not_false_iff, or_true, true_or, eq_self, h1, h300])) | ((with_reducible refine br1 (fun hww => ?_) (fun hww => ?_)) <;> (try simp (disch := omega) only [nI_lit, nI_m1, nI_add, pk_mul, ni_sub, ii_sub, ii_add, ii_addL, ii_addR, ii_subL, ii_subR, ii_neg, ii_nneg, ii_mul, ii_mulL, ii_mulR, ni_div, ni_rem, ni_le, ni_lt, ni_eq, ii_le, ii_lt, ii_eq, ii_leL, ii_leR, ii_ltL, ii_ltR, ii_eqL, ii_eqR, ni_cl, vq_in, xq_si, xq_si2, xq_si3, xq_sa, xq_sa2, xq_sa3, xq_sl, xq_sl2, xq_sl3, xq_di, xq_da, xq_dl, mq_si, mq_si2, mq_si3, mq_si4, mq_sa, mq_sa2, mq_sa3, mq_sa4, mq_sl, mq_sl2, mq_sl3, mq_sl4, va_upE, Nat.reduceEqDiff, reduceIte, Nat.reduceMul, Nat.reduceAdd, Nat.reduceSub, Nat.reduceLT, Nat.reduceLeDiff, true_and, and_true, not_true, not_false_iff, or_true, true_or, eq_self, h1, h300] at hww) <;> (try (exfalso; omega))) | ((with_reducible refine br2 (fun hww => ?_) (fun hww => ?_)) <;> (try simp (disch := omega) only [nI_lit, nI_m1, nI_add, pk_mul, ni_sub, ii_sub, ii_add, ii_addL, ii_addR, ii_subL, ii_subR, ii_neg, ii_nneg, ii_mul, ii_mulL, ii_mulR, ni_div, ni_rem, ni_le, ni_lt, ni_eq, ii_le, ii_lt, ii_eq, ii_leL, ii_leR, ii_ltL, ii_ltR, ii_eqL, ii_eqR, ni_cl, vq_in, xq_si, xq_si2, xq_si3, xq_sa, xq_sa2, xq_sa3, xq_sl, xq_sl2, xq_sl3, xq_di, xq_da, xq_dl, mq_si, mq_si2, mq_si3, mq_si4, mq_sa, mq_sa2, mq_sa3, mq_sa4, mq_sl, mq_sl2, mq_sl3, mq_sl4, va_upE, Nat.reduceEqDiff, reduceIte, Nat.reduceMul, Nat.reduceAdd, Nat.reduceSub, Nat.reduceLT, Nat.reduceLeDiff, true_and, and_true, not_true, not_false_iff, or_true, true_or, eq_self, h1, h300] at hww) <;> (try (exfalso; omega))) | ((with_reducible intro uu ue); subst ue))
  · unfold X_TH_explain_45
    refine tx_c ?_
    exact mx_explain hN h2 hn4 hn hM h11 hSm h14 hv f0 fG (fun _ => k0) (fun h => absurd h (by omega)) (fun h => absurd h (by omega))
  · have e : N = n := by omega
    subst e
    rw [h300, h303]
    refine sx_few hn h1 hX hSx hv f0 fG (fun hno y hy => ?_) (fun hyes y hy hlen y708 yarr => ?_)
    · unfold X_TH_explain_45
      refine tx_c ?_
      refine mx_explain hN h2 hn4 hn hM h11 hSm h14 hv f0 fG (fun h => absurd rfl h) (fun _ _ y' hy' y2 y56 y53 y54 y55 => ?_) (fun _ h => absurd h hno)
      refine k1 _ _ _ (xf_i (by decide) (xf_w hy (by decide) (by decide) (by decide))) hy' rfl y2 ?_
      obtain ⟨c, hc, c1, c2, c3⟩ := hE
      refine ⟨c, hc, ?_, y56.trans c2, fun k hk => ?_⟩
      · show xi y 708 = _
        rw [hy.1 708 (by decide)]; exact c1
      · show xa y 705 k = _ ∧ xa y 706 k = _ ∧ xa y 707 k = _
        rw [hy.2.1 705 (by decide), hy.2.1 706 (by decide), hy.2.1 707 (by decide), y53, y54, y55]
        exact c3 k hk
    · unfold X_TH_explain_45
      refine tx_c ?_
      refine mx_explain hN h2 hn4 hn hM h11 hSm h14 hv f0 fG (fun h => absurd rfl h) (fun _ h => absurd hyes h) (fun _ _ y' hy' y2 y56 yarr' => ?_)
      refine k1 _ _ _ (xf_i (by decide) (xf_w hy (by decide) (by decide) (by decide))) hy' rfl y2 ⟨_, hlen, y708, y56, fun k hk => ?_⟩
      show xa y 705 k = _ ∧ xa y 706 k = _ ∧ xa y 707 k = _
      rw [(yarr k hk).1, (yarr k hk).2.1, (yarr k hk).2.2, (yarr' k hk).1, (yarr' k hk).2.1, (yarr' k hk).2.2]
      exact ⟨rfl, rfl, rfl⟩

/-! tellings: one side, the bounds and the whole -/
theorem tGp {S : Nat → Int} {v n i a b : Nat} (hi : i < n) : (0 < tG S v (n - i) i a b) ↔ ∃ c, c < 31 ∧ tFit S v i a b c ∧ 0 < tG S v (n - (i + 1)) (i + 1) b c := by
  rw [show n - i = (n - (i + 1)) + 1 by omega, tG, fsT_p]
  constructor
  · rintro ⟨c, hc, h⟩; exact ⟨c, hc, (tI_p _ _).mp h⟩
  · rintro ⟨c, hc, h⟩; exact ⟨c, hc, (tI_p _ _).mpr h⟩
def tS (B : Nat → Int) (i : Nat) : Int := B (2 * i) * 256 + B (2 * i + 1) % 256
theorem tS_b {B : Nat → Int} (h : ∀ i, -128 ≤ B i ∧ B i ≤ 127) (i : Nat) : -32768 ≤ tS B i ∧ tS B i ≤ 32767 := by
  have h1 := h (2 * i)
  unfold tS; omega
theorem sx_note {x : xs_St} {n N v : Nat} {B : Nat → Int} {K : xs_St → Prop} (hN : N ≤ 440) (h1 : xi x 101 = nI N) (hB : tB (xa x 100) N B) (hn : n ≤ 48) (hn2 : 2 * n ≤ N) (hv : v ≤ 9) (htot : 0 < tJ (tS B) v n 0) (h606 : ∀ i b, i < n → b < 31 → bs (xa x 606 (i * 31 + b)) (fun a => 0 < tF (tS B) v i a b))
    (h : ∀ y, xf [602] [600, 601, 607, 608] [] x y → xi y 602 = nI n → (∀ k, k < n → ∃ z w : Int, xa y 600 k = iI z ∧ xa y 601 k = iI w ∧ tLe (tFe (tS B) v n k) z ∧ tMo (tFe (tS B) v n k) w) → K y) : X_US_noteBounds (nI n) (nI v) x K := by
  have hSb := tS_b hB.1
  unfold X_US_noteBounds
  intro u1 e1; subst e1
  refine fi_608 (fun y hy h608 => ?_)
  intro y4 e4
  have e4 : y4 = dn n := by
    rw [e4]
    cases n with
    | zero => rfl
    | succ n => rw [dn_s, show (1 : Int32) = nI 1 from rfl, ni_sub (by omega)]; rfl
  subst e4
  refine lqe3 (F := X_US_noteBounds_19_lp K) (G := X_US_noteBounds_19 K) (fun _ _ _ _ => rfl) (fun d a1 a2 u => xf [602] [600, 601, 607, 608] [] x u ∧ xi u 602 = nI n ∧ d ≤ n ∧ a1 = nI v ∧ a2 = dn d ∧ (∀ b, b < 31 → bs (xa u 608 b) (fun c => 0 < tG (tS B) v (n - d) d b c)) ∧ ∀ k, d ≤ k → k < n → ∃ z w : Int, xa u 600 k = iI z ∧ xa u 601 k = iI w ∧ tLe (tFe (tS B) v n k) z ∧ tMo (tFe (tS B) v n k) w) ?_ n _ _ _ ⟨xf_t (xf_i (by decide) (xf_r x)) (xf_w hy (by decide) (by decide) (by decide)), by rw [hy.1 602 (by decide)]; rfl, Nat.le_refl n, rfl, rfl, fun b hb => ?_, fun k h1 h2 => by omega⟩
  case refine_2 =>
    rw [h608 b hb, Nat.sub_self]
    refine bs_c bs_15 (fun c hc => ?_)
    rw [tG]
    by_cases e : c = 15
    · rw [if_pos e]; exact ⟨fun _ => by omega, fun _ => e⟩
    · rw [if_neg e]; exact ⟨fun q => absurd q e, fun q => absurd q (Nat.lt_irrefl 0)⟩
  rintro k d a1 a2 u ⟨hfr, u602, hd, rfl, rfl, u608, udone⟩ ih
  unfold X_US_noteBounds_19 X_US_noteBounds_178
  cases d with
  | zero =>
    rw [dn_0]
    repeat' (first | (with_reducible refine And.intro n20 ?_) | (with_reducible refine And.intro n010 ?_) | (with_reducible refine And.intro n011 ?_) | ((with_reducible refine vq_and ?_ ?_); · (simp (disch := omega) only [nI_lit, nI_m1, nI_add, pk_mul, ni_sub, ii_sub, ii_add, ii_addL, ii_addR, ii_subL, ii_subR, ii_neg, ii_nneg, ii_mul, ii_mulL, ii_mulR, ni_div, ni_rem, ni_le, ni_lt, ni_eq, ii_le, ii_lt, ii_eq, ii_leL, ii_leR, ii_ltL, ii_ltR, ii_eqL, ii_eqR, ni_cl, vq_in, xq_si, xq_si2, xq_si3, xq_sa, xq_sa2, xq_sa3, xq_sl, xq_sl2, xq_sl3, xq_di, xq_da, xq_dl, mq_si, mq_si2, mq_si3, mq_si4, mq_sa, mq_sa2, mq_sa3, mq_sa4, mq_sl, mq_sl2, mq_sl3, mq_sl4, va_upE, Nat.reduceEqDiff, reduceIte, Nat.reduceMul, Nat.reduceAdd, Nat.reduceSub, Nat.reduceLT, Nat.reduceLeDiff, true_and, and_true, not_true, not_false_iff, or_true, true_or, eq_self])) | ((with_reducible refine br1 (fun hww => ?_) (fun hww => ?_)) <;> (try simp (disch := omega) only [nI_lit, nI_m1, nI_add, pk_mul, ni_sub, ii_sub, ii_add, ii_addL, ii_addR, ii_subL, ii_subR, ii_neg, ii_nneg, ii_mul, ii_mulL, ii_mulR, ni_div, ni_rem, ni_le, ni_lt, ni_eq, ii_le, ii_lt, ii_eq, ii_leL, ii_leR, ii_ltL, ii_ltR, ii_eqL, ii_eqR, ni_cl, vq_in, xq_si, xq_si2, xq_si3, xq_sa, xq_sa2, xq_sa3, xq_sl, xq_sl2, xq_sl3, xq_di, xq_da, xq_dl, mq_si, mq_si2, mq_si3, mq_si4, mq_sa, mq_sa2, mq_sa3, mq_sa4, mq_sl, mq_sl2, mq_sl3, mq_sl4, va_upE, Nat.reduceEqDiff, reduceIte, Nat.reduceMul, Nat.reduceAdd, Nat.reduceSub, Nat.reduceLT, Nat.reduceLeDiff, true_and, and_true, not_true, not_false_iff, or_true, true_or, eq_self] at hww) <;> (try (exfalso; omega))) | ((with_reducible refine br2 (fun hww => ?_) (fun hww => ?_)) <;> (try simp (disch := omega) only [nI_lit, nI_m1, nI_add, pk_mul, ni_sub, ii_sub, ii_add, ii_addL, ii_addR, ii_subL, ii_subR, ii_neg, ii_nneg, ii_mul, ii_mulL, ii_mulR, ni_div, ni_rem, ni_le, ni_lt, ni_eq, ii_le, ii_lt, ii_eq, ii_leL, ii_leR, ii_ltL, ii_ltR, ii_eqL, ii_eqR, ni_cl, vq_in, xq_si, xq_si2, xq_si3, xq_sa, xq_sa2, xq_sa3, xq_sl, xq_sl2, xq_sl3, xq_di, xq_da, xq_dl, mq_si, mq_si2, mq_si3, mq_si4, mq_sa, mq_sa2, mq_sa3, mq_sa4, mq_sl, mq_sl2, mq_sl3, mq_sl4, va_upE, Nat.reduceEqDiff, reduceIte, Nat.reduceMul, Nat.reduceAdd, Nat.reduceSub, Nat.reduceLT, Nat.reduceLeDiff, true_and, and_true, not_true, not_false_iff, or_true, true_or, eq_self] at hww) <;> (try (exfalso; omega))) | ((with_reducible intro uu ue); subst ue))
    exact h u hfr u602 (fun k hk => udone k (Nat.zero_le k) hk)
  | succ i =>
    rw [dn_s]
    repeat' (first | (with_reducible refine And.intro n20 ?_) | (with_reducible refine And.intro n010 ?_) | (with_reducible refine And.intro n011 ?_) | ((with_reducible refine vq_and ?_ ?_); · (simp (disch := omega) only [nI_lit, nI_m1, nI_add, pk_mul, ni_sub, ii_sub, ii_add, ii_addL, ii_addR, ii_subL, ii_subR, ii_neg, ii_nneg, ii_mul, ii_mulL, ii_mulR, ni_div, ni_rem, ni_le, ni_lt, ni_eq, ii_le, ii_lt, ii_eq, ii_leL, ii_leR, ii_ltL, ii_ltR, ii_eqL, ii_eqR, ni_cl, vq_in, xq_si, xq_si2, xq_si3, xq_sa, xq_sa2, xq_sa3, xq_sl, xq_sl2, xq_sl3, xq_di, xq_da, xq_dl, mq_si, mq_si2, mq_si3, mq_si4, mq_sa, mq_sa2, mq_sa3, mq_sa4, mq_sl, mq_sl2, mq_sl3, mq_sl4, va_upE, Nat.reduceEqDiff, reduceIte, Nat.reduceMul, Nat.reduceAdd, Nat.reduceSub, Nat.reduceLT, Nat.reduceLeDiff, true_and, and_true, not_true, not_false_iff, or_true, true_or, eq_self])) | ((with_reducible refine br1 (fun hww => ?_) (fun hww => ?_)) <;> (try simp (disch := omega) only [nI_lit, nI_m1, nI_add, pk_mul, ni_sub, ii_sub, ii_add, ii_addL, ii_addR, ii_subL, ii_subR, ii_neg, ii_nneg, ii_mul, ii_mulL, ii_mulR, ni_div, ni_rem, ni_le, ni_lt, ni_eq, ii_le, ii_lt, ii_eq, ii_leL, ii_leR, ii_ltL, ii_ltR, ii_eqL, ii_eqR, ni_cl, vq_in, xq_si, xq_si2, xq_si3, xq_sa, xq_sa2, xq_sa3, xq_sl, xq_sl2, xq_sl3, xq_di, xq_da, xq_dl, mq_si, mq_si2, mq_si3, mq_si4, mq_sa, mq_sa2, mq_sa3, mq_sa4, mq_sl, mq_sl2, mq_sl3, mq_sl4, va_upE, Nat.reduceEqDiff, reduceIte, Nat.reduceMul, Nat.reduceAdd, Nat.reduceSub, Nat.reduceLT, Nat.reduceLeDiff, true_and, and_true, not_true, not_false_iff, or_true, true_or, eq_self] at hww) <;> (try (exfalso; omega))) | ((with_reducible refine br2 (fun hww => ?_) (fun hww => ?_)) <;> (try simp (disch := omega) only [nI_lit, nI_m1, nI_add, pk_mul, ni_sub, ii_sub, ii_add, ii_addL, ii_addR, ii_subL, ii_subR, ii_neg, ii_nneg, ii_mul, ii_mulL, ii_mulR, ni_div, ni_rem, ni_le, ni_lt, ni_eq, ii_le, ii_lt, ii_eq, ii_leL, ii_leR, ii_ltL, ii_ltR, ii_eqL, ii_eqR, ni_cl, vq_in, xq_si, xq_si2, xq_si3, xq_sa, xq_sa2, xq_sa3, xq_sl, xq_sl2, xq_sl3, xq_di, xq_da, xq_dl, mq_si, mq_si2, mq_si3, mq_si4, mq_sa, mq_sa2, mq_sa3, mq_sa4, mq_sl, mq_sl2, mq_sl3, mq_sl4, va_upE, Nat.reduceEqDiff, reduceIte, Nat.reduceMul, Nat.reduceAdd, Nat.reduceSub, Nat.reduceLT, Nat.reduceLeDiff, true_and, and_true, not_true, not_false_iff, or_true, true_or, eq_self] at hww) <;> (try (exfalso; omega))) | ((with_reducible intro uu ue); subst ue))
    simp (disch := omega) only [nI_lit, nI_m1, nI_add, pk_mul, ni_sub, ii_sub, ii_add, ii_addL, ii_addR, ii_subL, ii_subR, ii_neg, ii_nneg, ii_mul, ii_mulL, ii_mulR, ni_div, ni_rem, ni_le, ni_lt, ni_eq, ii_le, ii_lt, ii_eq, ii_leL, ii_leR, ii_ltL, ii_ltR, ii_eqL, ii_eqR, ni_cl, vq_in, xq_si, xq_si2, xq_si3, xq_sa, xq_sa2, xq_sa3, xq_sl, xq_sl2, xq_sl3, xq_di, xq_da, xq_dl, mq_si, mq_si2, mq_si3, mq_si4, mq_sa, mq_sa2, mq_sa3, mq_sa4, mq_sl, mq_sl2, mq_sl3, mq_sl4, va_upE, Nat.reduceEqDiff, reduceIte, Nat.reduceMul, Nat.reduceAdd, Nat.reduceSub, Nat.reduceLT, Nat.reduceLeDiff, true_and, and_true, not_true, not_false_iff, or_true, true_or, eq_self]
    refine fi_607 (fun y2 hy2 h607 => ?_)
    have F2 : xf [602] [600, 601, 607, 608] [] x y2 := xf_t (xf_a (by decide) (xf_a (by decide) hfr)) (xf_w hy2 (by decide) (by decide) (by decide))
    have y600 : ∀ j, xa y2 600 j = upd (xa u 600) i (15 : Int32) j := fun j => by rw [hy2.2.1 600 (by decide)]; rfl
    have y601 : ∀ j, xa y2 601 j = upd (xa u 601) i (-15 : Int32) j := fun j => by rw [hy2.2.1 601 (by decide)]; rfl
    have y608 : xa y2 608 = xa u 608 := by rw [hy2.2.1 608 (by decide)]; rfl
    refine lqe4 (F := X_US_noteBounds_60_lp K k) (G := X_US_noteBounds_60 K k) (fun _ _ _ _ _ => rfl) (fun d2 a1 a2 a3 w => xf [602] [600, 601, 607, 608] [] x w ∧ xi w 602 = nI n ∧ a1 = nI v ∧ a2 = nI i ∧ xa w 608 = xa u 608 ∧ (∀ j, j ≠ i → xa w 600 j = xa u 600 j ∧ xa w 601 j = xa u 601 j) ∧ ∃ b, a3 = nI b ∧ b + d2 = 31 ∧ (∀ a, a < 31 → bs (xa w 607 a) (fun j => j < b ∧ 0 < tG (tS B) v (n - i) i a j)) ∧ ∃ z q : Int, xa w 600 i = iI z ∧ xa w 601 i = iI q ∧ (-15 ≤ z ∧ z ≤ 15 ∧ -15 ≤ q ∧ q ≤ 15) ∧ tLs 15 (fun j => j < b ∧ tFe (tS B) v n i j) z ∧ tMs (-15) (fun j => j < b ∧ tFe (tS B) v n i j) q) ?_ 31 _ _ _ _ ⟨F2, by rw [hy2.1 602 (by decide)]; exact u602, rfl, rfl, y608, fun j hj => ⟨by rw [y600, pk_un hj], by rw [y601, pk_un hj]⟩, 0, rfl, rfl, fun a ha => ?_, 15, -15, by rw [y600, pk_us]; rfl, by rw [y601, pk_us]; rfl, by omega, tLs_c (tLs_0 15) (fun b _ => ⟨fun q => q.elim, fun q => absurd q.1 (Nat.not_lt_zero b)⟩), tMs_c (tMs_0 (-15)) (fun b _ => ⟨fun q => q.elim, fun q => absurd q.1 (Nat.not_lt_zero b)⟩)⟩
    case refine_2 =>
      rw [h607 a ha]
      exact bs_c bs_0 (fun j _ => ⟨fun q => q.elim, fun q => absurd q.1 (Nat.not_lt_zero j)⟩)
    rintro k2 d2 a1 a2 a3 w ⟨hfw, w602, rfl, rfl, w608, woth, b, rfl, hd2, w607, z, q, w600, w601, hzq, hls, hms⟩ ih2
    unfold X_US_noteBounds_60
    refine br1 (fun g => ?_) (fun g => ?_)
    · simp (disch := omega) only [nI_lit, nI_m1, nI_add, pk_mul, ni_sub, ii_sub, ii_add, ii_addL, ii_addR, ii_subL, ii_subR, ii_neg, ii_nneg, ii_mul, ii_mulL, ii_mulR, ni_div, ni_rem, ni_le, ni_lt, ni_eq, ii_le, ii_lt, ii_eq, ii_leL, ii_leR, ii_ltL, ii_ltR, ii_eqL, ii_eqR, ni_cl, vq_in, xq_si, xq_si2, xq_si3, xq_sa, xq_sa2, xq_sa3, xq_sl, xq_sl2, xq_sl3, xq_di, xq_da, xq_dl, mq_si, mq_si2, mq_si3, mq_si4, mq_sa, mq_sa2, mq_sa3, mq_sa4, mq_sl, mq_sl2, mq_sl3, mq_sl4, va_upE, Nat.reduceEqDiff, reduceIte, Nat.reduceMul, Nat.reduceAdd, Nat.reduceSub, Nat.reduceLT, Nat.reduceLeDiff, true_and, and_true, not_true, not_false_iff, or_true, true_or, eq_self] at g
      have hb : b = 31 := by omega
      subst hb
      intro u2 e2 x4 e4
      subst e2
      rw [dn_m] at e4
      subst e4
      refine ih i _ _ _ (by omega) ⟨xf_a (by decide) (xf_a (by decide) hfw), w602, by omega, rfl, rfl, fun b hb => ?_, fun k hk1 hk2 => ?_⟩
      · unfold xw_608_607
        simp (disch := omega) only [nI_lit, nI_m1, nI_add, pk_mul, ni_sub, ii_sub, ii_add, ii_addL, ii_addR, ii_subL, ii_subR, ii_neg, ii_nneg, ii_mul, ii_mulL, ii_mulR, ni_div, ni_rem, ni_le, ni_lt, ni_eq, ii_le, ii_lt, ii_eq, ii_leL, ii_leR, ii_ltL, ii_ltR, ii_eqL, ii_eqR, ni_cl, vq_in, xq_si, xq_si2, xq_si3, xq_sa, xq_sa2, xq_sa3, xq_sl, xq_sl2, xq_sl3, xq_di, xq_da, xq_dl, mq_si, mq_si2, mq_si3, mq_si4, mq_sa, mq_sa2, mq_sa3, mq_sa4, mq_sl, mq_sl2, mq_sl3, mq_sl4, va_upE, Nat.reduceEqDiff, reduceIte, Nat.reduceMul, Nat.reduceAdd, Nat.reduceSub, Nat.reduceLT, Nat.reduceLeDiff, true_and, and_true, not_true, not_false_iff, or_true, true_or, eq_self]
        exact bs_c (w607 b hb) (fun j hj => ⟨fun q => q.2, fun q => ⟨hj, q⟩⟩)
      · have hex := tFe_ex htot (show i ≤ n by omega)
        by_cases e : k = i
        · subst e
          exact ⟨z, q, w600, w601, tLs_e (by omega) (tLs_c hls (fun b hb => ⟨fun q => q.2, fun q => ⟨hb, q⟩⟩)) hex, tMs_e (by omega) (tMs_c hms (fun b hb => ⟨fun q => q.2, fun q => ⟨hb, q⟩⟩)) hex⟩
        · obtain ⟨z2, q2, g1, g2, g3⟩ := udone k (by omega) hk2
          exact ⟨z2, q2, (woth k e).1.trans g1, (woth k e).2.trans g2, g3⟩
    · simp (disch := omega) only [nI_lit, nI_m1, nI_add, pk_mul, ni_sub, ii_sub, ii_add, ii_addL, ii_addR, ii_subL, ii_subR, ii_neg, ii_nneg, ii_mul, ii_mulL, ii_mulR, ni_div, ni_rem, ni_le, ni_lt, ni_eq, ii_le, ii_lt, ii_eq, ii_leL, ii_leR, ii_ltL, ii_ltR, ii_eqL, ii_eqR, ni_cl, vq_in, xq_si, xq_si2, xq_si3, xq_sa, xq_sa2, xq_sa3, xq_sl, xq_sl2, xq_sl3, xq_di, xq_da, xq_dl, mq_si, mq_si2, mq_si3, mq_si4, mq_sa, mq_sa2, mq_sa3, mq_sa4, mq_sl, mq_sl2, mq_sl3, mq_sl4, va_upE, Nat.reduceEqDiff, reduceIte, Nat.reduceMul, Nat.reduceAdd, Nat.reduceSub, Nat.reduceLT, Nat.reduceLeDiff, true_and, and_true, not_true, not_false_iff, or_true, true_or, eq_self] at g
      have eB : tB (xa w 100) N B := by rw [hfw.2.1 100 (by decide)]; exact hB
      refine sx_pairX hN ((hfw.1 101 (by decide)).trans h1) eB (by omega) ?_
      unfold X_US_outerSum
      have eo : iI (B (2 * i) * 256 + B (2 * i + 1) % 256) - (2 : Int32) * (nI b - (15 : Int32)) + (30 : Int32) = iI (tS B i - 2 * ((b : Int) - 15) + 30) := by
        rw [show nI b - (15 : Int32) = iI ((b : Int) - 15) from ii_nsub b 15, show (2 : Int32) = iI 2 from rfl, ii_mul, ii_sub, show (30 : Int32) = iI 30 from rfl, ii_add]; rfl
      rw [eo]
      refine sx_goOn (S := tS B) (g := fun c => 0 < tG (tS B) v (n - (i + 1)) (i + 1) b c) (H := fun a j => j < b ∧ 0 < tG (tS B) v (n - i) i a j) (by omega) hv (hSb i) (by rw [w608]; exact u608 b (by omega)) w607 (fun r y hy3 hr h607b => ?_)
      have hr := bs_c hr (Q := fun a => 0 < tG (tS B) v (n - i) i a b) (fun a _ => (tGp (by omega)).symm)
      have y606 : bs (xa y 606 (i * 31 + b)) (fun a => 0 < tF (tS B) v i a b) := by
        rw [hy3.2.1 606 (by decide), hfw.2.1 606 (by decide)]; exact h606 i b (by omega) (by omega)
      have hand := bs_and hr y606
      have F3 : xf [602] [600, 601, 607, 608] [] x y := xf_t hfw (xf_w hy3 (by decide) (by decide) (by decide))
      have y607 : ∀ a, a < 31 → bs (xa y 607 a) (fun j => j < b + 1 ∧ 0 < tG (tS B) v (n - i) i a j) := fun a ha => bs_c (h607b a ha) (fun j hj => by
        constructor
        · rintro (q | ⟨rfl, q⟩)
          · exact ⟨by omega, q.2⟩
          · exact ⟨by omega, (tGp (by omega)).mpr q⟩
        · rintro ⟨q1, q2⟩
          by_cases e : j = b
          · subst e; exact Or.inr ⟨rfl, (tGp (by omega)).mp q2⟩
          · exact Or.inl ⟨by omega, q2⟩)
      have y600e : xa y 600 = xa w 600 := hy3.2.1 600 (by decide)
      have y601e : xa y 601 = xa w 601 := hy3.2.1 601 (by decide)
      have y608e : xa y 608 = xa u 608 := (hy3.2.1 608 (by decide)).trans w608
      have y602e : xi y 602 = nI n := (hy3.1 602 (by decide)).trans w602
      have go : ∀ (w' : xs_St), xf [602] [600, 601, 607, 608] [] x w' → xi w' 602 = nI n → xa w' 608 = xa u 608 → (∀ j, j ≠ i → xa w' 600 j = xa u 600 j ∧ xa w' 601 j = xa u 601 j) → (∀ a, a < 31 → bs (xa w' 607 a) (fun j => j < b + 1 ∧ 0 < tG (tS B) v (n - i) i a j)) → (∃ z q : Int, xa w' 600 i = iI z ∧ xa w' 601 i = iI q ∧ (-15 ≤ z ∧ z ≤ 15 ∧ -15 ≤ q ∧ q ≤ 15) ∧ tLs 15 (fun j => j < b + 1 ∧ tFe (tS B) v n i j) z ∧ tMs (-15) (fun j => j < b + 1 ∧ tFe (tS B) v n i j) q) → X_US_noteBounds_146 K k k2 (nI v) (nI i) (nI b) w' := by
        intro w' q1 q2 q3 q4 q5 q6
        unfold X_US_noteBounds_146
        intro x5 e5
        subst e5
        exact ih2 (d2 - 1) _ _ _ _ (by omega) ⟨q1, q2, rfl, rfl, q3, q4, b + 1, nI_1 b, by omega, q5, q6⟩
      refine And.intro (by simp (disch := omega) only [nI_lit, nI_m1, nI_add, pk_mul, ni_sub, ii_sub, ii_add, ii_addL, ii_addR, ii_subL, ii_subR, ii_neg, ii_nneg, ii_mul, ii_mulL, ii_mulR, ni_div, ni_rem, ni_le, ni_lt, ni_eq, ii_le, ii_lt, ii_eq, ii_leL, ii_leR, ii_ltL, ii_ltR, ii_eqL, ii_eqR, ni_cl, vq_in, xq_si, xq_si2, xq_si3, xq_sa, xq_sa2, xq_sa3, xq_sl, xq_sl2, xq_sl3, xq_di, xq_da, xq_dl, mq_si, mq_si2, mq_si3, mq_si4, mq_sa, mq_sa2, mq_sa3, mq_sa4, mq_sl, mq_sl2, mq_sl3, mq_sl4, va_upE, Nat.reduceEqDiff, reduceIte, Nat.reduceMul, Nat.reduceAdd, Nat.reduceSub, Nat.reduceLT, Nat.reduceLeDiff, true_and, and_true, not_true, not_false_iff, or_true, true_or, eq_self]) ?_
      intro y10 e10
      rw [show (nI i * (31 : Int32) + nI b).toNatClampNeg = i * 31 + b by simp (disch := omega) only [nI_lit, nI_m1, nI_add, pk_mul, ni_sub, ii_sub, ii_add, ii_addL, ii_addR, ii_subL, ii_subR, ii_neg, ii_nneg, ii_mul, ii_mulL, ii_mulR, ni_div, ni_rem, ni_le, ni_lt, ni_eq, ii_le, ii_lt, ii_eq, ii_leL, ii_leR, ii_ltL, ii_ltR, ii_eqL, ii_eqR, ni_cl, vq_in, xq_si, xq_si2, xq_si3, xq_sa, xq_sa2, xq_sa3, xq_sl, xq_sl2, xq_sl3, xq_di, xq_da, xq_dl, mq_si, mq_si2, mq_si3, mq_si4, mq_sa, mq_sa2, mq_sa3, mq_sa4, mq_sl, mq_sl2, mq_sl3, mq_sl4, va_upE, Nat.reduceEqDiff, reduceIte, Nat.reduceMul, Nat.reduceAdd, Nat.reduceSub, Nat.reduceLT, Nat.reduceLeDiff, true_and, and_true, not_true, not_false_iff, or_true, true_or, eq_self]] at e10
      subst e10
      refine br1 (fun q1 => ?_) (fun q1 => ?_)
      · have hno := hand.mp q1
        have hno2 : ¬ tFe (tS B) v n i b := fun ⟨a, ha, g1, g2⟩ => hno a ha ⟨g2, g1⟩
        have hPQ : ∀ j, j < 31 → ((j < b ∧ tFe (tS B) v n i j) ↔ (j < b + 1 ∧ tFe (tS B) v n i j)) := fun j hj => ⟨fun g => ⟨by omega, g.2⟩, fun g => ⟨by
          rcases Nat.lt_or_ge j b with h5 | h5
          · exact h5
          · have : j = b := by omega
            subst this
            exact absurd g.2 hno2, g.2⟩⟩
        exact go y F3 y602e y608e (fun j hj => ⟨by rw [y600e]; exact (woth j hj).1, by rw [y601e]; exact (woth j hj).2⟩) y607 ⟨z, q, by rw [y600e]; exact w600, by rw [y601e]; exact w601, hzq, tLs_c hls hPQ, tMs_c hms hPQ⟩
      · have hyes : tFe (tS B) v n i b := by
          apply Classical.byContradiction
          intro hn3
          exact q1 (hand.mpr (fun j hj hj2 => hn3 ⟨j, hj, hj2.2, hj2.1⟩))
        have hPQ : ∀ j, j < 31 → (((j < b ∧ tFe (tS B) v n i j) ∨ j = b) ↔ (j < b + 1 ∧ tFe (tS B) v n i j)) := fun j hj => by
          constructor
          · rintro (g | rfl)
            · exact ⟨by omega, g.2⟩
            · exact ⟨by omega, hyes⟩
          · rintro ⟨g1, g2⟩
            by_cases e : j = b
            · exact Or.inr e
            · exact Or.inl ⟨by omega, g2⟩
        have eb : nI b - (15 : Int32) = iI ((b : Int) - 15) := ii_nsub b 15
        have c1 : (iI ((b : Int) - 15) < iI z) = ((b : Int) - 15 < z) := ii_lt (by omega) (by omega) (by omega) (by omega)
        have c2 : (iI q < iI ((b : Int) - 15)) = (q < (b : Int) - 15) := ii_lt (by omega) (by omega) (by omega) (by omega)
        have z1 : (if iI ((b : Int) - 15) < iI z then iI ((b : Int) - 15) else iI z) = iI (if (b : Int) - 15 < z then (b : Int) - 15 else z) := by
          by_cases g : (b : Int) - 15 < z
          · rw [if_pos g, if_pos (by rw [c1]; exact g)]
          · rw [if_neg g, if_neg (by rw [c1]; exact g)]
        have z2 : (if iI q < iI ((b : Int) - 15) then iI ((b : Int) - 15) else iI q) = iI (if q < (b : Int) - 15 then (b : Int) - 15 else q) := by
          by_cases g : q < (b : Int) - 15
          · rw [if_pos g, if_pos (by rw [c2]; exact g)]
          · rw [if_neg g, if_neg (by rw [c2]; exact g)]
        rw [eb]
        refine And.intro (vp_in_nI (by omega) (by omega)) ?_
        intro y11 e11
        rw [ni_cl (show i ≤ 2147483647 by omega), y600e, w600] at e11
        subst e11
        refine And.intro (vp_in_nI (by omega) (by omega)) ?_
        intro u12 e12
        rw [z1, ni_cl (show i ≤ 2147483647 by omega)] at e12
        subst e12
        refine And.intro (vp_in_nI (by omega) (by omega)) ?_
        intro y13 e13
        have e13 : y13 = iI q := by
          rw [e13, ni_cl (show i ≤ 2147483647 by omega)]
          show xa y 601 i = _
          rw [y601e]; exact w601
        subst e13
        refine And.intro (vp_in_nI (by omega) (by omega)) ?_
        intro u14 e14
        rw [z2, ni_cl (show i ≤ 2147483647 by omega)] at e14
        subst e14
        refine go _ (xf_a (by decide) (xf_a (by decide) F3)) y602e ?_ (fun j hj => ⟨?_, ?_⟩) (fun a ha => ?_) ⟨if (b : Int) - 15 < z then (b : Int) - 15 else z, if q < (b : Int) - 15 then (b : Int) - 15 else q, ?_, ?_, ?_, tLs_c (tLs_a hls (by omega)) hPQ, tMs_c (tMs_a hms (by omega)) hPQ⟩
        · simp (disch := omega) only [nI_lit, nI_m1, nI_add, pk_mul, ni_sub, ii_sub, ii_add, ii_addL, ii_addR, ii_subL, ii_subR, ii_neg, ii_nneg, ii_mul, ii_mulL, ii_mulR, ni_div, ni_rem, ni_le, ni_lt, ni_eq, ii_le, ii_lt, ii_eq, ii_leL, ii_leR, ii_ltL, ii_ltR, ii_eqL, ii_eqR, ni_cl, vq_in, xq_si, xq_si2, xq_si3, xq_sa, xq_sa2, xq_sa3, xq_sl, xq_sl2, xq_sl3, xq_di, xq_da, xq_dl, mq_si, mq_si2, mq_si3, mq_si4, mq_sa, mq_sa2, mq_sa3, mq_sa4, mq_sl, mq_sl2, mq_sl3, mq_sl4, va_upE, Nat.reduceEqDiff, reduceIte, Nat.reduceMul, Nat.reduceAdd, Nat.reduceSub, Nat.reduceLT, Nat.reduceLeDiff, true_and, and_true, not_true, not_false_iff, or_true, true_or, eq_self]
          exact y608e
        · simp (disch := omega) only [nI_lit, nI_m1, nI_add, pk_mul, ni_sub, ii_sub, ii_add, ii_addL, ii_addR, ii_subL, ii_subR, ii_neg, ii_nneg, ii_mul, ii_mulL, ii_mulR, ni_div, ni_rem, ni_le, ni_lt, ni_eq, ii_le, ii_lt, ii_eq, ii_leL, ii_leR, ii_ltL, ii_ltR, ii_eqL, ii_eqR, ni_cl, vq_in, xq_si, xq_si2, xq_si3, xq_sa, xq_sa2, xq_sa3, xq_sl, xq_sl2, xq_sl3, xq_di, xq_da, xq_dl, mq_si, mq_si2, mq_si3, mq_si4, mq_sa, mq_sa2, mq_sa3, mq_sa4, mq_sl, mq_sl2, mq_sl3, mq_sl4, va_upE, Nat.reduceEqDiff, reduceIte, Nat.reduceMul, Nat.reduceAdd, Nat.reduceSub, Nat.reduceLT, Nat.reduceLeDiff, true_and, and_true, not_true, not_false_iff, or_true, true_or, eq_self]
          rw [pk_un hj, y600e]; exact (woth j hj).1
        · simp (disch := omega) only [nI_lit, nI_m1, nI_add, pk_mul, ni_sub, ii_sub, ii_add, ii_addL, ii_addR, ii_subL, ii_subR, ii_neg, ii_nneg, ii_mul, ii_mulL, ii_mulR, ni_div, ni_rem, ni_le, ni_lt, ni_eq, ii_le, ii_lt, ii_eq, ii_leL, ii_leR, ii_ltL, ii_ltR, ii_eqL, ii_eqR, ni_cl, vq_in, xq_si, xq_si2, xq_si3, xq_sa, xq_sa2, xq_sa3, xq_sl, xq_sl2, xq_sl3, xq_di, xq_da, xq_dl, mq_si, mq_si2, mq_si3, mq_si4, mq_sa, mq_sa2, mq_sa3, mq_sa4, mq_sl, mq_sl2, mq_sl3, mq_sl4, va_upE, Nat.reduceEqDiff, reduceIte, Nat.reduceMul, Nat.reduceAdd, Nat.reduceSub, Nat.reduceLT, Nat.reduceLeDiff, true_and, and_true, not_true, not_false_iff, or_true, true_or, eq_self]
          rw [pk_un hj, y601e]; exact (woth j hj).2
        · simp (disch := omega) only [nI_lit, nI_m1, nI_add, pk_mul, ni_sub, ii_sub, ii_add, ii_addL, ii_addR, ii_subL, ii_subR, ii_neg, ii_nneg, ii_mul, ii_mulL, ii_mulR, ni_div, ni_rem, ni_le, ni_lt, ni_eq, ii_le, ii_lt, ii_eq, ii_leL, ii_leR, ii_ltL, ii_ltR, ii_eqL, ii_eqR, ni_cl, vq_in, xq_si, xq_si2, xq_si3, xq_sa, xq_sa2, xq_sa3, xq_sl, xq_sl2, xq_sl3, xq_di, xq_da, xq_dl, mq_si, mq_si2, mq_si3, mq_si4, mq_sa, mq_sa2, mq_sa3, mq_sa4, mq_sl, mq_sl2, mq_sl3, mq_sl4, va_upE, Nat.reduceEqDiff, reduceIte, Nat.reduceMul, Nat.reduceAdd, Nat.reduceSub, Nat.reduceLT, Nat.reduceLeDiff, true_and, and_true, not_true, not_false_iff, or_true, true_or, eq_self]
          exact y607 a ha
        · simp (disch := omega) only [nI_lit, nI_m1, nI_add, pk_mul, ni_sub, ii_sub, ii_add, ii_addL, ii_addR, ii_subL, ii_subR, ii_neg, ii_nneg, ii_mul, ii_mulL, ii_mulR, ni_div, ni_rem, ni_le, ni_lt, ni_eq, ii_le, ii_lt, ii_eq, ii_leL, ii_leR, ii_ltL, ii_ltR, ii_eqL, ii_eqR, ni_cl, vq_in, xq_si, xq_si2, xq_si3, xq_sa, xq_sa2, xq_sa3, xq_sl, xq_sl2, xq_sl3, xq_di, xq_da, xq_dl, mq_si, mq_si2, mq_si3, mq_si4, mq_sa, mq_sa2, mq_sa3, mq_sa4, mq_sl, mq_sl2, mq_sl3, mq_sl4, va_upE, Nat.reduceEqDiff, reduceIte, Nat.reduceMul, Nat.reduceAdd, Nat.reduceSub, Nat.reduceLT, Nat.reduceLeDiff, true_and, and_true, not_true, not_false_iff, or_true, true_or, eq_self]
          rw [pk_us]
        · simp (disch := omega) only [nI_lit, nI_m1, nI_add, pk_mul, ni_sub, ii_sub, ii_add, ii_addL, ii_addR, ii_subL, ii_subR, ii_neg, ii_nneg, ii_mul, ii_mulL, ii_mulR, ni_div, ni_rem, ni_le, ni_lt, ni_eq, ii_le, ii_lt, ii_eq, ii_leL, ii_leR, ii_ltL, ii_ltR, ii_eqL, ii_eqR, ni_cl, vq_in, xq_si, xq_si2, xq_si3, xq_sa, xq_sa2, xq_sa3, xq_sl, xq_sl2, xq_sl3, xq_di, xq_da, xq_dl, mq_si, mq_si2, mq_si3, mq_si4, mq_sa, mq_sa2, mq_sa3, mq_sa4, mq_sl, mq_sl2, mq_sl3, mq_sl4, va_upE, Nat.reduceEqDiff, reduceIte, Nat.reduceMul, Nat.reduceAdd, Nat.reduceSub, Nat.reduceLT, Nat.reduceLeDiff, true_and, and_true, not_true, not_false_iff, or_true, true_or, eq_self]
          rw [pk_us]
        · refine ⟨?_, ?_, ?_, ?_⟩ <;> split <;> omega
theorem sx_unsm {x : xs_St} {n v : Nat} {B : Nat → Int} {K : Int64 → xs_St → Prop} (h1 : xi x 101 = nI (2 * n)) (hB : tB (xa x 100) (2 * n) B) (hn : n ≤ 48) (hv : v ≤ 9) (h605 : xl x 605 0 = lN 0)
    (k0 : tJ (tS B) v n 0 = 0 → ∀ y, xf [] [606] [603, 604, 605] x y → xl y 605 0 = lN 0 → K (lN 0) y)
    (k1 : 0 < tJ (tS B) v n 0 → ∀ y, xf [602] [600, 601, 606, 607, 608] [603, 604, 605] x y → xl y 605 0 = lN 0 → xi y 602 = nI n → (∀ k, k < n → ∃ z w : Int, xa y 600 k = iI z ∧ xa y 601 k = iI w ∧ tLe (tFe (tS B) v n k) z ∧ tMo (tFe (tS B) v n k) w) → K (lN (tSat (tJ (tS B) v n 0))) y) : X_US_unsmear (nI n) (nI v) x K := by
  have hSb := tS_b hB.1
  unfold X_US_unsmear
  refine fi_603 (fun y0 hy0 hz0 => ?_)
  refine lqe4 (F := X_US_unsmear_11_lp K) (G := X_US_unsmear_11 K) (fun _ _ _ _ _ => rfl) (fun d a1 a2 a3 u => xf [] [] [603] x u ∧ a1 = nI n ∧ a2 = nI v ∧ ∃ b, a3 = nI b ∧ b + d = 31 ∧ ∀ k, k < 961 → xl u 603 k = lN (if 465 ≤ k ∧ k < 465 + b then 1 else 0)) ?_ 31 _ _ _ _ ⟨hy0, rfl, rfl, 0, rfl, rfl, fun k hk => by rw [hz0 k hk, if_neg (by omega)]; rfl⟩
  rintro k d a1 a2 a3 u ⟨hfr, rfl, rfl, b, rfl, hd, u603⟩ ih
  unfold X_US_unsmear_11
  repeat' (first | (with_reducible refine And.intro n20 ?_) | (with_reducible refine And.intro n010 ?_) | (with_reducible refine And.intro n011 ?_) | ((with_reducible refine vq_and ?_ ?_); · (simp (disch := omega) only [nI_lit, nI_m1, nI_add, pk_mul, ni_sub, ii_sub, ii_add, ii_addL, ii_addR, ii_subL, ii_subR, ii_neg, ii_nneg, ii_mul, ii_mulL, ii_mulR, ni_div, ni_rem, ni_le, ni_lt, ni_eq, ii_le, ii_lt, ii_eq, ii_leL, ii_leR, ii_ltL, ii_ltR, ii_eqL, ii_eqR, ni_cl, vq_in, xq_si, xq_si2, xq_si3, xq_sa, xq_sa2, xq_sa3, xq_sl, xq_sl2, xq_sl3, xq_di, xq_da, xq_dl, mq_si, mq_si2, mq_si3, mq_si4, mq_sa, mq_sa2, mq_sa3, mq_sa4, mq_sl, mq_sl2, mq_sl3, mq_sl4, va_upE, Nat.reduceEqDiff, reduceIte, Nat.reduceMul, Nat.reduceAdd, Nat.reduceSub, Nat.reduceLT, Nat.reduceLeDiff, true_and, and_true, not_true, not_false_iff, or_true, true_or, eq_self])) | ((with_reducible refine br1 (fun hww => ?_) (fun hww => ?_)) <;> (try simp (disch := omega) only [nI_lit, nI_m1, nI_add, pk_mul, ni_sub, ii_sub, ii_add, ii_addL, ii_addR, ii_subL, ii_subR, ii_neg, ii_nneg, ii_mul, ii_mulL, ii_mulR, ni_div, ni_rem, ni_le, ni_lt, ni_eq, ii_le, ii_lt, ii_eq, ii_leL, ii_leR, ii_ltL, ii_ltR, ii_eqL, ii_eqR, ni_cl, vq_in, xq_si, xq_si2, xq_si3, xq_sa, xq_sa2, xq_sa3, xq_sl, xq_sl2, xq_sl3, xq_di, xq_da, xq_dl, mq_si, mq_si2, mq_si3, mq_si4, mq_sa, mq_sa2, mq_sa3, mq_sa4, mq_sl, mq_sl2, mq_sl3, mq_sl4, va_upE, Nat.reduceEqDiff, reduceIte, Nat.reduceMul, Nat.reduceAdd, Nat.reduceSub, Nat.reduceLT, Nat.reduceLeDiff, true_and, and_true, not_true, not_false_iff, or_true, true_or, eq_self] at hww) <;> (try (exfalso; omega))) | ((with_reducible refine br2 (fun hww => ?_) (fun hww => ?_)) <;> (try simp (disch := omega) only [nI_lit, nI_m1, nI_add, pk_mul, ni_sub, ii_sub, ii_add, ii_addL, ii_addR, ii_subL, ii_subR, ii_neg, ii_nneg, ii_mul, ii_mulL, ii_mulR, ni_div, ni_rem, ni_le, ni_lt, ni_eq, ii_le, ii_lt, ii_eq, ii_leL, ii_leR, ii_ltL, ii_ltR, ii_eqL, ii_eqR, ni_cl, vq_in, xq_si, xq_si2, xq_si3, xq_sa, xq_sa2, xq_sa3, xq_sl, xq_sl2, xq_sl3, xq_di, xq_da, xq_dl, mq_si, mq_si2, mq_si3, mq_si4, mq_sa, mq_sa2, mq_sa3, mq_sa4, mq_sl, mq_sl2, mq_sl3, mq_sl4, va_upE, Nat.reduceEqDiff, reduceIte, Nat.reduceMul, Nat.reduceAdd, Nat.reduceSub, Nat.reduceLT, Nat.reduceLeDiff, true_and, and_true, not_true, not_false_iff, or_true, true_or, eq_self] at hww) <;> (try (exfalso; omega))) | ((with_reducible intro uu ue); subst ue))
  rotate_left
  · simp (disch := omega) only [nI_lit, nI_m1, nI_add, pk_mul, ni_sub, ii_sub, ii_add, ii_addL, ii_addR, ii_subL, ii_subR, ii_neg, ii_nneg, ii_mul, ii_mulL, ii_mulR, ni_div, ni_rem, ni_le, ni_lt, ni_eq, ii_le, ii_lt, ii_eq, ii_leL, ii_leR, ii_ltL, ii_ltR, ii_eqL, ii_eqR, ni_cl, vq_in, xq_si, xq_si2, xq_si3, xq_sa, xq_sa2, xq_sa3, xq_sl, xq_sl2, xq_sl3, xq_di, xq_da, xq_dl, mq_si, mq_si2, mq_si3, mq_si4, mq_sa, mq_sa2, mq_sa3, mq_sa4, mq_sl, mq_sl2, mq_sl3, mq_sl4, va_upE, Nat.reduceEqDiff, reduceIte, Nat.reduceMul, Nat.reduceAdd, Nat.reduceSub, Nat.reduceLT, Nat.reduceLeDiff, true_and, and_true, not_true, not_false_iff, or_true, true_or, eq_self]
    refine ih (d - 1) _ _ _ _ (by omega) ⟨xf_l (by decide) hfr, rfl, rfl, b + 1, rfl, by omega, fun k hk => ?_⟩
    simp (disch := omega) only [nI_lit, nI_m1, nI_add, pk_mul, ni_sub, ii_sub, ii_add, ii_addL, ii_addR, ii_subL, ii_subR, ii_neg, ii_nneg, ii_mul, ii_mulL, ii_mulR, ni_div, ni_rem, ni_le, ni_lt, ni_eq, ii_le, ii_lt, ii_eq, ii_leL, ii_leR, ii_ltL, ii_ltR, ii_eqL, ii_eqR, ni_cl, vq_in, xq_si, xq_si2, xq_si3, xq_sa, xq_sa2, xq_sa3, xq_sl, xq_sl2, xq_sl3, xq_di, xq_da, xq_dl, mq_si, mq_si2, mq_si3, mq_si4, mq_sa, mq_sa2, mq_sa3, mq_sa4, mq_sl, mq_sl2, mq_sl3, mq_sl4, va_upE, Nat.reduceEqDiff, reduceIte, Nat.reduceMul, Nat.reduceAdd, Nat.reduceSub, Nat.reduceLT, Nat.reduceLeDiff, true_and, and_true, not_true, not_false_iff, or_true, true_or, eq_self]
    by_cases e : k = 465 + b
    · subst e; rw [pk_uLs, if_pos (by omega)]; rfl
    · rw [pk_uLn e, u603 k hk]
      by_cases g : 465 ≤ k ∧ k < 465 + b
      · rw [if_pos g, if_pos (by omega)]
      · rw [if_neg g, if_neg (by omega)]
  have u605 : xl u 605 0 = lN 0 := by rw [hfr.2.2.1 605 (by decide)]; exact h605
  refine lqe4 (F := X_US_unsmear_39_lp K) (G := X_US_unsmear_39 K) (fun _ _ _ _ _ => rfl) (fun d2 a1 a2 a3 w => xf [] [606] [603, 604, 605] x w ∧ xl w 605 0 = lN 0 ∧ a1 = nI n ∧ a2 = nI v ∧ ∃ i, a3 = nI i ∧ i + d2 = n ∧ (∀ a b, a < 31 → b < 31 → xl w 603 (a * 31 + b) = lN (tSat (tF (tS B) v i a b))) ∧ ∀ i' b, i' < i → b < 31 → bs (xa w 606 (i' * 31 + b)) (fun a => 0 < tF (tS B) v i' a b)) ?_ n _ _ _ _ ⟨xf_w hfr (by decide) (by decide) (by decide), u605, rfl, rfl, 0, rfl, by omega, fun a b ha hb => ?_, fun i' b hi => by omega⟩
  case refine_2 =>
    rw [u603 _ (by omega), tF]
    by_cases e : a = 15
    · rw [if_pos e, if_pos (by omega)]; rfl
    · rw [if_neg e, if_neg (by omega)]; rfl
  rintro k2 d2 a1 a2 a3 w ⟨hfw, w605, rfl, rfl, i, rfl, hi, w603, w606⟩ ih2
  unfold X_US_unsmear_39
  repeat' (first | (with_reducible refine And.intro n20 ?_) | (with_reducible refine And.intro n010 ?_) | (with_reducible refine And.intro n011 ?_) | ((with_reducible refine vq_and ?_ ?_); · (simp (disch := omega) only [nI_lit, nI_m1, nI_add, pk_mul, ni_sub, ii_sub, ii_add, ii_addL, ii_addR, ii_subL, ii_subR, ii_neg, ii_nneg, ii_mul, ii_mulL, ii_mulR, ni_div, ni_rem, ni_le, ni_lt, ni_eq, ii_le, ii_lt, ii_eq, ii_leL, ii_leR, ii_ltL, ii_ltR, ii_eqL, ii_eqR, ni_cl, vq_in, xq_si, xq_si2, xq_si3, xq_sa, xq_sa2, xq_sa3, xq_sl, xq_sl2, xq_sl3, xq_di, xq_da, xq_dl, mq_si, mq_si2, mq_si3, mq_si4, mq_sa, mq_sa2, mq_sa3, mq_sa4, mq_sl, mq_sl2, mq_sl3, mq_sl4, va_upE, Nat.reduceEqDiff, reduceIte, Nat.reduceMul, Nat.reduceAdd, Nat.reduceSub, Nat.reduceLT, Nat.reduceLeDiff, true_and, and_true, not_true, not_false_iff, or_true, true_or, eq_self])) | ((with_reducible refine br1 (fun hww => ?_) (fun hww => ?_)) <;> (try simp (disch := omega) only [nI_lit, nI_m1, nI_add, pk_mul, ni_sub, ii_sub, ii_add, ii_addL, ii_addR, ii_subL, ii_subR, ii_neg, ii_nneg, ii_mul, ii_mulL, ii_mulR, ni_div, ni_rem, ni_le, ni_lt, ni_eq, ii_le, ii_lt, ii_eq, ii_leL, ii_leR, ii_ltL, ii_ltR, ii_eqL, ii_eqR, ni_cl, vq_in, xq_si, xq_si2, xq_si3, xq_sa, xq_sa2, xq_sa3, xq_sl, xq_sl2, xq_sl3, xq_di, xq_da, xq_dl, mq_si, mq_si2, mq_si3, mq_si4, mq_sa, mq_sa2, mq_sa3, mq_sa4, mq_sl, mq_sl2, mq_sl3, mq_sl4, va_upE, Nat.reduceEqDiff, reduceIte, Nat.reduceMul, Nat.reduceAdd, Nat.reduceSub, Nat.reduceLT, Nat.reduceLeDiff, true_and, and_true, not_true, not_false_iff, or_true, true_or, eq_self] at hww) <;> (try (exfalso; omega))) | ((with_reducible refine br2 (fun hww => ?_) (fun hww => ?_)) <;> (try simp (disch := omega) only [nI_lit, nI_m1, nI_add, pk_mul, ni_sub, ii_sub, ii_add, ii_addL, ii_addR, ii_subL, ii_subR, ii_neg, ii_nneg, ii_mul, ii_mulL, ii_mulR, ni_div, ni_rem, ni_le, ni_lt, ni_eq, ii_le, ii_lt, ii_eq, ii_leL, ii_leR, ii_ltL, ii_ltR, ii_eqL, ii_eqR, ni_cl, vq_in, xq_si, xq_si2, xq_si3, xq_sa, xq_sa2, xq_sa3, xq_sl, xq_sl2, xq_sl3, xq_di, xq_da, xq_dl, mq_si, mq_si2, mq_si3, mq_si4, mq_sa, mq_sa2, mq_sa3, mq_sa4, mq_sl, mq_sl2, mq_sl3, mq_sl4, va_upE, Nat.reduceEqDiff, reduceIte, Nat.reduceMul, Nat.reduceAdd, Nat.reduceSub, Nat.reduceLT, Nat.reduceLeDiff, true_and, and_true, not_true, not_false_iff, or_true, true_or, eq_self] at hww) <;> (try (exfalso; omega))) | ((with_reducible intro uu ue); subst ue))
  · have hin : i = n := by omega
    subst hin
    refine lqe5 (F := X_US_unsmear_70_lp K) (G := X_US_unsmear_70 K) (fun _ _ _ _ _ _ => rfl) (fun d3 a1 a2 a3 a4 s => s = w ∧ a1 = nI i ∧ a2 = nI v ∧ ∃ b, a4 = nI b ∧ b + d3 = 31 ∧ a3 = lN (tSat (fsT (fun b => tF (tS B) v i b 15) b))) ?_ 31 _ _ _ _ _ ⟨rfl, rfl, rfl, 0, rfl, rfl, rfl⟩
    rintro k3 d3 a1 a2 a3 a4 s ⟨rfl, rfl, rfl, b, rfl, hd3, rfl⟩ ih3
    have hle := tSat_le (fsT (fun b => tF (tS B) v i b 15) b)
    unfold X_US_unsmear_70 X_US_unsmear_118
    refine br1 (fun q => ?_) (fun q => ?_)
    · simp (disch := omega) only [nI_lit, nI_m1, nI_add, pk_mul, ni_sub, ii_sub, ii_add, ii_addL, ii_addR, ii_subL, ii_subR, ii_neg, ii_nneg, ii_mul, ii_mulL, ii_mulR, ni_div, ni_rem, ni_le, ni_lt, ni_eq, ii_le, ii_lt, ii_eq, ii_leL, ii_leR, ii_ltL, ii_ltR, ii_eqL, ii_eqR, ni_cl, vq_in, xq_si, xq_si2, xq_si3, xq_sa, xq_sa2, xq_sa3, xq_sl, xq_sl2, xq_sl3, xq_di, xq_da, xq_dl, mq_si, mq_si2, mq_si3, mq_si4, mq_sa, mq_sa2, mq_sa3, mq_sa4, mq_sl, mq_sl2, mq_sl3, mq_sl4, va_upE, Nat.reduceEqDiff, reduceIte, Nat.reduceMul, Nat.reduceAdd, Nat.reduceSub, Nat.reduceLT, Nat.reduceLeDiff, true_and, and_true, not_true, not_false_iff, or_true, true_or, eq_self] at q
      have hb : b = 31 := by omega
      subst hb
      rw [← tJ_n] at hle ⊢
      have hp := tSat_p (tJ (tS B) v i 0)
      simp (disch := omega) only [nI_lit, nI_m1, nI_add, pk_mul, ni_sub, ii_sub, ii_add, ii_addL, ii_addR, ii_subL, ii_subR, ii_neg, ii_nneg, ii_mul, ii_mulL, ii_mulR, ni_div, ni_rem, ni_le, ni_lt, ni_eq, ii_le, ii_lt, ii_eq, ii_leL, ii_leR, ii_ltL, ii_ltR, ii_eqL, ii_eqR, ni_cl, vq_in, xq_si, xq_si2, xq_si3, xq_sa, xq_sa2, xq_sa3, xq_sl, xq_sl2, xq_sl3, xq_di, xq_da, xq_dl, mq_si, mq_si2, mq_si3, mq_si4, mq_sa, mq_sa2, mq_sa3, mq_sa4, mq_sl, mq_sl2, mq_sl3, mq_sl4, va_upE, Nat.reduceEqDiff, reduceIte, Nat.reduceMul, Nat.reduceAdd, Nat.reduceSub, Nat.reduceLT, Nat.reduceLeDiff, true_and, and_true, not_true, not_false_iff, or_true, true_or, eq_self, lI_lit, lN_add, lN_mul, ll_sub, ll_lt, ll_le, ll_eq, ll_div, ll_rem, ll_n, lgn_ge, lgn_le, lgn_gt, lgn_lt, lgn_eq]
      refine br1 (fun q1 => ?_) (fun q1 => ?_)
      · have e0 : tJ (tS B) v i 0 = 0 := by omega
        have := k0 e0 s hfw w605
        rw [e0]; exact this
      · refine sx_note (N := 2 * i) (by omega) ((hfw.1 101 (by decide)).trans h1) (by rw [hfw.2.1 100 (by decide)]; exact hB) hn (by omega) hv (by omega) (fun i' b h5 h6 => w606 i' b h5 h6) (fun y hy y602 hyb => ?_)
        refine k1 (by omega) y (xf_t (xf_w hfw (by decide) (by decide) (by decide)) (xf_w hy (by decide) (by decide) (by decide))) ?_ y602 hyb
        rw [hy.2.2.1 605 (by decide)]; exact w605
    · simp (disch := omega) only [nI_lit, nI_m1, nI_add, pk_mul, ni_sub, ii_sub, ii_add, ii_addL, ii_addR, ii_subL, ii_subR, ii_neg, ii_nneg, ii_mul, ii_mulL, ii_mulR, ni_div, ni_rem, ni_le, ni_lt, ni_eq, ii_le, ii_lt, ii_eq, ii_leL, ii_leR, ii_ltL, ii_ltR, ii_eqL, ii_eqR, ni_cl, vq_in, xq_si, xq_si2, xq_si3, xq_sa, xq_sa2, xq_sa3, xq_sl, xq_sl2, xq_sl3, xq_di, xq_da, xq_dl, mq_si, mq_si2, mq_si3, mq_si4, mq_sa, mq_sa2, mq_sa3, mq_sa4, mq_sl, mq_sl2, mq_sl3, mq_sl4, va_upE, Nat.reduceEqDiff, reduceIte, Nat.reduceMul, Nat.reduceAdd, Nat.reduceSub, Nat.reduceLT, Nat.reduceLeDiff, true_and, and_true, not_true, not_false_iff, or_true, true_or, eq_self] at q
      have w3 := w603 b 15 (by omega) (by omega)
      refine And.intro (by simp (disch := omega) only [nI_lit, nI_m1, nI_add, pk_mul, ni_sub, ii_sub, ii_add, ii_addL, ii_addR, ii_subL, ii_subR, ii_neg, ii_nneg, ii_mul, ii_mulL, ii_mulR, ni_div, ni_rem, ni_le, ni_lt, ni_eq, ii_le, ii_lt, ii_eq, ii_leL, ii_leR, ii_ltL, ii_ltR, ii_eqL, ii_eqR, ni_cl, vq_in, xq_si, xq_si2, xq_si3, xq_sa, xq_sa2, xq_sa3, xq_sl, xq_sl2, xq_sl3, xq_di, xq_da, xq_dl, mq_si, mq_si2, mq_si3, mq_si4, mq_sa, mq_sa2, mq_sa3, mq_sa4, mq_sl, mq_sl2, mq_sl3, mq_sl4, va_upE, Nat.reduceEqDiff, reduceIte, Nat.reduceMul, Nat.reduceAdd, Nat.reduceSub, Nat.reduceLT, Nat.reduceLeDiff, true_and, and_true, not_true, not_false_iff, or_true, true_or, eq_self]) ?_
      intro y4 e4
      rw [show (nI b * (31 : Int32) + (15 : Int32)).toNatClampNeg = b * 31 + 15 by simp (disch := omega) only [nI_lit, nI_m1, nI_add, pk_mul, ni_sub, ii_sub, ii_add, ii_addL, ii_addR, ii_subL, ii_subR, ii_neg, ii_nneg, ii_mul, ii_mulL, ii_mulR, ni_div, ni_rem, ni_le, ni_lt, ni_eq, ii_le, ii_lt, ii_eq, ii_leL, ii_leR, ii_ltL, ii_ltR, ii_eqL, ii_eqR, ni_cl, vq_in, xq_si, xq_si2, xq_si3, xq_sa, xq_sa2, xq_sa3, xq_sl, xq_sl2, xq_sl3, xq_di, xq_da, xq_dl, mq_si, mq_si2, mq_si3, mq_si4, mq_sa, mq_sa2, mq_sa3, mq_sa4, mq_sl, mq_sl2, mq_sl3, mq_sl4, va_upE, Nat.reduceEqDiff, reduceIte, Nat.reduceMul, Nat.reduceAdd, Nat.reduceSub, Nat.reduceLT, Nat.reduceLeDiff, true_and, and_true, not_true, not_false_iff, or_true, true_or, eq_self], w3] at e4
      subst e4
      rw [lN_add]
      have hle2 := tSat_le (tF (tS B) v i b 15)
      refine sx_atM (by omega) ?_
      intro x6 e6
      subst e6
      refine ih3 (d3 - 1) _ _ _ _ _ (by omega) ⟨rfl, rfl, rfl, b + 1, nI_1 b, by omega, ?_⟩
      rw [fsT, tSat_a]
  · have eB : tB (xa w 100) (2 * n) B := by rw [hfw.2.1 100 (by decide)]; exact hB
    refine sx_pairX (n := 2 * n) (by omega) ((hfw.1 101 (by decide)).trans h1) eB (by omega) ?_
    refine sx_past (S := tS B) (f := fun a b => tSat (tF (tS B) v i a b)) (by omega) hv (hSb i) (fun a b => tSat_le _) w603 w605 (fun y hy y605 y603 y606 y606' => ?_)
    intro x4 e4
    subst e4
    refine ih2 (d2 - 1) _ _ _ _ (by omega) ⟨xf_t hfw (xf_w hy (by decide) (by decide) (by decide)), y605, rfl, rfl, i + 1, nI_1 i, by omega, fun b c hb hc => ?_, fun i' b hi' hb => ?_⟩
    · rw [y603 b c hb hc, tF]
      rw [fsT_k (g := fun a => tSat (tI (tFit (tS B) v i a b c) (tF (tS B) v i a b))) 31 (fun a _ => tI_sat _ _), tSat_s]
    · rcases Nat.lt_or_ge i' i with h5 | h5
      · rw [y606' _ (by omega)]; exact w606 i' b h5 hb
      · have : i' = i := by omega
        subst this
        exact bs_c (y606 b hb) (fun a _ => tSat_p _)

/-! tellings: both -/
theorem mx_tell {m : th_St} {n v : Nat} {B : Nat → Int} {K : Int64 → th_St → Prop} (hn4 : 4 ≤ n) (hn : n ≤ 48) (hv : v ≤ 9) (h2 : m.1 2 = nI (2 * n)) (hB : tB (m.2.2.1 1) (2 * n) B) (h11 : m.2.2.1 11 0 = nI n) (h14 : m.2.2.1 14 0 = nI v)
    (k0 : tJ (tS B) v n 0 = 0 → ∀ y, mf [0, 2, 3, 4] [44, 45] [43] m y → y.1 2 = 0 → K (lN 0) y)
    (k1 : 0 < tJ (tS B) v n 0 → ∀ y, mf [0, 2, 3, 4, 48] [44, 45, 46, 47] [43] m y → y.1 2 = 0 → y.1 48 = nI n → tBd y n (fun j b => tFe (tS B) v n j b) → K (lN (tSat (tJ (tS B) v n 0))) y) : M_tellings m K := by
  have hS := tS_b hB.1
  unfold M_tellings
  intro u1 e1; subst e1
  refine mx_taken ?_
  have e3 : (mT m).1 3 = nI (2 * n) := h2
  have e11 : (mT m).2.2.1 11 0 = nI n := h11
  have e14 : (mT m).2.2.1 14 0 = nI v := h14
  have eB : tB ((mT m).2.2.1 1) (2 * n) B := hB
  have e2 : (mT m).1 2 = 0 := rfl
  have hF : mf [0, 2, 3, 4] [44, 45] [43] m (mT m) := mT_f (by decide) (by decide) (by decide) (by decide)
  generalize mT m = w at e3 e11 e14 eB e2 hF ⊢
  refine And.intro (vp_in_nI (n := 0) (by omega) (by omega)) ?_
  intro y4 e4
  have e4 : y4 = nI n := by rw [e4]; exact e11
  subst e4
  rw [e3, show (2 : Int32) * nI n = nI (2 * n) from pk_mul 2 n]
  refine br1 (fun _ => ?_) (fun g => absurd rfl g)
  refine lqe3 (F := M_tellings_32_lp K) (G := M_tellings_32 K) (fun _ _ _ _ => rfl) (fun d a1 a2 u => mf [] [45] [] w u ∧ a1 = nI n ∧ ∃ i, a2 = nI i ∧ i + d = n ∧ ∀ j, j < i → u.2.2.1 45 j = iI (tS B j)) ?_ n _ _ _ ⟨mf_r w, rfl, 0, rfl, by omega, fun j hj => by omega⟩
  rintro k d a1 a2 u ⟨hfr, rfl, i, rfl, hd, uj⟩ ih
  have uB : tB (u.2.2.1 1) (2 * n) B := by rw [hfr.2.1 1 (by decide)]; exact eB
  unfold M_tellings_32
  refine br1 (fun g => ?_) (fun g => ?_)
  rotate_left
  · simp (disch := omega) only [nI_lit, nI_m1, nI_add, pk_mul, ni_sub, ii_sub, ii_add, ii_addL, ii_addR, ii_subL, ii_subR, ii_neg, ii_nneg, ii_mul, ii_mulL, ii_mulR, ni_div, ni_rem, ni_le, ni_lt, ni_eq, ii_le, ii_lt, ii_eq, ii_leL, ii_leR, ii_ltL, ii_ltR, ii_eqL, ii_eqR, ni_cl, vq_in, xq_si, xq_si2, xq_si3, xq_sa, xq_sa2, xq_sa3, xq_sl, xq_sl2, xq_sl3, xq_di, xq_da, xq_dl, mq_si, mq_si2, mq_si3, mq_si4, mq_sa, mq_sa2, mq_sa3, mq_sa4, mq_sl, mq_sl2, mq_sl3, mq_sl4, va_upE, Nat.reduceEqDiff, reduceIte, Nat.reduceMul, Nat.reduceAdd, Nat.reduceSub, Nat.reduceLT, Nat.reduceLeDiff, true_and, and_true, not_true, not_false_iff, or_true, true_or, eq_self] at g
    have b1 := hB.1 (2 * i)
    have b2 := hB.1 (2 * i + 1)
    have q1 := uB.2 (2 * i) (by omega)
    have q2 := uB.2 (2 * i + 1) (by omega)
    rw [show (2 : Int32) * nI i = nI (2 * i) from pk_mul 2 i, show nI (2 * i) + (1 : Int32) = nI (2 * i + 1) from nI_1 _]
    refine And.intro (vp_in_nI (by omega) (by omega)) ?_
    intro y2 e2'
    rw [ni_cl (by omega), q1] at e2'
    subst e2'
    refine And.intro (vp_in_nI (by omega) (by omega)) ?_
    intro y3 e3'
    rw [ni_cl (by omega), q2] at e3'
    subst e3'
    refine And.intro (vp_in_nI (by omega) (by omega)) ?_
    intro u4 e4'
    rw [ni_cl (by omega), tB_u b2.1 b2.2, show (256 : Int32) = iI 256 from rfl, ii_mul, ii_add] at e4'
    subst e4'
    intro x5 e5
    subst e5
    refine ih (d - 1) _ _ _ (by omega) ⟨mf_a (by decide) hfr, rfl, i + 1, nI_1 i, by omega, fun j hj => ?_⟩
    simp (disch := omega) only [nI_lit, nI_m1, nI_add, pk_mul, ni_sub, ii_sub, ii_add, ii_addL, ii_addR, ii_subL, ii_subR, ii_neg, ii_nneg, ii_mul, ii_mulL, ii_mulR, ni_div, ni_rem, ni_le, ni_lt, ni_eq, ii_le, ii_lt, ii_eq, ii_leL, ii_leR, ii_ltL, ii_ltR, ii_eqL, ii_eqR, ni_cl, vq_in, xq_si, xq_si2, xq_si3, xq_sa, xq_sa2, xq_sa3, xq_sl, xq_sl2, xq_sl3, xq_di, xq_da, xq_dl, mq_si, mq_si2, mq_si3, mq_si4, mq_sa, mq_sa2, mq_sa3, mq_sa4, mq_sl, mq_sl2, mq_sl3, mq_sl4, va_upE, Nat.reduceEqDiff, reduceIte, Nat.reduceMul, Nat.reduceAdd, Nat.reduceSub, Nat.reduceLT, Nat.reduceLeDiff, true_and, and_true, not_true, not_false_iff, or_true, true_or, eq_self]
    by_cases e : j = i
    · subst e; rw [pk_us]; rfl
    · rw [pk_un e]; exact uj j (by omega)
  simp (disch := omega) only [nI_lit, nI_m1, nI_add, pk_mul, ni_sub, ii_sub, ii_add, ii_addL, ii_addR, ii_subL, ii_subR, ii_neg, ii_nneg, ii_mul, ii_mulL, ii_mulR, ni_div, ni_rem, ni_le, ni_lt, ni_eq, ii_le, ii_lt, ii_eq, ii_leL, ii_leR, ii_ltL, ii_ltR, ii_eqL, ii_eqR, ni_cl, vq_in, xq_si, xq_si2, xq_si3, xq_sa, xq_sa2, xq_sa3, xq_sl, xq_sl2, xq_sl3, xq_di, xq_da, xq_dl, mq_si, mq_si2, mq_si3, mq_si4, mq_sa, mq_sa2, mq_sa3, mq_sa4, mq_sl, mq_sl2, mq_sl3, mq_sl4, va_upE, Nat.reduceEqDiff, reduceIte, Nat.reduceMul, Nat.reduceAdd, Nat.reduceSub, Nat.reduceLT, Nat.reduceLeDiff, true_and, and_true, not_true, not_false_iff, or_true, true_or, eq_self] at g
  have hin : i = n := by omega
  subst hin
  intro y1 e1
  have e1 : y1 = dn (i - 1) := by
    rw [e1, show (2 : Int32) = nI 2 from rfl, ni_sub (by omega), show i - 1 = (i - 2) + 1 by omega, dn_s]
  subst e1
  have u14 : u.2.2.1 14 0 = nI v := by rw [hfr.2.1 14 (by decide)]; exact e14
  have uall : ∀ j, j < i → u.2.2.1 45 j = iI (tS B j) := fun j hj => uj j hj
  refine lqe3 (F := M_tellings_80_lp K) (G := M_tellings_80 K) (fun _ _ _ _ => rfl) (fun d2 a1 a2 s => mf [] [] [43] u s ∧ a1 = nI i ∧ d2 + 1 ≤ i ∧ a2 = dn d2 ∧ ∀ p a c, d2 ≤ p → p + 2 ≤ i → a < 31 → c < 31 → s.2.2.2 43 (961 * p + 31 * a + c) = lN (tSat (tW (tS B) v i p a c))) ?_ (i - 1) _ _ _ ⟨mf_r u, rfl, by omega, rfl, fun p a c h1 h2 => by omega⟩
  rintro k2 d2 a1 a2 s ⟨hfs, rfl, hd2, rfl, s43⟩ ih2
  have s45 : ∀ j, j < i → s.2.2.1 45 j = iI (tS B j) := fun j hj => by rw [hfs.2.1 45 (by decide)]; exact uall j hj
  have s14 : s.2.2.1 14 0 = nI v := by rw [hfs.2.1 14 (by decide)]; exact u14
  have Fs : mf [0, 2, 3, 4] [44, 45] [43] m s := mf_t hF (mf_t (mf_w hfr (by decide) (by decide) (by decide)) (mf_w hfs (by decide) (by decide) (by decide)))
  have s2 : s.1 2 = 0 := (hfs.1 2 (by decide)).trans ((hfr.1 2 (by decide)).trans e2)
  unfold M_tellings_80
  cases d2 with
  | zero =>
    rw [dn_0]
    repeat' (first | (with_reducible refine And.intro n20 ?_) | (with_reducible refine And.intro n010 ?_) | (with_reducible refine And.intro n011 ?_) | ((with_reducible refine vq_and ?_ ?_); · (simp (disch := omega) only [nI_lit, nI_m1, nI_add, pk_mul, ni_sub, ii_sub, ii_add, ii_addL, ii_addR, ii_subL, ii_subR, ii_neg, ii_nneg, ii_mul, ii_mulL, ii_mulR, ni_div, ni_rem, ni_le, ni_lt, ni_eq, ii_le, ii_lt, ii_eq, ii_leL, ii_leR, ii_ltL, ii_ltR, ii_eqL, ii_eqR, ni_cl, vq_in, xq_si, xq_si2, xq_si3, xq_sa, xq_sa2, xq_sa3, xq_sl, xq_sl2, xq_sl3, xq_di, xq_da, xq_dl, mq_si, mq_si2, mq_si3, mq_si4, mq_sa, mq_sa2, mq_sa3, mq_sa4, mq_sl, mq_sl2, mq_sl3, mq_sl4, va_upE, Nat.reduceEqDiff, reduceIte, Nat.reduceMul, Nat.reduceAdd, Nat.reduceSub, Nat.reduceLT, Nat.reduceLeDiff, true_and, and_true, not_true, not_false_iff, or_true, true_or, eq_self])) | ((with_reducible refine br1 (fun hww => ?_) (fun hww => ?_)) <;> (try simp (disch := omega) only [nI_lit, nI_m1, nI_add, pk_mul, ni_sub, ii_sub, ii_add, ii_addL, ii_addR, ii_subL, ii_subR, ii_neg, ii_nneg, ii_mul, ii_mulL, ii_mulR, ni_div, ni_rem, ni_le, ni_lt, ni_eq, ii_le, ii_lt, ii_eq, ii_leL, ii_leR, ii_ltL, ii_ltR, ii_eqL, ii_eqR, ni_cl, vq_in, xq_si, xq_si2, xq_si3, xq_sa, xq_sa2, xq_sa3, xq_sl, xq_sl2, xq_sl3, xq_di, xq_da, xq_dl, mq_si, mq_si2, mq_si3, mq_si4, mq_sa, mq_sa2, mq_sa3, mq_sa4, mq_sl, mq_sl2, mq_sl3, mq_sl4, va_upE, Nat.reduceEqDiff, reduceIte, Nat.reduceMul, Nat.reduceAdd, Nat.reduceSub, Nat.reduceLT, Nat.reduceLeDiff, true_and, and_true, not_true, not_false_iff, or_true, true_or, eq_self] at hww) <;> (try (exfalso; omega))) | ((with_reducible refine br2 (fun hww => ?_) (fun hww => ?_)) <;> (try simp (disch := omega) only [nI_lit, nI_m1, nI_add, pk_mul, ni_sub, ii_sub, ii_add, ii_addL, ii_addR, ii_subL, ii_subR, ii_neg, ii_nneg, ii_mul, ii_mulL, ii_mulR, ni_div, ni_rem, ni_le, ni_lt, ni_eq, ii_le, ii_lt, ii_eq, ii_leL, ii_leR, ii_ltL, ii_ltR, ii_eqL, ii_eqR, ni_cl, vq_in, xq_si, xq_si2, xq_si3, xq_sa, xq_sa2, xq_sa3, xq_sl, xq_sl2, xq_sl3, xq_di, xq_da, xq_dl, mq_si, mq_si2, mq_si3, mq_si4, mq_sa, mq_sa2, mq_sa3, mq_sa4, mq_sl, mq_sl2, mq_sl3, mq_sl4, va_upE, Nat.reduceEqDiff, reduceIte, Nat.reduceMul, Nat.reduceAdd, Nat.reduceSub, Nat.reduceLT, Nat.reduceLeDiff, true_and, and_true, not_true, not_false_iff, or_true, true_or, eq_self] at hww) <;> (try (exfalso; omega))) | ((with_reducible intro uu ue); subst ue))
    refine lqe4 (F := M_tellings_266_lp K) (G := M_tellings_266 K) (fun _ _ _ _ _ => rfl) (fun d3 a1 a2 a3 t => mf [] [44] [] s t ∧ a1 = nI i ∧ ∃ a, a3 = nI a ∧ a + d3 = 31 ∧ a2 = lN (fsT (fun a' => fsT (fun c' => tA (tS B) v i a' c') 31) a) ∧ ∀ k, k < 31 * a → tCo t (tS B) v 0 k) ?_ 31 _ _ _ _ ⟨mf_r s, rfl, 0, rfl, rfl, rfl, fun k hk => by omega⟩
    rintro k3 d3 a1 a2 a3 t ⟨hft, rfl, a, rfl, ha, rfl, tC⟩ ih3
    have t45 : ∀ j, j < i → t.2.2.1 45 j = iI (tS B j) := fun j hj => by rw [hft.2.1 45 (by decide)]; exact s45 j hj
    have t14 : t.2.2.1 14 0 = nI v := by rw [hft.2.1 14 (by decide)]; exact s14
    have t43 : ∀ p a c, p + 2 ≤ i → a < 31 → c < 31 → t.2.2.2 43 (961 * p + 31 * a + c) = lN (tSat (tW (tS B) v i p a c)) := fun p a c h1 h2 h3 => by rw [hft.2.2 43 (by decide)]; exact s43 p a c (Nat.zero_le p) h1 h2 h3
    have bA : ∀ a' c', tA (tS B) v i a' c' ≤ 1000000000000000 := fun a' c' => Nat.le_trans (tI_le _ _) (tSat_le _)
    have bA2 : ∀ a' N, N ≤ 31 → fsT (fun c' => tA (tS B) v i a' c') N ≤ 31000000000000000 := fun a' N hN => by
      have := fsT_bd (f := fun c' => tA (tS B) v i a' c') N (fun s _ => bA a' s); omega
    have bA3 : fsT (fun a' => fsT (fun c' => tA (tS B) v i a' c') 31) a ≤ a * 31000000000000000 := fsT_bd a (fun s _ => bA2 s 31 (by omega))
    unfold M_tellings_266
    refine br1 (fun g => ?_) (fun g => ?_)
    · simp (disch := omega) only [nI_lit, nI_m1, nI_add, pk_mul, ni_sub, ii_sub, ii_add, ii_addL, ii_addR, ii_subL, ii_subR, ii_neg, ii_nneg, ii_mul, ii_mulL, ii_mulR, ni_div, ni_rem, ni_le, ni_lt, ni_eq, ii_le, ii_lt, ii_eq, ii_leL, ii_leR, ii_ltL, ii_ltR, ii_eqL, ii_eqR, ni_cl, vq_in, xq_si, xq_si2, xq_si3, xq_sa, xq_sa2, xq_sa3, xq_sl, xq_sl2, xq_sl3, xq_di, xq_da, xq_dl, mq_si, mq_si2, mq_si3, mq_si4, mq_sa, mq_sa2, mq_sa3, mq_sa4, mq_sl, mq_sl2, mq_sl3, mq_sl4, va_upE, Nat.reduceEqDiff, reduceIte, Nat.reduceMul, Nat.reduceAdd, Nat.reduceSub, Nat.reduceLT, Nat.reduceLeDiff, true_and, and_true, not_true, not_false_iff, or_true, true_or, eq_self] at g
      have ha2 : a = 31 := by omega
      subst ha2
      have hsat := tA_sat (S := tS B) (v := v) (n := i) (by omega)
      have hp1 := tSat_p (tJ (tS B) v i 0)
      have hp2 := tSat_p (fsT (fun a' => fsT (fun c' => tA (tS B) v i a' c') 31) 31)
      generalize hX : fsT (fun a' => fsT (fun c' => tA (tS B) v i a' c') 31) 31 = X at *
      have fin : ∀ y, (K (lN (tSat (tJ (tS B) v i 0))) y) → M_tellings_367 K (lN X) y := by
        intro y hy
        unfold M_tellings_367 M_tellings_382
        simp (disch := omega) only [nI_lit, nI_m1, nI_add, pk_mul, ni_sub, ii_sub, ii_add, ii_addL, ii_addR, ii_subL, ii_subR, ii_neg, ii_nneg, ii_mul, ii_mulL, ii_mulR, ni_div, ni_rem, ni_le, ni_lt, ni_eq, ii_le, ii_lt, ii_eq, ii_leL, ii_leR, ii_ltL, ii_ltR, ii_eqL, ii_eqR, ni_cl, vq_in, xq_si, xq_si2, xq_si3, xq_sa, xq_sa2, xq_sa3, xq_sl, xq_sl2, xq_sl3, xq_di, xq_da, xq_dl, mq_si, mq_si2, mq_si3, mq_si4, mq_sa, mq_sa2, mq_sa3, mq_sa4, mq_sl, mq_sl2, mq_sl3, mq_sl4, va_upE, Nat.reduceEqDiff, reduceIte, Nat.reduceMul, Nat.reduceAdd, Nat.reduceSub, Nat.reduceLT, Nat.reduceLeDiff, true_and, and_true, not_true, not_false_iff, or_true, true_or, eq_self, lI_lit, lN_add, lN_mul, ll_sub, ll_lt, ll_le, ll_eq, ll_div, ll_rem, ll_n, lgn_ge, lgn_le, lgn_gt, lgn_lt, lgn_eq]
        refine br1 (fun g1 => ?_) (fun g1 => ?_)
        · rw [show X = tSat (tJ (tS B) v i 0) by rw [← hsat]; unfold tSat; omega]; exact hy
        · rw [show 1000000000000000 = tSat (tJ (tS B) v i 0) by rw [← hsat]; unfold tSat; omega]; exact hy
      simp (disch := omega) only [nI_lit, nI_m1, nI_add, pk_mul, ni_sub, ii_sub, ii_add, ii_addL, ii_addR, ii_subL, ii_subR, ii_neg, ii_nneg, ii_mul, ii_mulL, ii_mulR, ni_div, ni_rem, ni_le, ni_lt, ni_eq, ii_le, ii_lt, ii_eq, ii_leL, ii_leR, ii_ltL, ii_ltR, ii_eqL, ii_eqR, ni_cl, vq_in, xq_si, xq_si2, xq_si3, xq_sa, xq_sa2, xq_sa3, xq_sl, xq_sl2, xq_sl3, xq_di, xq_da, xq_dl, mq_si, mq_si2, mq_si3, mq_si4, mq_sa, mq_sa2, mq_sa3, mq_sa4, mq_sl, mq_sl2, mq_sl3, mq_sl4, va_upE, Nat.reduceEqDiff, reduceIte, Nat.reduceMul, Nat.reduceAdd, Nat.reduceSub, Nat.reduceLT, Nat.reduceLeDiff, true_and, and_true, not_true, not_false_iff, or_true, true_or, eq_self, lI_lit, lN_add, lN_mul, ll_sub, ll_lt, ll_le, ll_eq, ll_div, ll_rem, ll_n, lgn_ge, lgn_le, lgn_gt, lgn_lt, lgn_eq]
      refine br1 (fun g1 => ?_) (fun g1 => ?_)
      · have e0 : tJ (tS B) v i 0 = 0 := by omega
        refine fin t ?_
        have := k0 e0 t (mf_t Fs (mf_w hft (by decide) (by decide) (by decide))) ((hft.1 2 (by decide)).trans s2)
        rw [e0]; exact this
      · refine mx_spans (S := tS B) (v := v) (by omega) hn hv hS ⟨t45, t14, t43⟩ (fun k hk => tC k (by omega)) (fun y hy y48 yB => ?_)
        refine fin y (k1 (by omega) y (mf_t (mf_w Fs (by decide) (by decide) (by decide)) (mf_t (mf_w hft (by decide) (by decide) (by decide)) (mf_w hy (by decide) (by decide) (by decide)))) ((hy.1 2 (by decide)).trans ((hft.1 2 (by decide)).trans s2)) y48 yB)
    · simp (disch := omega) only [nI_lit, nI_m1, nI_add, pk_mul, ni_sub, ii_sub, ii_add, ii_addL, ii_addR, ii_subL, ii_subR, ii_neg, ii_nneg, ii_mul, ii_mulL, ii_mulR, ni_div, ni_rem, ni_le, ni_lt, ni_eq, ii_le, ii_lt, ii_eq, ii_leL, ii_leR, ii_ltL, ii_ltR, ii_eqL, ii_eqR, ni_cl, vq_in, xq_si, xq_si2, xq_si3, xq_sa, xq_sa2, xq_sa3, xq_sl, xq_sl2, xq_sl3, xq_di, xq_da, xq_dl, mq_si, mq_si2, mq_si3, mq_si4, mq_sa, mq_sa2, mq_sa3, mq_sa4, mq_sl, mq_sl2, mq_sl3, mq_sl4, va_upE, Nat.reduceEqDiff, reduceIte, Nat.reduceMul, Nat.reduceAdd, Nat.reduceSub, Nat.reduceLT, Nat.reduceLeDiff, true_and, and_true, not_true, not_false_iff, or_true, true_or, eq_self] at g
      refine lqe5 (F := M_tellings_276_lp K k3) (G := M_tellings_276 K k3) (fun _ _ _ _ _ _ => rfl) (fun d4 a1 a2 a3 a4 z => mf [] [44] [] s z ∧ a1 = nI i ∧ a3 = nI a ∧ ∃ c, a4 = nI c ∧ c + d4 = 31 ∧ a2 = lN (fsT (fun a' => fsT (fun c' => tA (tS B) v i a' c') 31) a + fsT (fun c' => tA (tS B) v i a c') c) ∧ ∀ k, k < 31 * a + c → tCo z (tS B) v 0 k) ?_ 31 _ _ _ _ _ ⟨hft, rfl, rfl, 0, rfl, rfl, rfl, fun k hk => tC k (by omega)⟩
      rintro k4 d4 a1 a2 a3 a4 z ⟨hfz, rfl, rfl, c, rfl, hc, rfl, zC⟩ ih4
      have z45 : ∀ j, j < i → z.2.2.1 45 j = iI (tS B j) := fun j hj => by rw [hfz.2.1 45 (by decide)]; exact s45 j hj
      have z14 : z.2.2.1 14 0 = nI v := by rw [hfz.2.1 14 (by decide)]; exact s14
      unfold M_tellings_276
      refine br1 (fun g1 => ?_) (fun g1 => ?_)
      · simp (disch := omega) only [nI_lit, nI_m1, nI_add, pk_mul, ni_sub, ii_sub, ii_add, ii_addL, ii_addR, ii_subL, ii_subR, ii_neg, ii_nneg, ii_mul, ii_mulL, ii_mulR, ni_div, ni_rem, ni_le, ni_lt, ni_eq, ii_le, ii_lt, ii_eq, ii_leL, ii_leR, ii_ltL, ii_ltR, ii_eqL, ii_eqR, ni_cl, vq_in, xq_si, xq_si2, xq_si3, xq_sa, xq_sa2, xq_sa3, xq_sl, xq_sl2, xq_sl3, xq_di, xq_da, xq_dl, mq_si, mq_si2, mq_si3, mq_si4, mq_sa, mq_sa2, mq_sa3, mq_sa4, mq_sl, mq_sl2, mq_sl3, mq_sl4, va_upE, Nat.reduceEqDiff, reduceIte, Nat.reduceMul, Nat.reduceAdd, Nat.reduceSub, Nat.reduceLT, Nat.reduceLeDiff, true_and, and_true, not_true, not_false_iff, or_true, true_or, eq_self] at g1
        have hc2 : c = 31 := by omega
        subst hc2
        intro x4 e4
        subst e4
        refine ih3 (d3 - 1) _ _ _ _ (by omega) ⟨hfz, rfl, a + 1, nI_1 a, by omega, rfl, fun k hk => zC k (by omega)⟩
      · simp (disch := omega) only [nI_lit, nI_m1, nI_add, pk_mul, ni_sub, ii_sub, ii_add, ii_addL, ii_addR, ii_subL, ii_subR, ii_neg, ii_nneg, ii_mul, ii_mulL, ii_mulR, ni_div, ni_rem, ni_le, ni_lt, ni_eq, ii_le, ii_lt, ii_eq, ii_leL, ii_leR, ii_ltL, ii_ltR, ii_eqL, ii_eqR, ni_cl, vq_in, xq_si, xq_si2, xq_si3, xq_sa, xq_sa2, xq_sa3, xq_sl, xq_sl2, xq_sl3, xq_di, xq_da, xq_dl, mq_si, mq_si2, mq_si3, mq_si4, mq_sa, mq_sa2, mq_sa3, mq_sa4, mq_sl, mq_sl2, mq_sl3, mq_sl4, va_upE, Nat.reduceEqDiff, reduceIte, Nat.reduceMul, Nat.reduceAdd, Nat.reduceSub, Nat.reduceLT, Nat.reduceLeDiff, true_and, and_true, not_true, not_false_iff, or_true, true_or, eq_self] at g1
        have bA4 := bA2 a c (by omega)
        have bA5 := bA a c
        have go : ∀ (r : Int32) (q : Nat), (r = 0 ∨ r = 1) → (r = 0 ↔ ¬ tFit (tS B) v 0 15 a c) → M_tellings_344 K k3 k4 (nI i) (lN (fsT (fun a' => fsT (fun c' => tA (tS B) v i a' c') 31) a + fsT (fun c' => tA (tS B) v i a c') (c + 1))) (nI a) (nI c) (th_sa z 44 (upd (z.2.2.1 44) (961 * 0 + (31 * a + c)) r)) := by
          intro r q hr01 hriff
          unfold M_tellings_344
          intro x5 e5
          subst e5
          refine ih4 (d4 - 1) _ _ _ _ _ (by omega) ⟨mf_a (by decide) hfz, rfl, rfl, c + 1, nI_1 c, by omega, rfl, fun k hk => ?_⟩
          by_cases e : k = 31 * a + c
          · subst e
            refine tCo_n hr01 (hriff.trans ?_)
            rw [show (31 * a + c) / 31 = a by omega, show (31 * a + c) % 31 = c by omega, tF_1]
          · exact tCo_u (zC k (by omega)) (by omega)
        have eix : (31 : Int32) * nI a + nI c = nI (961 * 0 + (31 * a + c)) := by simp (disch := omega) only [nI_lit, nI_m1, nI_add, pk_mul, ni_sub, ii_sub, ii_add, ii_addL, ii_addR, ii_subL, ii_subR, ii_neg, ii_nneg, ii_mul, ii_mulL, ii_mulR, ni_div, ni_rem, ni_le, ni_lt, ni_eq, ii_le, ii_lt, ii_eq, ii_leL, ii_leR, ii_ltL, ii_ltR, ii_eqL, ii_eqR, ni_cl, vq_in, xq_si, xq_si2, xq_si3, xq_sa, xq_sa2, xq_sa3, xq_sl, xq_sl2, xq_sl3, xq_di, xq_da, xq_dl, mq_si, mq_si2, mq_si3, mq_si4, mq_sa, mq_sa2, mq_sa3, mq_sa4, mq_sl, mq_sl2, mq_sl3, mq_sl4, va_upE, Nat.reduceEqDiff, reduceIte, Nat.reduceMul, Nat.reduceAdd, Nat.reduceSub, Nat.reduceLT, Nat.reduceLeDiff, true_and, and_true, not_true, not_false_iff, or_true, true_or, eq_self, Nat.zero_add, Nat.mul_zero]
        have hcell : ∀ r : Int32, (th_sa z 44 (upd (z.2.2.1 44) (961 * 0 + (31 * a + c)) r)).2.2.1 44 (961 * 0 + (31 * a + c)) = r := fun r => by
          simp (disch := omega) only [nI_lit, nI_m1, nI_add, pk_mul, ni_sub, ii_sub, ii_add, ii_addL, ii_addR, ii_subL, ii_subR, ii_neg, ii_nneg, ii_mul, ii_mulL, ii_mulR, ni_div, ni_rem, ni_le, ni_lt, ni_eq, ii_le, ii_lt, ii_eq, ii_leL, ii_leR, ii_ltL, ii_ltR, ii_eqL, ii_eqR, ni_cl, vq_in, xq_si, xq_si2, xq_si3, xq_sa, xq_sa2, xq_sa3, xq_sl, xq_sl2, xq_sl3, xq_di, xq_da, xq_dl, mq_si, mq_si2, mq_si3, mq_si4, mq_sa, mq_sa2, mq_sa3, mq_sa4, mq_sl, mq_sl2, mq_sl3, mq_sl4, va_upE, Nat.reduceEqDiff, reduceIte, Nat.reduceMul, Nat.reduceAdd, Nat.reduceSub, Nat.reduceLT, Nat.reduceLeDiff, true_and, and_true, not_true, not_false_iff, or_true, true_or, eq_self]
          rw [pk_us]
        refine mx_fits (S := tS B) (v := v) (i := 0) (a := 15) (b := a) (c := c) (by omega) (z45 0 (by omega)) (hS _) hv z14 (by omega) (by omega) (by omega) rfl rfl (ii_nsub _ 15) (ii_nsub _ 15) (fun g2 => ?_) (fun g2 => ?_)
        · rw [eix]
          refine And.intro (vp_in_nI (by omega) (by omega)) ?_
          intro u4 e4
          rw [ni_cl (by omega), vpn_b n011] at e4
          subst e4
          refine And.intro (vp_in_nI (by omega) (by omega)) ?_
          intro y5 e5
          rw [ni_cl (by omega), hcell] at e5
          subst e5
          refine br1 (fun g3 => absurd g3 (by decide)) (fun g3 => ?_)
          refine And.intro (vp_in_nI (by omega) (by omega)) ?_
          intro y6 e6
          have hz43 : z.2.2.2 43 (961 * 0 + (31 * a + c)) = lN (tSat (tW (tS B) v i 0 a c)) := by
            rw [hfz.2.2 43 (by decide), ← Nat.add_assoc]; exact s43 0 a c (Nat.le_refl 0) (by omega) (by omega) (by omega)
          have e6 : y6 = lN (tSat (tW (tS B) v i 0 a c)) := by
            rw [e6, ni_cl (by omega)]; exact hz43
          subst e6
          intro y7 e7
          rw [lN_add] at e7
          have eT : fsT (fun c' => tA (tS B) v i a c') (c + 1) = fsT (fun c' => tA (tS B) v i a c') c + tSat (tW (tS B) v i 0 a c) := by
            rw [fsT]; unfold tA; rw [tI_t g2]
          rw [Nat.add_assoc, ← eT] at e7
          subst e7
          exact go 1 0 (Or.inr rfl) ⟨fun g5 => absurd g5 (by decide), fun g5 => absurd g2 g5⟩
        · rw [eix]
          refine And.intro (vp_in_nI (by omega) (by omega)) ?_
          intro u4 e4
          rw [ni_cl (by omega), vpn_b n010] at e4
          subst e4
          refine And.intro (vp_in_nI (by omega) (by omega)) ?_
          intro y5 e5
          rw [ni_cl (by omega), hcell] at e5
          subst e5
          refine br1 (fun g3 => ?_) (fun g3 => absurd rfl g3)
          have eT : fsT (fun c' => tA (tS B) v i a c') (c + 1) = fsT (fun c' => tA (tS B) v i a c') c := by
            rw [fsT]; unfold tA; rw [tI_f g2]; rfl
          rw [← eT]
          exact go 0 0 (Or.inl rfl) ⟨fun _ => g2, fun _ => rfl⟩
  | succ p =>
    rw [dn_s]
    repeat' (first | (with_reducible refine And.intro n20 ?_) | (with_reducible refine And.intro n010 ?_) | (with_reducible refine And.intro n011 ?_) | ((with_reducible refine vq_and ?_ ?_); · (simp (disch := omega) only [nI_lit, nI_m1, nI_add, pk_mul, ni_sub, ii_sub, ii_add, ii_addL, ii_addR, ii_subL, ii_subR, ii_neg, ii_nneg, ii_mul, ii_mulL, ii_mulR, ni_div, ni_rem, ni_le, ni_lt, ni_eq, ii_le, ii_lt, ii_eq, ii_leL, ii_leR, ii_ltL, ii_ltR, ii_eqL, ii_eqR, ni_cl, vq_in, xq_si, xq_si2, xq_si3, xq_sa, xq_sa2, xq_sa3, xq_sl, xq_sl2, xq_sl3, xq_di, xq_da, xq_dl, mq_si, mq_si2, mq_si3, mq_si4, mq_sa, mq_sa2, mq_sa3, mq_sa4, mq_sl, mq_sl2, mq_sl3, mq_sl4, va_upE, Nat.reduceEqDiff, reduceIte, Nat.reduceMul, Nat.reduceAdd, Nat.reduceSub, Nat.reduceLT, Nat.reduceLeDiff, true_and, and_true, not_true, not_false_iff, or_true, true_or, eq_self])) | ((with_reducible refine br1 (fun hww => ?_) (fun hww => ?_)) <;> (try simp (disch := omega) only [nI_lit, nI_m1, nI_add, pk_mul, ni_sub, ii_sub, ii_add, ii_addL, ii_addR, ii_subL, ii_subR, ii_neg, ii_nneg, ii_mul, ii_mulL, ii_mulR, ni_div, ni_rem, ni_le, ni_lt, ni_eq, ii_le, ii_lt, ii_eq, ii_leL, ii_leR, ii_ltL, ii_ltR, ii_eqL, ii_eqR, ni_cl, vq_in, xq_si, xq_si2, xq_si3, xq_sa, xq_sa2, xq_sa3, xq_sl, xq_sl2, xq_sl3, xq_di, xq_da, xq_dl, mq_si, mq_si2, mq_si3, mq_si4, mq_sa, mq_sa2, mq_sa3, mq_sa4, mq_sl, mq_sl2, mq_sl3, mq_sl4, va_upE, Nat.reduceEqDiff, reduceIte, Nat.reduceMul, Nat.reduceAdd, Nat.reduceSub, Nat.reduceLT, Nat.reduceLeDiff, true_and, and_true, not_true, not_false_iff, or_true, true_or, eq_self] at hww) <;> (try (exfalso; omega))) | ((with_reducible refine br2 (fun hww => ?_) (fun hww => ?_)) <;> (try simp (disch := omega) only [nI_lit, nI_m1, nI_add, pk_mul, ni_sub, ii_sub, ii_add, ii_addL, ii_addR, ii_subL, ii_subR, ii_neg, ii_nneg, ii_mul, ii_mulL, ii_mulR, ni_div, ni_rem, ni_le, ni_lt, ni_eq, ii_le, ii_lt, ii_eq, ii_leL, ii_leR, ii_ltL, ii_ltR, ii_eqL, ii_eqR, ni_cl, vq_in, xq_si, xq_si2, xq_si3, xq_sa, xq_sa2, xq_sa3, xq_sl, xq_sl2, xq_sl3, xq_di, xq_da, xq_dl, mq_si, mq_si2, mq_si3, mq_si4, mq_sa, mq_sa2, mq_sa3, mq_sa4, mq_sl, mq_sl2, mq_sl3, mq_sl4, va_upE, Nat.reduceEqDiff, reduceIte, Nat.reduceMul, Nat.reduceAdd, Nat.reduceSub, Nat.reduceLT, Nat.reduceLeDiff, true_and, and_true, not_true, not_false_iff, or_true, true_or, eq_self] at hww) <;> (try (exfalso; omega))) | ((with_reducible intro uu ue); subst ue))
    refine lqe4 (F := M_tellings_86_lp K k2) (G := M_tellings_86 K k2) (fun _ _ _ _ _ => rfl) (fun d3 a1 a2 a3 t => mf [] [] [43] u t ∧ a1 = nI i ∧ a2 = nI p ∧ ∃ a, a3 = nI a ∧ a + d3 = 31 ∧ (∀ p' a' c, p + 1 ≤ p' → p' + 2 ≤ i → a' < 31 → c < 31 → t.2.2.2 43 (961 * p' + 31 * a' + c) = lN (tSat (tW (tS B) v i p' a' c))) ∧ ∀ a' c, a' < a → c < 31 → t.2.2.2 43 (961 * p + 31 * a' + c) = lN (tSat (tW (tS B) v i p a' c))) ?_ 31 _ _ _ _ ⟨hfs, rfl, rfl, 0, rfl, rfl, s43, fun a' c h1 => by omega⟩
    rintro k3 d3 a1 a2 a3 t ⟨hft, rfl, rfl, a, rfl, ha, tR, tN⟩ ih3
    unfold M_tellings_86
    repeat' (first | (with_reducible refine And.intro n20 ?_) | (with_reducible refine And.intro n010 ?_) | (with_reducible refine And.intro n011 ?_) | ((with_reducible refine vq_and ?_ ?_); · (simp (disch := omega) only [nI_lit, nI_m1, nI_add, pk_mul, ni_sub, ii_sub, ii_add, ii_addL, ii_addR, ii_subL, ii_subR, ii_neg, ii_nneg, ii_mul, ii_mulL, ii_mulR, ni_div, ni_rem, ni_le, ni_lt, ni_eq, ii_le, ii_lt, ii_eq, ii_leL, ii_leR, ii_ltL, ii_ltR, ii_eqL, ii_eqR, ni_cl, vq_in, xq_si, xq_si2, xq_si3, xq_sa, xq_sa2, xq_sa3, xq_sl, xq_sl2, xq_sl3, xq_di, xq_da, xq_dl, mq_si, mq_si2, mq_si3, mq_si4, mq_sa, mq_sa2, mq_sa3, mq_sa4, mq_sl, mq_sl2, mq_sl3, mq_sl4, va_upE, Nat.reduceEqDiff, reduceIte, Nat.reduceMul, Nat.reduceAdd, Nat.reduceSub, Nat.reduceLT, Nat.reduceLeDiff, true_and, and_true, not_true, not_false_iff, or_true, true_or, eq_self])) | ((with_reducible refine br1 (fun hww => ?_) (fun hww => ?_)) <;> (try simp (disch := omega) only [nI_lit, nI_m1, nI_add, pk_mul, ni_sub, ii_sub, ii_add, ii_addL, ii_addR, ii_subL, ii_subR, ii_neg, ii_nneg, ii_mul, ii_mulL, ii_mulR, ni_div, ni_rem, ni_le, ni_lt, ni_eq, ii_le, ii_lt, ii_eq, ii_leL, ii_leR, ii_ltL, ii_ltR, ii_eqL, ii_eqR, ni_cl, vq_in, xq_si, xq_si2, xq_si3, xq_sa, xq_sa2, xq_sa3, xq_sl, xq_sl2, xq_sl3, xq_di, xq_da, xq_dl, mq_si, mq_si2, mq_si3, mq_si4, mq_sa, mq_sa2, mq_sa3, mq_sa4, mq_sl, mq_sl2, mq_sl3, mq_sl4, va_upE, Nat.reduceEqDiff, reduceIte, Nat.reduceMul, Nat.reduceAdd, Nat.reduceSub, Nat.reduceLT, Nat.reduceLeDiff, true_and, and_true, not_true, not_false_iff, or_true, true_or, eq_self] at hww) <;> (try (exfalso; omega))) | ((with_reducible refine br2 (fun hww => ?_) (fun hww => ?_)) <;> (try simp (disch := omega) only [nI_lit, nI_m1, nI_add, pk_mul, ni_sub, ii_sub, ii_add, ii_addL, ii_addR, ii_subL, ii_subR, ii_neg, ii_nneg, ii_mul, ii_mulL, ii_mulR, ni_div, ni_rem, ni_le, ni_lt, ni_eq, ii_le, ii_lt, ii_eq, ii_leL, ii_leR, ii_ltL, ii_ltR, ii_eqL, ii_eqR, ni_cl, vq_in, xq_si, xq_si2, xq_si3, xq_sa, xq_sa2, xq_sa3, xq_sl, xq_sl2, xq_sl3, xq_di, xq_da, xq_dl, mq_si, mq_si2, mq_si3, mq_si4, mq_sa, mq_sa2, mq_sa3, mq_sa4, mq_sl, mq_sl2, mq_sl3, mq_sl4, va_upE, Nat.reduceEqDiff, reduceIte, Nat.reduceMul, Nat.reduceAdd, Nat.reduceSub, Nat.reduceLT, Nat.reduceLeDiff, true_and, and_true, not_true, not_false_iff, or_true, true_or, eq_self] at hww) <;> (try (exfalso; omega))) | ((with_reducible intro uu ue); subst ue))
    · rw [dn_m]
      refine ih2 p _ _ _ (by omega) ⟨hft, rfl, by omega, rfl, fun p' a' c h1 h2 h3 h4 => ?_⟩
      rcases Nat.lt_or_ge p p' with h5 | h5
      · exact tR p' a' c (by omega) h2 h3 h4
      · have : p' = p := by omega
        subst this
        exact tN a' c (by omega) h4
    · refine lqe5 (F := M_tellings_95_lp K k2 k3) (G := M_tellings_95 K k2 k3) (fun _ _ _ _ _ _ => rfl) (fun d4 a1 a2 a3 a4 z => mf [] [] [43] u z ∧ a1 = nI i ∧ a2 = nI p ∧ a3 = nI a ∧ ∃ c, a4 = nI c ∧ c + d4 = 31 ∧ (∀ p' a' c, p + 1 ≤ p' → p' + 2 ≤ i → a' < 31 → c < 31 → z.2.2.2 43 (961 * p' + 31 * a' + c) = lN (tSat (tW (tS B) v i p' a' c))) ∧ (∀ a' c, a' < a → c < 31 → z.2.2.2 43 (961 * p + 31 * a' + c) = lN (tSat (tW (tS B) v i p a' c))) ∧ ∀ c', c' < c → z.2.2.2 43 (961 * p + 31 * a + c') = lN (tSat (tW (tS B) v i p a c'))) ?_ 31 _ _ _ _ _ ⟨hft, rfl, rfl, rfl, 0, rfl, rfl, tR, tN, fun c' h1 => by omega⟩
      rintro k4 d4 a1 a2 a3 a4 z ⟨hfz, rfl, rfl, rfl, c, rfl, hc, zR, zN, zK⟩ ih4
      have z45 : ∀ j, j < i → z.2.2.1 45 j = iI (tS B j) := fun j hj => by rw [hfz.2.1 45 (by decide)]; exact uall j hj
      have z14 : z.2.2.1 14 0 = nI v := by rw [hfz.2.1 14 (by decide)]; exact u14
      have fin : ∀ X : Nat, tSat X = tSat (tW (tS B) v i p a c) → X ≤ 31000000000000000 → c < 31 → M_tellings_208 K k2 k3 k4 (nI i) (nI p) (nI a) (nI c) (lN X) z := by
        intro X hX hXb hc2
        have fin2 : ∀ Y : Nat, Y = tSat X → M_tellings_242 K k2 k3 k4 (nI i) (nI p) (nI a) (nI c) (lN Y) (nI (961 * p + 31 * a + c)) z := by
          intro Y hY
          unfold M_tellings_242
          refine And.intro (vp_in_nI (by omega) (by omega)) ?_
          intro u1 e1
          rw [ni_cl (by omega)] at e1
          subst e1
          intro x5 e5
          subst e5
          refine ih4 (d4 - 1) _ _ _ _ _ (by omega) ⟨mf_l (by decide) hfz, rfl, rfl, rfl, c + 1, nI_1 c, by omega, fun p' a' c' h1 h2 h3 h4 => ?_, fun a' c' h1 h2 => ?_, fun c' h1 => ?_⟩
          · simp (disch := omega) only [nI_lit, nI_m1, nI_add, pk_mul, ni_sub, ii_sub, ii_add, ii_addL, ii_addR, ii_subL, ii_subR, ii_neg, ii_nneg, ii_mul, ii_mulL, ii_mulR, ni_div, ni_rem, ni_le, ni_lt, ni_eq, ii_le, ii_lt, ii_eq, ii_leL, ii_leR, ii_ltL, ii_ltR, ii_eqL, ii_eqR, ni_cl, vq_in, xq_si, xq_si2, xq_si3, xq_sa, xq_sa2, xq_sa3, xq_sl, xq_sl2, xq_sl3, xq_di, xq_da, xq_dl, mq_si, mq_si2, mq_si3, mq_si4, mq_sa, mq_sa2, mq_sa3, mq_sa4, mq_sl, mq_sl2, mq_sl3, mq_sl4, va_upE, Nat.reduceEqDiff, reduceIte, Nat.reduceMul, Nat.reduceAdd, Nat.reduceSub, Nat.reduceLT, Nat.reduceLeDiff, true_and, and_true, not_true, not_false_iff, or_true, true_or, eq_self]
            rw [pk_uLn (by omega)]; exact zR p' a' c' h1 h2 h3 h4
          · simp (disch := omega) only [nI_lit, nI_m1, nI_add, pk_mul, ni_sub, ii_sub, ii_add, ii_addL, ii_addR, ii_subL, ii_subR, ii_neg, ii_nneg, ii_mul, ii_mulL, ii_mulR, ni_div, ni_rem, ni_le, ni_lt, ni_eq, ii_le, ii_lt, ii_eq, ii_leL, ii_leR, ii_ltL, ii_ltR, ii_eqL, ii_eqR, ni_cl, vq_in, xq_si, xq_si2, xq_si3, xq_sa, xq_sa2, xq_sa3, xq_sl, xq_sl2, xq_sl3, xq_di, xq_da, xq_dl, mq_si, mq_si2, mq_si3, mq_si4, mq_sa, mq_sa2, mq_sa3, mq_sa4, mq_sl, mq_sl2, mq_sl3, mq_sl4, va_upE, Nat.reduceEqDiff, reduceIte, Nat.reduceMul, Nat.reduceAdd, Nat.reduceSub, Nat.reduceLT, Nat.reduceLeDiff, true_and, and_true, not_true, not_false_iff, or_true, true_or, eq_self]
            rw [pk_uLn (by omega)]; exact zN a' c' h1 h2
          · simp (disch := omega) only [nI_lit, nI_m1, nI_add, pk_mul, ni_sub, ii_sub, ii_add, ii_addL, ii_addR, ii_subL, ii_subR, ii_neg, ii_nneg, ii_mul, ii_mulL, ii_mulR, ni_div, ni_rem, ni_le, ni_lt, ni_eq, ii_le, ii_lt, ii_eq, ii_leL, ii_leR, ii_ltL, ii_ltR, ii_eqL, ii_eqR, ni_cl, vq_in, xq_si, xq_si2, xq_si3, xq_sa, xq_sa2, xq_sa3, xq_sl, xq_sl2, xq_sl3, xq_di, xq_da, xq_dl, mq_si, mq_si2, mq_si3, mq_si4, mq_sa, mq_sa2, mq_sa3, mq_sa4, mq_sl, mq_sl2, mq_sl3, mq_sl4, va_upE, Nat.reduceEqDiff, reduceIte, Nat.reduceMul, Nat.reduceAdd, Nat.reduceSub, Nat.reduceLT, Nat.reduceLeDiff, true_and, and_true, not_true, not_false_iff, or_true, true_or, eq_self]
            by_cases e : c' = c
            · subst e; rw [pk_uLs, hY, hX]
            · rw [pk_uLn (by omega)]; exact zK c' (by omega)
        unfold M_tellings_208
        rw [show (961 : Int32) * nI p + (31 : Int32) * nI a + nI c = nI (961 * p + 31 * a + c) by simp (disch := omega) only [nI_lit, nI_m1, nI_add, pk_mul, ni_sub, ii_sub, ii_add, ii_addL, ii_addR, ii_subL, ii_subR, ii_neg, ii_nneg, ii_mul, ii_mulL, ii_mulR, ni_div, ni_rem, ni_le, ni_lt, ni_eq, ii_le, ii_lt, ii_eq, ii_leL, ii_leR, ii_ltL, ii_ltR, ii_eqL, ii_eqR, ni_cl, vq_in, xq_si, xq_si2, xq_si3, xq_sa, xq_sa2, xq_sa3, xq_sl, xq_sl2, xq_sl3, xq_di, xq_da, xq_dl, mq_si, mq_si2, mq_si3, mq_si4, mq_sa, mq_sa2, mq_sa3, mq_sa4, mq_sl, mq_sl2, mq_sl3, mq_sl4, va_upE, Nat.reduceEqDiff, reduceIte, Nat.reduceMul, Nat.reduceAdd, Nat.reduceSub, Nat.reduceLT, Nat.reduceLeDiff, true_and, and_true, not_true, not_false_iff, or_true, true_or, eq_self]]
        simp (disch := omega) only [nI_lit, nI_m1, nI_add, pk_mul, ni_sub, ii_sub, ii_add, ii_addL, ii_addR, ii_subL, ii_subR, ii_neg, ii_nneg, ii_mul, ii_mulL, ii_mulR, ni_div, ni_rem, ni_le, ni_lt, ni_eq, ii_le, ii_lt, ii_eq, ii_leL, ii_leR, ii_ltL, ii_ltR, ii_eqL, ii_eqR, ni_cl, vq_in, xq_si, xq_si2, xq_si3, xq_sa, xq_sa2, xq_sa3, xq_sl, xq_sl2, xq_sl3, xq_di, xq_da, xq_dl, mq_si, mq_si2, mq_si3, mq_si4, mq_sa, mq_sa2, mq_sa3, mq_sa4, mq_sl, mq_sl2, mq_sl3, mq_sl4, va_upE, Nat.reduceEqDiff, reduceIte, Nat.reduceMul, Nat.reduceAdd, Nat.reduceSub, Nat.reduceLT, Nat.reduceLeDiff, true_and, and_true, not_true, not_false_iff, or_true, true_or, eq_self, lI_lit, lN_add, lN_mul, ll_sub, ll_lt, ll_le, ll_eq, ll_div, ll_rem, ll_n, lgn_ge, lgn_le, lgn_gt, lgn_lt, lgn_eq]
        refine br1 (fun g1 => fin2 X (by unfold tSat; omega)) (fun g1 => fin2 _ (by unfold tSat; omega))
      unfold M_tellings_95
      refine br1 (fun g => ?_) (fun g => ?_)
      · simp (disch := omega) only [nI_lit, nI_m1, nI_add, pk_mul, ni_sub, ii_sub, ii_add, ii_addL, ii_addR, ii_subL, ii_subR, ii_neg, ii_nneg, ii_mul, ii_mulL, ii_mulR, ni_div, ni_rem, ni_le, ni_lt, ni_eq, ii_le, ii_lt, ii_eq, ii_leL, ii_leR, ii_ltL, ii_ltR, ii_eqL, ii_eqR, ni_cl, vq_in, xq_si, xq_si2, xq_si3, xq_sa, xq_sa2, xq_sa3, xq_sl, xq_sl2, xq_sl3, xq_di, xq_da, xq_dl, mq_si, mq_si2, mq_si3, mq_si4, mq_sa, mq_sa2, mq_sa3, mq_sa4, mq_sl, mq_sl2, mq_sl3, mq_sl4, va_upE, Nat.reduceEqDiff, reduceIte, Nat.reduceMul, Nat.reduceAdd, Nat.reduceSub, Nat.reduceLT, Nat.reduceLeDiff, true_and, and_true, not_true, not_false_iff, or_true, true_or, eq_self] at g
        intro x3 e3
        subst e3
        refine ih3 (d3 - 1) _ _ _ _ (by omega) ⟨hfz, rfl, rfl, a + 1, nI_1 a, by omega, zR, fun a' c' h1 h2 => ?_⟩
        by_cases e : a' = a
        · subst e; exact zK c' (by omega)
        · exact zN a' c' (by omega) h2
      · simp (disch := omega) only [nI_lit, nI_m1, nI_add, pk_mul, ni_sub, ii_sub, ii_add, ii_addL, ii_addR, ii_subL, ii_subR, ii_neg, ii_nneg, ii_mul, ii_mulL, ii_mulR, ni_div, ni_rem, ni_le, ni_lt, ni_eq, ii_le, ii_lt, ii_eq, ii_leL, ii_leR, ii_ltL, ii_ltR, ii_eqL, ii_eqR, ni_cl, vq_in, xq_si, xq_si2, xq_si3, xq_sa, xq_sa2, xq_sa3, xq_sl, xq_sl2, xq_sl3, xq_di, xq_da, xq_dl, mq_si, mq_si2, mq_si3, mq_si4, mq_sa, mq_sa2, mq_sa3, mq_sa4, mq_sl, mq_sl2, mq_sl3, mq_sl4, va_upE, Nat.reduceEqDiff, reduceIte, Nat.reduceMul, Nat.reduceAdd, Nat.reduceSub, Nat.reduceLT, Nat.reduceLeDiff, true_and, and_true, not_true, not_false_iff, or_true, true_or, eq_self] at g
        rw [show nI i - (2 : Int32) = nI (i - 2) from ni_sub (b := 2) (by omega), ni_eq (by omega) (by omega)]
        refine br2 (fun g1 => ?_) (fun g1 => ?_)
        · refine lqe7 (F := M_tellings_145_lp K k2 k3 k4) (G := M_tellings_145 K k2 k3 k4) (fun _ _ _ _ _ _ _ _ => rfl) (fun d5 a1 a2 a3 a4 a5 a6 z' => z' = z ∧ a1 = nI i ∧ a2 = nI p ∧ a3 = nI a ∧ a4 = nI c ∧ ∃ d, a6 = nI d ∧ d + d5 = 31 ∧ a5 = lN (fsT (fun d' => tI (tFit (tS B) v (p + 1) a c d') (tSat (tW (tS B) v i (p + 1) c d'))) d)) ?_ 31 _ _ _ _ _ _ _ ⟨rfl, rfl, rfl, rfl, rfl, 0, rfl, rfl, rfl⟩
          rintro k5 d5 a1 a2 a3 a4 a5 a6 z' ⟨rfl, rfl, rfl, rfl, rfl, d, rfl, hd5, rfl⟩ ih5
          have bd1 := fsT_bd (f := fun d' => tI (tFit (tS B) v (p + 1) a c d') (tSat (tW (tS B) v i (p + 1) c d'))) (B := 1000000000000000) d (fun s _ => Nat.le_trans (tI_le _ _) (tSat_le _))
          have go : ∀ X : Nat, X = fsT (fun d' => tI (tFit (tS B) v (p + 1) a c d') (tSat (tW (tS B) v i (p + 1) c d'))) (d + 1) → d < 31 → M_tellings_202 K k2 k3 k4 k5 (nI i) (nI p) (nI a) (nI c) (lN X) (nI d) z' := by
            intro X hX hd6
            unfold M_tellings_202
            intro x7 e7
            subst e7
            refine ih5 (d5 - 1) _ _ _ _ _ _ _ (by omega) ⟨rfl, rfl, rfl, rfl, rfl, d + 1, nI_1 d, by omega, by rw [hX]⟩
          unfold M_tellings_145
          refine br1 (fun g2 => ?_) (fun g2 => ?_)
          · simp (disch := omega) only [nI_lit, nI_m1, nI_add, pk_mul, ni_sub, ii_sub, ii_add, ii_addL, ii_addR, ii_subL, ii_subR, ii_neg, ii_nneg, ii_mul, ii_mulL, ii_mulR, ni_div, ni_rem, ni_le, ni_lt, ni_eq, ii_le, ii_lt, ii_eq, ii_leL, ii_leR, ii_ltL, ii_ltR, ii_eqL, ii_eqR, ni_cl, vq_in, xq_si, xq_si2, xq_si3, xq_sa, xq_sa2, xq_sa3, xq_sl, xq_sl2, xq_sl3, xq_di, xq_da, xq_dl, mq_si, mq_si2, mq_si3, mq_si4, mq_sa, mq_sa2, mq_sa3, mq_sa4, mq_sl, mq_sl2, mq_sl3, mq_sl4, va_upE, Nat.reduceEqDiff, reduceIte, Nat.reduceMul, Nat.reduceAdd, Nat.reduceSub, Nat.reduceLT, Nat.reduceLeDiff, true_and, and_true, not_true, not_false_iff, or_true, true_or, eq_self] at g2
            have hd6 : d = 31 := by omega
            subst hd6
            refine fin _ ?_ (by omega) (by omega)
            rw [tW_s (by omega), fsT_k (g := fun d' => tSat (tI (tFit (tS B) v (p + 1) a c d') (tW (tS B) v i (p + 1) c d'))) 31 (fun d' _ => tI_sat _ _), tSat_s]
          · simp (disch := omega) only [nI_lit, nI_m1, nI_add, pk_mul, ni_sub, ii_sub, ii_add, ii_addL, ii_addR, ii_subL, ii_subR, ii_neg, ii_nneg, ii_mul, ii_mulL, ii_mulR, ni_div, ni_rem, ni_le, ni_lt, ni_eq, ii_le, ii_lt, ii_eq, ii_leL, ii_leR, ii_ltL, ii_ltR, ii_eqL, ii_eqR, ni_cl, vq_in, xq_si, xq_si2, xq_si3, xq_sa, xq_sa2, xq_sa3, xq_sl, xq_sl2, xq_sl3, xq_di, xq_da, xq_dl, mq_si, mq_si2, mq_si3, mq_si4, mq_sa, mq_sa2, mq_sa3, mq_sa4, mq_sl, mq_sl2, mq_sl3, mq_sl4, va_upE, Nat.reduceEqDiff, reduceIte, Nat.reduceMul, Nat.reduceAdd, Nat.reduceSub, Nat.reduceLT, Nat.reduceLeDiff, true_and, and_true, not_true, not_false_iff, or_true, true_or, eq_self] at g2
            refine mx_fits (S := tS B) (v := v) (i := p + 1) (a := a) (b := c) (c := d) (by omega) (z45 (p + 1) (by omega)) (hS _) hv z14 (by omega) (by omega) (by omega) (nI_1 p) (ii_nsub _ 15) (ii_nsub _ 15) (ii_nsub _ 15) (fun g3 => ?_) (fun g3 => ?_)
            · refine br1 (fun g4 => absurd g4 (by decide)) (fun g4 => ?_)
              rw [show (961 : Int32) * (nI p + (1 : Int32)) + (31 : Int32) * nI c + nI d = nI (961 * (p + 1) + 31 * c + d) by simp (disch := omega) only [nI_lit, nI_m1, nI_add, pk_mul, ni_sub, ii_sub, ii_add, ii_addL, ii_addR, ii_subL, ii_subR, ii_neg, ii_nneg, ii_mul, ii_mulL, ii_mulR, ni_div, ni_rem, ni_le, ni_lt, ni_eq, ii_le, ii_lt, ii_eq, ii_leL, ii_leR, ii_ltL, ii_ltR, ii_eqL, ii_eqR, ni_cl, vq_in, xq_si, xq_si2, xq_si3, xq_sa, xq_sa2, xq_sa3, xq_sl, xq_sl2, xq_sl3, xq_di, xq_da, xq_dl, mq_si, mq_si2, mq_si3, mq_si4, mq_sa, mq_sa2, mq_sa3, mq_sa4, mq_sl, mq_sl2, mq_sl3, mq_sl4, va_upE, Nat.reduceEqDiff, reduceIte, Nat.reduceMul, Nat.reduceAdd, Nat.reduceSub, Nat.reduceLT, Nat.reduceLeDiff, true_and, and_true, not_true, not_false_iff, or_true, true_or, eq_self]]
              refine And.intro (vp_in_nI (by omega) (by omega)) ?_
              intro y3 e3
              rw [ni_cl (by omega), zR (p + 1) c d (by omega) (by omega) (by omega) (by omega)] at e3
              subst e3
              intro y4 e4
              rw [lN_add] at e4
              subst e4
              refine go _ ?_ (by omega)
              rw [fsT, tI_t g3]
            · refine br1 (fun g4 => ?_) (fun g4 => absurd rfl g4)
              refine go _ ?_ (by omega)
              rw [fsT, tI_f g3]; rfl
        · have hpi : p = i - 2 := g1
          have hw := tW_l (S := tS B) (v := v) (n := i) (a := a) (c := c) (by omega)
          rw [← hpi] at hw
          refine mx_fits (S := tS B) (v := v) (i := i - 1) (a := a) (b := c) (c := 15) (by omega) (z45 (i - 1) (by omega)) (hS _) hv z14 (by omega) (by omega) (by omega) (ni_sub (b := 1) (by omega)) (ii_nsub _ 15) (ii_nsub _ 15) rfl (fun g3 => ?_) (fun g3 => ?_)
          · refine br1 (fun g4 => absurd g4 (by decide)) (fun g4 => ?_)
            unfold M_tellings_137
            refine fin 1 ?_ (by omega) (by omega)
            rw [hw, tI_t g3]
          · refine br1 (fun g4 => ?_) (fun g4 => absurd rfl g4)
            unfold M_tellings_137
            refine fin 0 ?_ (by omega) (by omega)
            rw [hw, tI_f g3]
def sMay (x : xs_St) (m : th_St) : Prop := ∃ n : Nat, n ≤ 48 ∧ xi x 602 = nI n ∧ m.1 48 = nI n ∧ ∀ k, k < n → xa x 600 k = m.2.2.1 46 k ∧ xa x 601 k = m.2.2.1 47 k
theorem sMay_f {x x' : xs_St} {m m' : th_St} {I A L I' A' L' : List Nat} (h : sMay x m) (hx : xf I A L x x') (hm : mf I' A' L' m m') (h1 : 602 ∉ I) (h2 : 600 ∉ A) (h3 : 601 ∉ A) (h4 : 48 ∉ I') (h5 : 46 ∉ A') (h6 : 47 ∉ A') : sMay x' m' := by
  obtain ⟨n, hn, g1, g2, g3⟩ := h
  refine ⟨n, hn, (hx.1 602 h1).trans g1, (hm.1 48 h4).trans g2, fun k hk => ?_⟩
  rw [hx.2.1 600 h2, hx.2.1 601 h3, hm.2.1 46 h5, hm.2.1 47 h6]
  exact g3 k hk
theorem sx_tell {x : xs_St} {m : th_St} (hT : sTape x m) (hFe : sFeet x m) (hNo : sNoise x m) (hMa : sMay x m) (h605 : xl x 605 0 = lN 0) {K : Int64 → xs_St → Int64 → th_St → Prop}
    (k1 : ∀ (r : Int64) (x' : xs_St) (m' : th_St), xf [101, 602] [600, 601, 606, 607, 608] [603, 604, 605] x x' → mf [0, 2, 3, 4, 48] [44, 45, 46, 47] [43] m m' → xi x' 101 = 0 → m'.1 2 = 0 → xl x' 605 0 = lN 0 → sMay x' m' → K r x' r m') : X_TH_tellings x (fun r x' => M_tellings m (fun r' m' => K r x' r' m')) := by
  obtain ⟨N, B, hN, h1, h2, hX, hM⟩ := tB_of hT
  obtain ⟨n, hn4, hn, h300, h11⟩ := hFe
  obtain ⟨v, hv, h303, h14⟩ := hNo
  unfold X_TH_tellings
  rw [h1, h300, h303, show (2 : Int32) * nI n = nI (2 * n) from pk_mul 2 n, ni_eq (by omega) (by omega)]
  refine br2 (fun g => ?_) (fun g => ?_)
  · unfold X_TH_tellings_49
    refine tx_c ?_
    unfold M_tellings
    intro u1 e1; subst e1
    refine mx_taken ?_
    refine And.intro (vp_in_nI (n := 0) (by omega) (by omega)) ?_
    intro y4 e4
    have e4 : y4 = nI n := by rw [e4]; exact h11
    subst e4
    rw [show (mT m).1 3 = nI N from h2, show (2 : Int32) * nI n = nI (2 * n) from pk_mul 2 n, ni_eq (by omega) (by omega)]
    refine br1 (fun g2 => absurd g2 g) (fun _ => ?_)
    have f1 : xf [101, 602] [600, 601, 606, 607, 608] [603, 604, 605] x (xs_si x 101 0) := xf_i (by decide) (xf_r x)
    have f2 : mf [0, 2, 3, 4, 48] [44, 45, 46, 47] [43] m (mT m) := mT_f (by decide) (by decide) (by decide) (by decide)
    exact k1 _ _ _ f1 f2 rfl rfl h605 (sMay_f (I := [101]) (A := []) (L := []) (I' := [0, 2, 3, 4]) (A' := []) (L' := []) hMa (xf_i (by decide) (xf_r x)) (mT_f (by decide) (by decide) (by decide) (by decide)) (by decide) (by decide) (by decide) (by decide) (by decide) (by decide))
  · subst g
    refine sx_unsm (B := B) h1 hX hn hv h605 (fun e0 y hy y605 => ?_) (fun e0 y hy y605 y602 yb => ?_)
    · unfold X_TH_tellings_49
      refine tx_c ?_
      refine mx_tell (B := B) hn4 hn hv h2 hM h11 h14 (fun _ z hz z2 => ?_) (fun q => by omega)
      refine k1 _ _ _ (xf_i (by decide) (xf_w hy (by decide) (by decide) (by decide))) (mf_w hz (by decide) (by decide) (by decide)) rfl z2 y605 ?_
      exact sMay_f (I := [101]) (A := [606]) (L := [603, 604, 605]) hMa (xf_i (by decide) (xf_w hy (by decide) (by decide) (by decide))) hz (by decide) (by decide) (by decide) (by decide) (by decide) (by decide)
    · unfold X_TH_tellings_49
      refine tx_c ?_
      refine mx_tell (B := B) hn4 hn hv h2 hM h11 h14 (fun q => by omega) (fun _ z hz z2 z48 zb => ?_)
      refine k1 _ _ _ (xf_i (by decide) (xf_w hy (by decide) (by decide) (by decide))) hz rfl z2 y605 ⟨n, hn, y602, z48, fun k hk => ?_⟩
      obtain ⟨z1, w1, g1, g2, g3, g4⟩ := yb k hk
      obtain ⟨z2', w2, g5, g6, g7, g8, g9⟩ := zb k hk
      have hex := tFe_ex e0 (show k ≤ n by omega)
      show xa y 600 k = _ ∧ xa y 601 k = _
      rw [g1, g2, g5, g6, tLe_u g3 (tLs_e (by omega) g8 hex), tMo_u g4 (tMs_e (by omega) g9 hex)]
      exact ⟨rfl, rfl⟩

/-! longs in one form; falseShare: the sums of noises -/
theorem lI_lit (n : Nat) : (OfNat.ofNat n : Int64) = lN (OfNat.ofNat n) := id rfl
theorem ll_lt {a b : Nat} (ha : a ≤ 9223372036854775807) (hb : b ≤ 9223372036854775807) : (lN a < lN b) = (a < b) := propext (pk_lLT (by omega) (by omega))
theorem ll_le {a b : Nat} (ha : a ≤ 9223372036854775807) (hb : b ≤ 9223372036854775807) : (lN a ≤ lN b) = (a ≤ b) := propext (pk_lLE (by omega) (by omega))
theorem ll_eq {a b : Nat} (ha : a ≤ 9223372036854775807) (hb : b ≤ 9223372036854775807) : (lN a = lN b) = (a = b) := propext (pk_lEQ (by omega) (by omega))
theorem ll_sub {a b : Nat} (h : b ≤ a) : lN a - lN b = lN (a - b) := lN_sub h
theorem ll_div {a b : Nat} (ha : a ≤ 9223372036854775807) (h0 : 0 < b) (hb : b ≤ 9223372036854775807) : lN a / lN b = lN (a / b) := pk_lDiv (by omega) h0 (by omega)
theorem ll_rem {a d : Nat} (h : d * (a / d) ≤ a) : lN a - lN (a / d * d) = lN (a % d) := by
  rw [lN_sub (by rw [Nat.mul_comm]; exact h), Nat.mod_eq_sub_mul_div, Nat.mul_comm]
theorem ll_n {n : Nat} (h : n ≤ 2147483647) : (nI n).toInt64 = lN n := nI_l (by omega)
theorem lgn_ge (x y : Int64) : (nI 0 ≤ lg_cmp x y) = (y ≤ x) := propext (lg_cmp_ge x y)
theorem lgn_le (x y : Int64) : (lg_cmp x y ≤ nI 0) = (x ≤ y) := propext (lg_cmp_le x y)
theorem lgn_gt (x y : Int64) : (nI 0 < lg_cmp x y) = (y < x) := propext (lg_cmp_gt x y)
theorem lgn_lt (x y : Int64) : (lg_cmp x y < nI 0) = (x < y) := propext (lg_cmp_lt x y)
theorem lgn_eq (x y : Int64) : (lg_cmp x y = nI 0) = (x = y) := propext (lg_cmp_eq x y)
/-- sums -/
def fsP (w : Nat → Nat) (s : Nat) : Nat → Nat
  | 0 => 0
  | d + 1 => fsP w s d + (if d ≤ s then w (s - d) else 0)
def fsT (w : Nat → Nat) : Nat → Nat
  | 0 => 0
  | n + 1 => fsT w n + w n
def fsW (c : Nat) : Nat → Nat → Nat
  | 0, s => if s = 0 then 1 else 0
  | n + 1, s => fsP (fsW c n) s c
theorem fsP_sh (w : Nat → Nat) (s c : Nat) : fsP w (s + 1) (c + 1) = w (s + 1) + fsP w s c := by
  induction c with
  | zero => simp [fsP]
  | succ c ih =>
    rw [fsP, ih, fsP, show s + 1 - (c + 1) = s - c by omega]
    by_cases h : c ≤ s
    · rw [if_pos h, if_pos (by omega)]; omega
    · rw [if_neg h, if_neg (by omega)]; omega
theorem fsP_win {c : Nat} (hc : 1 ≤ c) (w : Nat → Nat) (s : Nat) : fsP w (s + 1) c + (if c ≤ s + 1 then w (s + 1 - c) else 0) = fsP w s c + w (s + 1) := by
  obtain ⟨c, rfl⟩ : ∃ c', c = c' + 1 := ⟨c - 1, by omega⟩
  rw [fsP_sh, fsP, show s + 1 - (c + 1) = s - c by omega]
  by_cases h : c ≤ s
  · rw [if_pos h, if_pos (by omega)]; omega
  · rw [if_neg h, if_neg (by omega)]; omega
theorem fsP_0 {c : Nat} (hc : 1 ≤ c) (w : Nat → Nat) : fsP w 0 c = w 0 := by
  induction c with
  | zero => omega
  | succ c ih =>
    rw [fsP]
    by_cases h : c = 0
    · subst h; simp [fsP]
    · rw [ih (by omega), if_neg (by omega)]; omega
theorem fsP_cut (w : Nat → Nat) (s d c : Nat) (h : s < d) (hc : d ≤ c) : fsP w s c = fsP w s d := by
  induction c with
  | zero => have : d = 0 := by omega
            subst this; rfl
  | succ c ih =>
    by_cases e : d = c + 1
    · rw [e]
    · rw [fsP, if_neg (by omega), ih (by omega)]; omega
theorem fsT_add (f g : Nat → Nat) (N : Nat) : fsT (fun s => f s + g s) N = fsT f N + fsT g N := by
  induction N with
  | zero => rfl
  | succ N ih => simp only [fsT, ih]; omega
theorem fsT_c {f g : Nat → Nat} (h : ∀ s, f s = g s) (N : Nat) : fsT f N = fsT g N := by
  induction N with
  | zero => rfl
  | succ N ih => rw [fsT, fsT, ih, h]
theorem fsT_sh (w : Nat → Nat) (c N : Nat) : fsT (fun s => if c ≤ s then w (s - c) else 0) N = fsT w (N - c) := by
  induction N with
  | zero => simp [fsT]
  | succ N ih =>
    rw [fsT, ih]
    by_cases h : c ≤ N
    · rw [if_pos h, show N + 1 - c = (N - c) + 1 by omega, fsT]
    · rw [if_neg h, show N + 1 - c = 0 by omega, show N - c = 0 by omega]
      rfl
theorem fsT_P (w : Nat → Nat) (c N A : Nat) : ((∀ n, n ≤ N → fsT w n ≤ A) → fsT (fun s => fsP w s c) N ≤ c * A) ∧ (∀ M, (∀ n, M < n → fsT w n = A) → M + c ≤ N + 1 → c = 0 ∨ M + c ≤ N → fsT (fun s => fsP w s c) N = c * A) := by
  induction c with
  | zero =>
    have : fsT (fun s => fsP w s 0) N = 0 := by
      induction N with
      | zero => rfl
      | succ N ih => rw [fsT, ih]; rfl
    exact ⟨fun _ => by omega, fun _ _ _ _ => by omega⟩
  | succ c ih =>
    have e : fsT (fun s => fsP w s (c + 1)) N = fsT (fun s => fsP w s c) N + fsT w (N - c) := by
      rw [← fsT_sh w c N, ← fsT_add]
      exact fsT_c (fun s => by rw [fsP]) N
    rw [e, Nat.succ_mul]
    refine ⟨fun h => ?_, fun M h1 h2 h3 => ?_⟩
    · have := ih.1 h
      have := h (N - c) (by omega)
      omega
    · have a1 := ih.2 M h1 (by omega) (by omega)
      have a2 := h1 (N - c) (by omega)
      omega
theorem fsW_T (c : Nat) (hc : 1 ≤ c) (n : Nat) : (∀ N, fsT (fsW c n) N ≤ c ^ n) ∧ ∀ N, (c - 1) * n < N → fsT (fsW c n) N = c ^ n := by
  induction n with
  | zero =>
    have key : ∀ N, fsT (fsW c 0) (N + 1) = 1 := by
      intro N
      induction N with
      | zero => rfl
      | succ N ih => rw [fsT, ih, fsW, if_neg (by omega)]
    refine ⟨fun N => ?_, fun N hN => ?_⟩
    · cases N with
      | zero => simp [fsT]
      | succ N => rw [key]; simp
    · obtain ⟨N, rfl⟩ : ∃ N', N = N' + 1 := ⟨N - 1, by omega⟩
      rw [key]; simp
  | succ n ih =>
    have e : ∀ N, fsT (fsW c (n + 1)) N = fsT (fun s => fsP (fsW c n) s c) N := fun N => fsT_c (fun s => by rw [fsW]) N
    refine ⟨fun N => ?_, fun N hN => ?_⟩
    · rw [e, Nat.pow_succ, Nat.mul_comm]
      exact (fsT_P (fsW c n) c N (c ^ n)).1 (fun q _ => ih.1 q)
    · rw [e, Nat.pow_succ, Nat.mul_comm]
      rw [Nat.mul_succ] at hN
      exact (fsT_P (fsW c n) c N (c ^ n)).2 ((c - 1) * n) ih.2 (by omega) (Or.inr (by omega))
theorem fsT_le (f : Nat → Nat) (N s : Nat) (h : s < N) : f s ≤ fsT f N := by
  induction N with
  | zero => omega
  | succ N ih =>
    rw [fsT]
    by_cases e : s = N
    · subst e; omega
    · have := ih (by omega); omega
theorem fsW_z (c : Nat) (hc : 1 ≤ c) (n s : Nat) (h : (c - 1) * n < s) : fsW c n s = 0 := by
  have a1 := (fsW_T c hc n).2 s h
  have a2 := (fsW_T c hc n).2 (s + 1) (by omega)
  rw [fsT] at a2
  omega
theorem fs_pow {c n : Nat} (hc : c ≤ 19) (hn : n ≤ 12) : c ^ n ≤ 2213314919066161 := by
  have h1 : c ^ n ≤ 19 ^ n := Nat.pow_le_pow_left hc n
  have h2 : 19 ^ n ≤ 19 ^ 12 := Nat.pow_le_pow_right (by omega) hn
  have h3 : 19 ^ 12 = 2213314919066161 := by decide +kernel
  omega
theorem fsW_b {c n : Nat} (h1 : 1 ≤ c) (hc : c ≤ 19) (hn : n ≤ 12) (s : Nat) : fsW c n s ≤ 2213314919066161 := by
  have a1 := fsT_le (fsW c n) (s + 1) s (by omega)
  have a2 := (fsW_T c h1 n).1 (s + 1)
  have a3 := fs_pow hc hn
  omega
/-- those above -/
def fsU (f : Nat → Nat) (g : Nat) (a : Int) : Nat → Nat
  | 0 => 0
  | n + 1 => fsU f g a n + (if a < (n : Int) - g then f n else 0)
theorem fsU_le (f : Nat → Nat) (g : Nat) (a : Int) (N : Nat) : fsU f g a N ≤ fsT f N := by
  induction N with
  | zero => simp [fsU, fsT]
  | succ N ih =>
    rw [fsU, fsT]
    split <;> omega
theorem fsU_z {f : Nat → Nat} {g : Nat} {a : Int} {M : Nat} (h : ∀ s, M ≤ s → f s = 0) (N : Nat) (hN : M ≤ N) : fsU f g a N = fsU f g a M := by
  induction N with
  | zero => have : M = 0 := by omega
            subst this; rfl
  | succ N ih =>
    by_cases e : M = N + 1
    · rw [e]
    · rw [fsU, h N (by omega), ih (by omega)]
      split <;> rfl
/-- Euclid's steps -/
def fbp : Nat → Nat × Nat
  | 0 => (0, 1)
  | n + 1 => ((fbp n).2, (fbp n).1 + (fbp n).2)
theorem fb_100 : 2213314919066161 < (fbp 100).2 := by decide +kernel
theorem fb_step {A x y p : Nat} (h : (fbp p).2 * x + (fbp p).1 * y ≤ A) (h0 : 0 < y) (hxy : y ≤ x) : (fbp (p + 1)).2 * y + (fbp (p + 1)).1 * (x % y) ≤ A := by
  have e : (fbp (p + 1)).2 = (fbp p).1 + (fbp p).2 := rfl
  have e2 : (fbp (p + 1)).1 = (fbp p).2 := rfl
  rw [e, e2]
  have h1 : y + x % y ≤ x := by
    have := Nat.div_add_mod x y
    have h2 : 1 ≤ x / y := (Nat.le_div_iff_mul_le h0).mpr (by omega)
    have h3 : y * 1 ≤ y * (x / y) := Nat.mul_le_mul_left y h2
    omega
  have h4 : (fbp p).2 * (y + x % y) ≤ (fbp p).2 * x := Nat.mul_le_mul_left _ h1
  rw [Nat.mul_add] at h4
  rw [Nat.add_mul]
  omega
theorem sx_gcd {x : xs_St} {a b : Nat} {K : Int64 → xs_St → Prop} (ha : 1 ≤ a) (hA : a ≤ 2213314919066161) (hb : b ≤ a) (h : K (lN (Nat.gcd a b)) x) : X_TH_commonDivisor (lN a) (lN b) x K := by
  unfold X_TH_commonDivisor
  refine lqe4 (F := X_TH_commonDivisor_9_lp K) (G := X_TH_commonDivisor_9 K) (fun _ _ _ _ _ => rfl) (fun d a1 a2 a3 u => u = x ∧ ∃ p q t, a1 = lN p ∧ a2 = lN q ∧ a3 = nI t ∧ t + d = 100 ∧ q ≤ p ∧ 1 ≤ p ∧ p ≤ a ∧ Nat.gcd p q = Nat.gcd a b ∧ (fbp t).2 * p + (fbp t).1 * q ≤ a) ?_ 100 _ _ _ _ ⟨rfl, a, b, 0, rfl, rfl, rfl, rfl, hb, ha, Nat.le_refl _, rfl, by show 1 * a + 0 * b ≤ a; omega⟩
  rintro k d a1 a2 a3 u ⟨rfl, p, q, t, rfl, rfl, rfl, ht, hqp, hp, hpa, hg, hfb⟩ ih
  unfold X_TH_commonDivisor_9
  by_cases ht100 : t = 100
  · exfalso
    subst ht100
    have h1 : (fbp 100).2 * 1 ≤ (fbp 100).2 * p := Nat.mul_le_mul_left _ hp
    have h2 := fb_100
    omega
  repeat' (first | (with_reducible refine And.intro n20 ?_) | (with_reducible refine And.intro n010 ?_) | (with_reducible refine And.intro n011 ?_) | ((with_reducible refine vq_and ?_ ?_); · (simp (disch := omega) only [nI_lit, nI_m1, nI_add, pk_mul, ni_sub, ii_sub, ii_add, ii_addL, ii_addR, ii_subL, ii_subR, ii_neg, ii_nneg, ii_mul, ii_mulL, ii_mulR, ni_div, ni_rem, ni_le, ni_lt, ni_eq, ii_le, ii_lt, ii_eq, ii_leL, ii_leR, ii_ltL, ii_ltR, ii_eqL, ii_eqR, ni_cl, vq_in, xq_si, xq_si2, xq_si3, xq_sa, xq_sa2, xq_sa3, xq_sl, xq_sl2, xq_sl3, xq_di, xq_da, xq_dl, mq_si, mq_si2, mq_si3, mq_si4, mq_sa, mq_sa2, mq_sa3, mq_sa4, mq_sl, mq_sl2, mq_sl3, mq_sl4, va_upE, Nat.reduceEqDiff, reduceIte, Nat.reduceMul, Nat.reduceAdd, Nat.reduceSub, Nat.reduceLT, Nat.reduceLeDiff, true_and, and_true, not_true, not_false_iff, or_true, true_or, eq_self, lI_lit, lN_add, lN_mul, ll_sub, ll_lt, ll_le, ll_eq, ll_div, ll_rem, ll_n, lgn_ge, lgn_le, lgn_gt, lgn_lt, lgn_eq])) | ((with_reducible refine br1 (fun hww => ?_) (fun hww => ?_)) <;> (try simp (disch := omega) only [nI_lit, nI_m1, nI_add, pk_mul, ni_sub, ii_sub, ii_add, ii_addL, ii_addR, ii_subL, ii_subR, ii_neg, ii_nneg, ii_mul, ii_mulL, ii_mulR, ni_div, ni_rem, ni_le, ni_lt, ni_eq, ii_le, ii_lt, ii_eq, ii_leL, ii_leR, ii_ltL, ii_ltR, ii_eqL, ii_eqR, ni_cl, vq_in, xq_si, xq_si2, xq_si3, xq_sa, xq_sa2, xq_sa3, xq_sl, xq_sl2, xq_sl3, xq_di, xq_da, xq_dl, mq_si, mq_si2, mq_si3, mq_si4, mq_sa, mq_sa2, mq_sa3, mq_sa4, mq_sl, mq_sl2, mq_sl3, mq_sl4, va_upE, Nat.reduceEqDiff, reduceIte, Nat.reduceMul, Nat.reduceAdd, Nat.reduceSub, Nat.reduceLT, Nat.reduceLeDiff, true_and, and_true, not_true, not_false_iff, or_true, true_or, eq_self, lI_lit, lN_add, lN_mul, ll_sub, ll_lt, ll_le, ll_eq, ll_div, ll_rem, ll_n, lgn_ge, lgn_le, lgn_gt, lgn_lt, lgn_eq] at hww) <;> (try (exfalso; omega))) | ((with_reducible refine br2 (fun hww => ?_) (fun hww => ?_)) <;> (try simp (disch := omega) only [nI_lit, nI_m1, nI_add, pk_mul, ni_sub, ii_sub, ii_add, ii_addL, ii_addR, ii_subL, ii_subR, ii_neg, ii_nneg, ii_mul, ii_mulL, ii_mulR, ni_div, ni_rem, ni_le, ni_lt, ni_eq, ii_le, ii_lt, ii_eq, ii_leL, ii_leR, ii_ltL, ii_ltR, ii_eqL, ii_eqR, ni_cl, vq_in, xq_si, xq_si2, xq_si3, xq_sa, xq_sa2, xq_sa3, xq_sl, xq_sl2, xq_sl3, xq_di, xq_da, xq_dl, mq_si, mq_si2, mq_si3, mq_si4, mq_sa, mq_sa2, mq_sa3, mq_sa4, mq_sl, mq_sl2, mq_sl3, mq_sl4, va_upE, Nat.reduceEqDiff, reduceIte, Nat.reduceMul, Nat.reduceAdd, Nat.reduceSub, Nat.reduceLT, Nat.reduceLeDiff, true_and, and_true, not_true, not_false_iff, or_true, true_or, eq_self, lI_lit, lN_add, lN_mul, ll_sub, ll_lt, ll_le, ll_eq, ll_div, ll_rem, ll_n, lgn_ge, lgn_le, lgn_gt, lgn_lt, lgn_eq] at hww) <;> (try (exfalso; omega))) | ((with_reducible intro uu ue); subst ue) | (unfold X_TH_commonDivisor_44))
  · have e : q = 0 := by omega
    subst e
    rw [Nat.gcd_zero_right] at hg
    rw [hg]; exact h
  · have hm := Nat.mul_div_le p q
    refine ⟨fun e => ?_, fun y ey x8 e8 => ?_⟩
    · simp (disch := omega) only [nI_lit, nI_m1, nI_add, pk_mul, ni_sub, ii_sub, ii_add, ii_addL, ii_addR, ii_subL, ii_subR, ii_neg, ii_nneg, ii_mul, ii_mulL, ii_mulR, ni_div, ni_rem, ni_le, ni_lt, ni_eq, ii_le, ii_lt, ii_eq, ii_leL, ii_leR, ii_ltL, ii_ltR, ii_eqL, ii_eqR, ni_cl, vq_in, xq_si, xq_si2, xq_si3, xq_sa, xq_sa2, xq_sa3, xq_sl, xq_sl2, xq_sl3, xq_di, xq_da, xq_dl, mq_si, mq_si2, mq_si3, mq_si4, mq_sa, mq_sa2, mq_sa3, mq_sa4, mq_sl, mq_sl2, mq_sl3, mq_sl4, va_upE, Nat.reduceEqDiff, reduceIte, Nat.reduceMul, Nat.reduceAdd, Nat.reduceSub, Nat.reduceLT, Nat.reduceLeDiff, true_and, and_true, not_true, not_false_iff, or_true, true_or, eq_self, lI_lit, lN_add, lN_mul, ll_sub, ll_lt, ll_le, ll_eq, ll_div, ll_rem, ll_n, lgn_ge, lgn_le, lgn_gt, lgn_lt, lgn_eq] at e
      omega
    · have hmod := Nat.mod_lt p (show q > 0 by omega)
      simp (disch := omega) only [nI_lit, nI_m1, nI_add, pk_mul, ni_sub, ii_sub, ii_add, ii_addL, ii_addR, ii_subL, ii_subR, ii_neg, ii_nneg, ii_mul, ii_mulL, ii_mulR, ni_div, ni_rem, ni_le, ni_lt, ni_eq, ii_le, ii_lt, ii_eq, ii_leL, ii_leR, ii_ltL, ii_ltR, ii_eqL, ii_eqR, ni_cl, vq_in, xq_si, xq_si2, xq_si3, xq_sa, xq_sa2, xq_sa3, xq_sl, xq_sl2, xq_sl3, xq_di, xq_da, xq_dl, mq_si, mq_si2, mq_si3, mq_si4, mq_sa, mq_sa2, mq_sa3, mq_sa4, mq_sl, mq_sl2, mq_sl3, mq_sl4, va_upE, Nat.reduceEqDiff, reduceIte, Nat.reduceMul, Nat.reduceAdd, Nat.reduceSub, Nat.reduceLT, Nat.reduceLeDiff, true_and, and_true, not_true, not_false_iff, or_true, true_or, eq_self, lI_lit, lN_add, lN_mul, ll_sub, ll_lt, ll_le, ll_eq, ll_div, ll_rem, ll_n, lgn_ge, lgn_le, lgn_gt, lgn_lt, lgn_eq] at ey e8
      subst ey; subst e8
      refine ih (d - 1) _ _ _ _ (by omega) ⟨rfl, q, p % q, t + 1, rfl, rfl, rfl, by omega, by omega, by omega, by omega, ?_, fb_step hfb (by omega) hqp⟩
      rw [← hg, Nat.gcd_comm p q, Nat.gcd_rec q p, Nat.gcd_comm]
theorem mx_gcd {m : th_St} {a b : Nat} {K : Int64 → th_St → Prop} (hA : a ≤ 2213314919066161) (hB : b ≤ 2213314919066161) (h : K (lN (Nat.gcd a b)) m) : M_common (lN a) (lN b) m K := by
  unfold M_common
  refine lqe3 (F := M_common_6_lp K) (G := M_common_6 K) (fun _ _ _ _ => rfl) (fun d a1 a2 u => u = m ∧ ∃ p q, a1 = lN p ∧ a2 = lN q ∧ q = d ∧ p ≤ 2213314919066161 ∧ q ≤ 2213314919066161 ∧ Nat.gcd p q = Nat.gcd a b) ?_ b _ _ _ ⟨rfl, a, b, rfl, rfl, rfl, hA, hB, rfl⟩
  rintro k d a1 a2 u ⟨rfl, p, q, rfl, rfl, hq, hp, hq2, hg⟩ ih
  unfold M_common_6
  repeat' (first | (with_reducible refine And.intro n20 ?_) | (with_reducible refine And.intro n010 ?_) | (with_reducible refine And.intro n011 ?_) | ((with_reducible refine vq_and ?_ ?_); · (simp (disch := omega) only [nI_lit, nI_m1, nI_add, pk_mul, ni_sub, ii_sub, ii_add, ii_addL, ii_addR, ii_subL, ii_subR, ii_neg, ii_nneg, ii_mul, ii_mulL, ii_mulR, ni_div, ni_rem, ni_le, ni_lt, ni_eq, ii_le, ii_lt, ii_eq, ii_leL, ii_leR, ii_ltL, ii_ltR, ii_eqL, ii_eqR, ni_cl, vq_in, xq_si, xq_si2, xq_si3, xq_sa, xq_sa2, xq_sa3, xq_sl, xq_sl2, xq_sl3, xq_di, xq_da, xq_dl, mq_si, mq_si2, mq_si3, mq_si4, mq_sa, mq_sa2, mq_sa3, mq_sa4, mq_sl, mq_sl2, mq_sl3, mq_sl4, va_upE, Nat.reduceEqDiff, reduceIte, Nat.reduceMul, Nat.reduceAdd, Nat.reduceSub, Nat.reduceLT, Nat.reduceLeDiff, true_and, and_true, not_true, not_false_iff, or_true, true_or, eq_self, lI_lit, lN_add, lN_mul, ll_sub, ll_lt, ll_le, ll_eq, ll_div, ll_rem, ll_n, lgn_ge, lgn_le, lgn_gt, lgn_lt, lgn_eq])) | ((with_reducible refine br1 (fun hww => ?_) (fun hww => ?_)) <;> (try simp (disch := omega) only [nI_lit, nI_m1, nI_add, pk_mul, ni_sub, ii_sub, ii_add, ii_addL, ii_addR, ii_subL, ii_subR, ii_neg, ii_nneg, ii_mul, ii_mulL, ii_mulR, ni_div, ni_rem, ni_le, ni_lt, ni_eq, ii_le, ii_lt, ii_eq, ii_leL, ii_leR, ii_ltL, ii_ltR, ii_eqL, ii_eqR, ni_cl, vq_in, xq_si, xq_si2, xq_si3, xq_sa, xq_sa2, xq_sa3, xq_sl, xq_sl2, xq_sl3, xq_di, xq_da, xq_dl, mq_si, mq_si2, mq_si3, mq_si4, mq_sa, mq_sa2, mq_sa3, mq_sa4, mq_sl, mq_sl2, mq_sl3, mq_sl4, va_upE, Nat.reduceEqDiff, reduceIte, Nat.reduceMul, Nat.reduceAdd, Nat.reduceSub, Nat.reduceLT, Nat.reduceLeDiff, true_and, and_true, not_true, not_false_iff, or_true, true_or, eq_self, lI_lit, lN_add, lN_mul, ll_sub, ll_lt, ll_le, ll_eq, ll_div, ll_rem, ll_n, lgn_ge, lgn_le, lgn_gt, lgn_lt, lgn_eq] at hww) <;> (try (exfalso; omega))) | ((with_reducible refine br2 (fun hww => ?_) (fun hww => ?_)) <;> (try simp (disch := omega) only [nI_lit, nI_m1, nI_add, pk_mul, ni_sub, ii_sub, ii_add, ii_addL, ii_addR, ii_subL, ii_subR, ii_neg, ii_nneg, ii_mul, ii_mulL, ii_mulR, ni_div, ni_rem, ni_le, ni_lt, ni_eq, ii_le, ii_lt, ii_eq, ii_leL, ii_leR, ii_ltL, ii_ltR, ii_eqL, ii_eqR, ni_cl, vq_in, xq_si, xq_si2, xq_si3, xq_sa, xq_sa2, xq_sa3, xq_sl, xq_sl2, xq_sl3, xq_di, xq_da, xq_dl, mq_si, mq_si2, mq_si3, mq_si4, mq_sa, mq_sa2, mq_sa3, mq_sa4, mq_sl, mq_sl2, mq_sl3, mq_sl4, va_upE, Nat.reduceEqDiff, reduceIte, Nat.reduceMul, Nat.reduceAdd, Nat.reduceSub, Nat.reduceLT, Nat.reduceLeDiff, true_and, and_true, not_true, not_false_iff, or_true, true_or, eq_self, lI_lit, lN_add, lN_mul, ll_sub, ll_lt, ll_le, ll_eq, ll_div, ll_rem, ll_n, lgn_ge, lgn_le, lgn_gt, lgn_lt, lgn_eq] at hww) <;> (try (exfalso; omega))) | ((with_reducible intro uu ue); subst ue))
  · have e : q = 0 := by omega
    subst e
    rw [Nat.gcd_zero_right] at hg
    rw [hg]; exact h
  · have hm := Nat.mul_div_le p q
    refine ⟨fun e => ?_, fun y ey => ?_⟩
    · simp (disch := omega) only [nI_lit, nI_m1, nI_add, pk_mul, ni_sub, ii_sub, ii_add, ii_addL, ii_addR, ii_subL, ii_subR, ii_neg, ii_nneg, ii_mul, ii_mulL, ii_mulR, ni_div, ni_rem, ni_le, ni_lt, ni_eq, ii_le, ii_lt, ii_eq, ii_leL, ii_leR, ii_ltL, ii_ltR, ii_eqL, ii_eqR, ni_cl, vq_in, xq_si, xq_si2, xq_si3, xq_sa, xq_sa2, xq_sa3, xq_sl, xq_sl2, xq_sl3, xq_di, xq_da, xq_dl, mq_si, mq_si2, mq_si3, mq_si4, mq_sa, mq_sa2, mq_sa3, mq_sa4, mq_sl, mq_sl2, mq_sl3, mq_sl4, va_upE, Nat.reduceEqDiff, reduceIte, Nat.reduceMul, Nat.reduceAdd, Nat.reduceSub, Nat.reduceLT, Nat.reduceLeDiff, true_and, and_true, not_true, not_false_iff, or_true, true_or, eq_self, lI_lit, lN_add, lN_mul, ll_sub, ll_lt, ll_le, ll_eq, ll_div, ll_rem, ll_n, lgn_ge, lgn_le, lgn_gt, lgn_lt, lgn_eq] at e
      omega
    · have hmod := Nat.mod_lt p (show q > 0 by omega)
      simp (disch := omega) only [nI_lit, nI_m1, nI_add, pk_mul, ni_sub, ii_sub, ii_add, ii_addL, ii_addR, ii_subL, ii_subR, ii_neg, ii_nneg, ii_mul, ii_mulL, ii_mulR, ni_div, ni_rem, ni_le, ni_lt, ni_eq, ii_le, ii_lt, ii_eq, ii_leL, ii_leR, ii_ltL, ii_ltR, ii_eqL, ii_eqR, ni_cl, vq_in, xq_si, xq_si2, xq_si3, xq_sa, xq_sa2, xq_sa3, xq_sl, xq_sl2, xq_sl3, xq_di, xq_da, xq_dl, mq_si, mq_si2, mq_si3, mq_si4, mq_sa, mq_sa2, mq_sa3, mq_sa4, mq_sl, mq_sl2, mq_sl3, mq_sl4, va_upE, Nat.reduceEqDiff, reduceIte, Nat.reduceMul, Nat.reduceAdd, Nat.reduceSub, Nat.reduceLT, Nat.reduceLeDiff, true_and, and_true, not_true, not_false_iff, or_true, true_or, eq_self, lI_lit, lN_add, lN_mul, ll_sub, ll_lt, ll_le, ll_eq, ll_div, ll_rem, ll_n, lgn_ge, lgn_le, lgn_gt, lgn_lt, lgn_eq] at ey
      subst ey
      refine ih (p % q) _ _ _ (by omega) ⟨rfl, q, p % q, rfl, rfl, rfl, by omega, by omega, ?_⟩
      rw [← hg, Nat.gcd_comm p q, Nat.gcd_rec q p, Nat.gcd_comm]

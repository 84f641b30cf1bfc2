/-! tellings: the other side, and both -/
theorem mx_fits {m : th_St} {i a b c v : Nat} {S : Nat → Int} {A B C D : Int32} {K : Int32 → th_St → Prop} (hi : i < 48) (h45 : m.2.2.1 45 i = iI (S i)) (hS : -32768 ≤ S i ∧ S i ≤ 32767) (hv : v ≤ 9) (h14 : m.2.2.1 14 0 = nI v) (ha : a < 31) (hb : b < 31) (hc : c < 31) (eA : A = nI i) (eB : B = iI ((a : Int) - 15)) (eC : C = iI ((b : Int) - 15)) (eD : D = iI ((c : Int) - 15)) (h1 : tFit S v i a b c → K 1 m) (h0 : ¬ tFit S v i a b c → K 0 m) : M_fits A B C D m K := by
  subst eA; subst eB; subst eC; subst eD
  unfold M_fits
  refine And.intro (vp_in_nI (by omega) (by omega)) ?_
  intro y1 e1
  rw [ni_cl (show i ≤ 2147483647 by omega), h45] at e1
  subst e1
  rw [show (2 : Int32) = iI 2 from rfl, ii_mul, ii_add, ii_add, ii_sub]
  refine mx_plainZ (by omega) (by omega) ?_
  refine And.intro (vp_in_nI (n := 0) (by omega) (by omega)) ?_
  intro y4 e4
  have e4 : y4 = nI v := by rw [e4]; exact h14
  subst e4
  unfold M_fits_32
  rw [ni_lt (by omega) (by omega)]
  refine br1 (fun q => And.intro n010 (h0 (fun q2 => ?_))) (fun q => And.intro n011 (h1 ?_))
  · unfold tFit at q2; omega
  · unfold tFit; omega
def tBd (m : th_St) (n : Nat) (P : Nat → Nat → Prop) : Prop := ∀ j, j < n → ∃ z q : Int, m.2.2.1 46 j = iI z ∧ m.2.2.1 47 j = iI q ∧ (-99 ≤ z ∧ z ≤ 99 ∧ -99 ≤ q ∧ q ≤ 99) ∧ tLs 99 (P j) z ∧ tMs (-99) (P j) q
theorem tBd_c {m : th_St} {n : Nat} {P Q : Nat → Nat → Prop} (h : tBd m n P) (hPQ : ∀ j b, j < n → b < 31 → (P j b ↔ Q j b)) : tBd m n Q := fun j hj => by
  obtain ⟨z, q, h1, h2, h3, h4, h5⟩ := h j hj
  exact ⟨z, q, h1, h2, h3, tLs_c h4 (fun b hb => hPQ j b hj hb), tMs_c h5 (fun b hb => hPQ j b hj hb)⟩
theorem mx_may {m : th_St} {n j0 c : Nat} {P : Nat → Nat → Prop} {A : Int32} {K : th_St → Prop} (hj : j0 < n) (hn : n ≤ 48) (hc : c < 31) (hb : tBd m n P) (eA : A = iI ((c : Int) - 15)) (h : ∀ m', mf [] [46, 47] [] m m' → tBd m' n (fun j b => P j b ∨ (j = j0 ∧ b = c)) → K m') : M_may (nI j0) A m K := by
  subst eA
  obtain ⟨z, q, h46, h47, hzq, hls, hms⟩ := hb j0 hj
  have c1 : (iI z ≤ iI ((c : Int) - 15)) = (z ≤ (c : Int) - 15) := ii_le (by omega) (by omega) (by omega) (by omega)
  have c2 : (iI ((c : Int) - 15) ≤ iI q) = ((c : Int) - 15 ≤ q) := ii_le (by omega) (by omega) (by omega) (by omega)
  have l1 := tLs_a hls hc
  have l2 := tMs_a hms hc
  have fin : ∀ (zz qq : Int32) (m1 m2 : th_St), m1 = th_sa m 46 (upd (m.2.2.1 46) j0 zz) → m2 = th_sa m1 47 (upd (m1.2.2.1 47) j0 qq) → zz = iI (if (c : Int) - 15 < z then (c : Int) - 15 else z) → qq = iI (if q < (c : Int) - 15 then (c : Int) - 15 else q) → K m2 := by
    intro zz qq m1 m2 e1 e2 e3 e4
    subst e1; subst e2; subst e3; subst e4
    refine h _ (mf_a (by decide) (mf_a (by decide) (mf_r m))) (fun j hj2 => ?_)
    by_cases e : j = j0
    · subst e
      refine ⟨_, _, ?_, ?_, ?_, tLs_c l1 (fun b _ => ⟨fun g => g.elim Or.inl (fun g2 => Or.inr ⟨rfl, g2⟩), fun g => g.elim Or.inl (fun g2 => Or.inr g2.2)⟩), tMs_c l2 (fun b _ => ⟨fun g => g.elim Or.inl (fun g2 => Or.inr ⟨rfl, g2⟩), fun g => g.elim Or.inl (fun g2 => Or.inr g2.2)⟩)⟩
      · simp (disch := omega) only [nI_lit, nI_m1, nI_add, pk_mul, ni_sub, ii_sub, ii_add, ii_addL, ii_addR, ii_subL, ii_subR, ii_neg, ii_nneg, ii_mul, ii_mulL, ii_mulR, ni_div, ni_rem, ni_le, ni_lt, ni_eq, ii_le, ii_lt, ii_eq, ii_leL, ii_leR, ii_ltL, ii_ltR, ii_eqL, ii_eqR, ni_cl, vq_in, xq_si, xq_si2, xq_si3, xq_sa, xq_sa2, xq_sa3, xq_sl, xq_sl2, xq_sl3, xq_di, xq_da, xq_dl, mq_si, mq_si2, mq_si3, mq_si4, mq_sa, mq_sa2, mq_sa3, mq_sa4, mq_sl, mq_sl2, mq_sl3, mq_sl4, va_upE, Nat.reduceEqDiff, reduceIte, Nat.reduceMul, Nat.reduceAdd, Nat.reduceSub, Nat.reduceLT, Nat.reduceLeDiff, true_and, and_true, not_true, not_false_iff, or_true, true_or, eq_self]
        rw [pk_us]
      · simp (disch := omega) only [nI_lit, nI_m1, nI_add, pk_mul, ni_sub, ii_sub, ii_add, ii_addL, ii_addR, ii_subL, ii_subR, ii_neg, ii_nneg, ii_mul, ii_mulL, ii_mulR, ni_div, ni_rem, ni_le, ni_lt, ni_eq, ii_le, ii_lt, ii_eq, ii_leL, ii_leR, ii_ltL, ii_ltR, ii_eqL, ii_eqR, ni_cl, vq_in, xq_si, xq_si2, xq_si3, xq_sa, xq_sa2, xq_sa3, xq_sl, xq_sl2, xq_sl3, xq_di, xq_da, xq_dl, mq_si, mq_si2, mq_si3, mq_si4, mq_sa, mq_sa2, mq_sa3, mq_sa4, mq_sl, mq_sl2, mq_sl3, mq_sl4, va_upE, Nat.reduceEqDiff, reduceIte, Nat.reduceMul, Nat.reduceAdd, Nat.reduceSub, Nat.reduceLT, Nat.reduceLeDiff, true_and, and_true, not_true, not_false_iff, or_true, true_or, eq_self]
        rw [pk_us]
      · refine ⟨?_, ?_, ?_, ?_⟩ <;> split <;> omega
    · obtain ⟨z2, q2, g1, g2, g3, g4, g5⟩ := hb j hj2
      refine ⟨z2, q2, ?_, ?_, g3, tLs_c g4 (fun b _ => ⟨fun g => Or.inl g, fun g => g.elim id (fun g2 => absurd g2.1 e)⟩), tMs_c g5 (fun b _ => ⟨fun g => Or.inl g, fun g => g.elim id (fun g2 => absurd g2.1 e)⟩)⟩
      · simp (disch := omega) only [nI_lit, nI_m1, nI_add, pk_mul, ni_sub, ii_sub, ii_add, ii_addL, ii_addR, ii_subL, ii_subR, ii_neg, ii_nneg, ii_mul, ii_mulL, ii_mulR, ni_div, ni_rem, ni_le, ni_lt, ni_eq, ii_le, ii_lt, ii_eq, ii_leL, ii_leR, ii_ltL, ii_ltR, ii_eqL, ii_eqR, ni_cl, vq_in, xq_si, xq_si2, xq_si3, xq_sa, xq_sa2, xq_sa3, xq_sl, xq_sl2, xq_sl3, xq_di, xq_da, xq_dl, mq_si, mq_si2, mq_si3, mq_si4, mq_sa, mq_sa2, mq_sa3, mq_sa4, mq_sl, mq_sl2, mq_sl3, mq_sl4, va_upE, Nat.reduceEqDiff, reduceIte, Nat.reduceMul, Nat.reduceAdd, Nat.reduceSub, Nat.reduceLT, Nat.reduceLeDiff, true_and, and_true, not_true, not_false_iff, or_true, true_or, eq_self]
        rw [pk_un e]; exact g1
      · simp (disch := omega) only [nI_lit, nI_m1, nI_add, pk_mul, ni_sub, ii_sub, ii_add, ii_addL, ii_addR, ii_subL, ii_subR, ii_neg, ii_nneg, ii_mul, ii_mulL, ii_mulR, ni_div, ni_rem, ni_le, ni_lt, ni_eq, ii_le, ii_lt, ii_eq, ii_leL, ii_leR, ii_ltL, ii_ltR, ii_eqL, ii_eqR, ni_cl, vq_in, xq_si, xq_si2, xq_si3, xq_sa, xq_sa2, xq_sa3, xq_sl, xq_sl2, xq_sl3, xq_di, xq_da, xq_dl, mq_si, mq_si2, mq_si3, mq_si4, mq_sa, mq_sa2, mq_sa3, mq_sa4, mq_sl, mq_sl2, mq_sl3, mq_sl4, va_upE, Nat.reduceEqDiff, reduceIte, Nat.reduceMul, Nat.reduceAdd, Nat.reduceSub, Nat.reduceLT, Nat.reduceLeDiff, true_and, and_true, not_true, not_false_iff, or_true, true_or, eq_self]
        rw [pk_un e]; exact g2
  have ecl : (nI j0).toNatClampNeg = j0 := ni_cl (by omega)
  have vin : vp_in (nI j0) 48 := vp_in_nI (by omega) (by omega)
  have fin2 : ∀ (zz : Int32), zz = iI (if (c : Int) - 15 < z then (c : Int) - 15 else z) → M_may_25 K (nI j0) (iI ((c : Int) - 15)) zz (nI j0) m := by
    intro zz ez
    unfold M_may_25
    refine And.intro vin ?_
    intro u1 e1
    rw [ecl] at e1
    refine And.intro vin ?_
    intro y2 e2
    have e2 : y2 = iI q := by
      rw [e2, ecl, e1]
      simp (disch := omega) only [nI_lit, nI_m1, nI_add, pk_mul, ni_sub, ii_sub, ii_add, ii_addL, ii_addR, ii_subL, ii_subR, ii_neg, ii_nneg, ii_mul, ii_mulL, ii_mulR, ni_div, ni_rem, ni_le, ni_lt, ni_eq, ii_le, ii_lt, ii_eq, ii_leL, ii_leR, ii_ltL, ii_ltR, ii_eqL, ii_eqR, ni_cl, vq_in, xq_si, xq_si2, xq_si3, xq_sa, xq_sa2, xq_sa3, xq_sl, xq_sl2, xq_sl3, xq_di, xq_da, xq_dl, mq_si, mq_si2, mq_si3, mq_si4, mq_sa, mq_sa2, mq_sa3, mq_sa4, mq_sl, mq_sl2, mq_sl3, mq_sl4, va_upE, Nat.reduceEqDiff, reduceIte, Nat.reduceMul, Nat.reduceAdd, Nat.reduceSub, Nat.reduceLT, Nat.reduceLeDiff, true_and, and_true, not_true, not_false_iff, or_true, true_or, eq_self]
      exact h47
    subst e2
    rw [c2]
    refine br1 (fun g => And.intro vin ?_) (fun g => ?_)
    · intro y3 e3
      have e3 : y3 = iI q := by
        rw [e3, ecl, e1]
        simp (disch := omega) only [nI_lit, nI_m1, nI_add, pk_mul, ni_sub, ii_sub, ii_add, ii_addL, ii_addR, ii_subL, ii_subR, ii_neg, ii_nneg, ii_mul, ii_mulL, ii_mulR, ni_div, ni_rem, ni_le, ni_lt, ni_eq, ii_le, ii_lt, ii_eq, ii_leL, ii_leR, ii_ltL, ii_ltR, ii_eqL, ii_eqR, ni_cl, vq_in, xq_si, xq_si2, xq_si3, xq_sa, xq_sa2, xq_sa3, xq_sl, xq_sl2, xq_sl3, xq_di, xq_da, xq_dl, mq_si, mq_si2, mq_si3, mq_si4, mq_sa, mq_sa2, mq_sa3, mq_sa4, mq_sl, mq_sl2, mq_sl3, mq_sl4, va_upE, Nat.reduceEqDiff, reduceIte, Nat.reduceMul, Nat.reduceAdd, Nat.reduceSub, Nat.reduceLT, Nat.reduceLeDiff, true_and, and_true, not_true, not_false_iff, or_true, true_or, eq_self]
        exact h47
      subst e3
      unfold M_may_51
      refine And.intro vin ?_
      intro u2 e2
      rw [ecl] at e2
      exact fin _ _ _ _ e1 e2 ez (by rw [if_neg (by omega)])
    · unfold M_may_51
      refine And.intro vin ?_
      intro u2 e2
      rw [ecl] at e2
      exact fin _ _ _ _ e1 e2 ez (by rw [if_pos (by omega)])
  unfold M_may
  refine And.intro vin ?_
  intro y1 e1
  rw [ecl, h46] at e1
  subst e1
  rw [c1]
  refine br1 (fun g => And.intro vin ?_) (fun g => ?_)
  · intro y2 e2
    rw [ecl, h46] at e2
    subst e2
    exact fin2 _ (by rw [if_neg (by omega)])
  · exact fin2 _ (by rw [if_pos (by omega)])
theorem mx_both {m : th_St} {n i k : Nat} {P : Nat → Nat → Prop} {K : th_St → Prop} (hi : i + 1 < n) (hn : n ≤ 48) (hk : k < 961) (hb : tBd m n P) (h : ∀ m', mf [] [46, 47] [] m m' → tBd m' n (fun j b => (P j b ∨ (j = i ∧ b = k / 31)) ∨ (j = i + 1 ∧ b = k % 31)) → K m') : M_both (nI i) (nI k) m K := by
  have e1 : nI k / (31 : Int32) = nI (k / 31) := ni_div (d := 31) (by omega) (by omega) (by omega)
  have e2 : nI k - nI (k / 31) * (31 : Int32) = nI (k % 31) := by
    rw [show nI (k / 31) * (31 : Int32) = nI (k / 31 * 31) from pk_mul _ 31]; exact ni_rem (by omega)
  unfold M_both
  rw [e1, e2, show nI i + (1 : Int32) = nI (i + 1) from nI_1 i]
  refine And.intro (by decide) ?_
  refine mx_may (c := k / 31) (by omega) hn (by omega) hb (ii_nsub _ 15) (fun m1 hm1 hb1 => ?_)
  refine And.intro (by decide) ?_
  refine mx_may (c := k % 31) (by omega) hn (by omega) hb1 (ii_nsub _ 15) (fun m2 hm2 hb2 => ?_)
  exact h m2 (mf_t hm1 hm2) hb2
/-- ways of the feet behind the pair i, i + 1 -/
noncomputable def tW (S : Nat → Int) (v n i a c : Nat) : Nat := tG S v (n - (i + 1)) (i + 1) a c
theorem tW_l {S : Nat → Int} {v n a c : Nat} (hn : 2 ≤ n) : tW S v n (n - 2) a c = tI (tFit S v (n - 1) a c 15) 1 := by
  unfold tW
  rw [show n - 2 + 1 = n - 1 by omega, show n - (n - 1) = 0 + 1 by omega, tG]
  have : fsT (fun d => tI (tFit S v (n - 1) a c d) (tG S v 0 (n - 1 + 1) c d)) 31 = fsT (fun d => if d = 15 then tI (tFit S v (n - 1) a c d) 1 else 0) 31 := by
    refine fsT_k 31 (fun d _ => ?_)
    rw [tG]
    by_cases e : d = 15
    · rw [if_pos e, if_pos e]
    · rw [if_neg e, if_neg e]
      by_cases g : tFit S v (n - 1) a c d
      · rw [tI_t g]
      · rw [tI_f g]
  rw [this, fsT_1]; rfl
theorem tW_s {S : Nat → Int} {v n i a c : Nat} (hi : i + 2 < n) : tW S v n i a c = fsT (fun d => tI (tFit S v (i + 1) a c d) (tW S v n (i + 1) c d)) 31 := by
  unfold tW
  rw [show n - (i + 1) = (n - (i + 1 + 1)) + 1 by omega, tG]
theorem tJ_W {S : Nat → Int} {v n : Nat} (hn : 1 ≤ n) : tJ S v n 0 = fsT (fun a => fsT (fun c => tI (tFit S v 0 15 a c) (tW S v n 0 a c)) 31) 31 := by
  rw [tJ_0]
  refine fsT_k 31 (fun a _ => ?_)
  unfold tW
  rw [show n = (n - 1) + 1 by omega, tG]
  rfl
noncomputable def tA (S : Nat → Int) (v n : Nat) (a c : Nat) : Nat := tI (tFit S v 0 15 a c) (tSat (tW S v n 0 a c))
theorem tA_sat {S : Nat → Int} {v n : Nat} (hn : 1 ≤ n) : tSat (fsT (fun a => fsT (fun c => tA S v n a c) 31) 31) = tSat (tJ S v n 0) := by
  rw [tJ_W hn, ← tSat_s]
  have : ∀ a, tSat (fsT (fun c => tA S v n a c) 31) = tSat (fsT (fun c => tI (tFit S v 0 15 a c) (tW S v n 0 a c)) 31) := fun a => by
    rw [← tSat_s (fun c => tI (tFit S v 0 15 a c) (tW S v n 0 a c))]
    congr 1
    exact fsT_k 31 (fun c _ => tI_sat _ _)
  rw [fsT_k 31 (fun a _ => this a), tSat_s]
theorem tF_1 {S : Nat → Int} {v a c : Nat} : 0 < tF S v 1 a c ↔ tFit S v 0 15 a c := by
  rw [tF, fsT_p]
  constructor
  · rintro ⟨z, hz, h⟩
    obtain ⟨h1, h2⟩ := (tI_p _ _).mp h
    rw [tF] at h2
    by_cases e : z = 15
    · subst e; exact h1
    · rw [if_neg e] at h2; exact absurd h2 (Nat.lt_irrefl 0)
  · intro h
    refine ⟨15, by omega, (tI_p _ _).mpr ⟨h, ?_⟩⟩
    rw [tF, if_pos rfl]; omega
theorem tF_s {S : Nat → Int} {v i b c : Nat} : 0 < tF S v (i + 1) b c ↔ ∃ a, a < 31 ∧ 0 < tF S v i a b ∧ tFit S v i a b c := by
  rw [tF, fsT_p]
  constructor
  · rintro ⟨z, hz, h⟩
    obtain ⟨h1, h2⟩ := (tI_p _ _).mp h
    exact ⟨z, hz, h2, h1⟩
  · rintro ⟨z, hz, h1, h2⟩
    exact ⟨z, hz, (tI_p _ _).mpr ⟨h2, h1⟩⟩
def tGood (S : Nat → Int) (v n i k : Nat) : Prop := 0 < tF S v (i + 1) (k / 31) (k % 31) ∧ 0 < tW S v n i (k / 31) (k % 31)
theorem tGood_l {S : Nat → Int} {v n i b : Nat} (hi : i < n) (hb : b < 31) : (∃ k, k < 961 ∧ b = k / 31 ∧ tGood S v n i k) ↔ tFe S v n i b := by
  rw [tFe_l hi]
  constructor
  · rintro ⟨k, hk, rfl, h1, h2⟩
    exact ⟨k % 31, by omega, h1, h2⟩
  · rintro ⟨c, hc, h1, h2⟩
    refine ⟨31 * b + c, by omega, by omega, ?_⟩
    unfold tGood
    rw [show (31 * b + c) / 31 = b by omega, show (31 * b + c) % 31 = c by omega]
    exact ⟨h1, h2⟩
theorem tGood_r {S : Nat → Int} {v n i b : Nat} (hb : b < 31) : (∃ k, k < 961 ∧ b = k % 31 ∧ tGood S v n i k) ↔ tFe S v n (i + 1) b := by
  unfold tFe
  constructor
  · rintro ⟨k, hk, rfl, h1, h2⟩
    exact ⟨k / 31, by omega, h1, h2⟩
  · rintro ⟨a, ha, h1, h2⟩
    refine ⟨31 * a + b, by omega, by omega, ?_⟩
    unfold tGood
    rw [show (31 * a + b) / 31 = a by omega, show (31 * a + b) % 31 = b by omega]
    exact ⟨h1, h2⟩
/-- what the feet were found to feel, when the pairs ahead of i, and of pair i the first k, were looked at -/
def tPj (S : Nat → Int) (v n i k j b : Nat) : Prop := ((1 ≤ i ∧ j ≤ i) ∧ tFe S v n j b) ∨ (j = i ∧ ∃ k', k' < k ∧ b = k' / 31 ∧ tGood S v n i k') ∨ (j = i + 1 ∧ ∃ k', k' < k ∧ b = k' % 31 ∧ tGood S v n i k')
theorem tPj_n {S : Nat → Int} {v n i j b : Nat} (hi : i < n) (hb : b < 31) : tPj S v n i 961 j b ↔ tPj S v n (i + 1) 0 j b := by
  unfold tPj
  constructor
  · rintro (⟨h1, h2⟩ | ⟨rfl, h⟩ | ⟨rfl, h⟩)
    · exact Or.inl ⟨by omega, h2⟩
    · exact Or.inl ⟨by omega, (tGood_l hi hb).mp h⟩
    · exact Or.inl ⟨by omega, (tGood_r hb).mp h⟩
  · rintro (⟨h1, h2⟩ | ⟨_, k', hk, _⟩ | ⟨_, k', hk, _⟩)
    · by_cases e : j = i + 1
      · subst e; exact Or.inr (Or.inr ⟨rfl, (tGood_r hb).mpr h2⟩)
      · by_cases e2 : j = i
        · subst e2; exact Or.inr (Or.inl ⟨rfl, (tGood_l hi hb).mpr h2⟩)
        · exact Or.inl ⟨by omega, h2⟩
    · omega
    · omega
theorem tPj_y {S : Nat → Int} {v n i k j b : Nat} (h : tGood S v n i k) : ((tPj S v n i k j b ∨ (j = i ∧ b = k / 31)) ∨ (j = i + 1 ∧ b = k % 31)) ↔ tPj S v n i (k + 1) j b := by
  unfold tPj
  constructor
  · rintro (((h1 | ⟨h1, k', hk, h2⟩ | ⟨h1, k', hk, h2⟩) | ⟨h1, h2⟩) | ⟨h1, h2⟩)
    · exact Or.inl h1
    · exact Or.inr (Or.inl ⟨h1, k', by omega, h2⟩)
    · exact Or.inr (Or.inr ⟨h1, k', by omega, h2⟩)
    · exact Or.inr (Or.inl ⟨h1, k, by omega, h2, h⟩)
    · exact Or.inr (Or.inr ⟨h1, k, by omega, h2, h⟩)
  · rintro (h1 | ⟨h1, k', hk, h2⟩ | ⟨h1, k', hk, h2⟩)
    · exact Or.inl (Or.inl (Or.inl h1))
    · by_cases e : k' = k
      · subst e; exact Or.inl (Or.inr ⟨h1, h2.1⟩)
      · exact Or.inl (Or.inl (Or.inr (Or.inl ⟨h1, k', by omega, h2⟩)))
    · by_cases e : k' = k
      · subst e; exact Or.inr ⟨h1, h2.1⟩
      · exact Or.inl (Or.inl (Or.inr (Or.inr ⟨h1, k', by omega, h2⟩)))
theorem tPj_no {S : Nat → Int} {v n i k j b : Nat} (h : ¬ tGood S v n i k) : tPj S v n i k j b ↔ tPj S v n i (k + 1) j b := by
  unfold tPj
  constructor
  · rintro (h1 | ⟨h1, k', hk, h2⟩ | ⟨h1, k', hk, h2⟩)
    · exact Or.inl h1
    · exact Or.inr (Or.inl ⟨h1, k', by omega, h2⟩)
    · exact Or.inr (Or.inr ⟨h1, k', by omega, h2⟩)
  · rintro (h1 | ⟨h1, k', hk, h2⟩ | ⟨h1, k', hk, h2⟩)
    · exact Or.inl h1
    · by_cases e : k' = k
      · subst e; exact absurd h2.2 h
      · exact Or.inr (Or.inl ⟨h1, k', by omega, h2⟩)
    · by_cases e : k' = k
      · subst e; exact absurd h2.2 h
      · exact Or.inr (Or.inr ⟨h1, k', by omega, h2⟩)
/-- what spans finds of the state -/
def tMs9 (m : th_St) (S : Nat → Int) (v n : Nat) : Prop := (∀ i, i < n → m.2.2.1 45 i = iI (S i)) ∧ m.2.2.1 14 0 = nI v ∧ ∀ i a c, i + 2 ≤ n → a < 31 → c < 31 → m.2.2.2 43 (961 * i + 31 * a + c) = lN (tSat (tW S v n i a c))
theorem tMs9_f {m m' : th_St} {S : Nat → Int} {v n : Nat} {I A : List Nat} (h : tMs9 m S v n) (hf : mf I A [] m m') (h45 : 45 ∉ A) (h14 : 14 ∉ A) : tMs9 m' S v n := by
  refine ⟨fun i hi => ?_, ?_, fun i a c h1 h2 h3 => ?_⟩
  · rw [hf.2.1 45 h45]; exact h.1 i hi
  · rw [hf.2.1 14 h14]; exact h.2.1
  · rw [hf.2.2 43 (by decide)]; exact h.2.2 i a c h1 h2 h3
/-- comes: the flags of the pair i -/
def tCo (m : th_St) (S : Nat → Int) (v i k : Nat) : Prop := (m.2.2.1 44 (961 * i + k) = 0 ∨ m.2.2.1 44 (961 * i + k) = 1) ∧ (m.2.2.1 44 (961 * i + k) = 0 ↔ ¬ 0 < tF S v (i + 1) (k / 31) (k % 31))
theorem tCo_f {m m' : th_St} {S : Nat → Int} {v i k : Nat} {I A L : List Nat} (h : tCo m S v i k) (hf : mf I A L m m') (h44 : 44 ∉ A) : tCo m' S v i k := by
  unfold tCo; rw [hf.2.1 44 h44]; exact h
theorem tCo_u {m : th_St} {S : Nat → Int} {v i k i2 k2 : Nat} {z : Int32} (h : tCo m S v i k) (hne : 961 * i + k ≠ 961 * i2 + k2) : tCo (th_sa m 44 (upd (m.2.2.1 44) (961 * i2 + k2) z)) S v i k := by
  have e : (th_sa m 44 (upd (m.2.2.1 44) (961 * i2 + k2) z)).2.2.1 44 (961 * i + k) = m.2.2.1 44 (961 * i + k) := by
    simp (disch := omega) only [nI_lit, nI_m1, nI_add, pk_mul, ni_sub, ii_sub, ii_add, ii_addL, ii_addR, ii_subL, ii_subR, ii_neg, ii_nneg, ii_mul, ii_mulL, ii_mulR, ni_div, ni_rem, ni_le, ni_lt, ni_eq, ii_le, ii_lt, ii_eq, ii_leL, ii_leR, ii_ltL, ii_ltR, ii_eqL, ii_eqR, ni_cl, vq_in, xq_si, xq_si2, xq_si3, xq_sa, xq_sa2, xq_sa3, xq_sl, xq_sl2, xq_sl3, xq_di, xq_da, xq_dl, mq_si, mq_si2, mq_si3, mq_si4, mq_sa, mq_sa2, mq_sa3, mq_sa4, mq_sl, mq_sl2, mq_sl3, mq_sl4, va_upE, Nat.reduceEqDiff, reduceIte, Nat.reduceMul, Nat.reduceAdd, Nat.reduceSub, Nat.reduceLT, Nat.reduceLeDiff, true_and, and_true, not_true, not_false_iff, or_true, true_or, eq_self]
    rw [pk_un hne]
  unfold tCo; rw [e]; exact h
theorem tCo_n {m : th_St} {S : Nat → Int} {v i k : Nat} {z : Int32} (h1 : z = 0 ∨ z = 1) (h2 : z = 0 ↔ ¬ 0 < tF S v (i + 1) (k / 31) (k % 31)) : tCo (th_sa m 44 (upd (m.2.2.1 44) (961 * i + k) z)) S v i k := by
  have e : (th_sa m 44 (upd (m.2.2.1 44) (961 * i + k) z)).2.2.1 44 (961 * i + k) = z := by
    simp (disch := omega) only [nI_lit, nI_m1, nI_add, pk_mul, ni_sub, ii_sub, ii_add, ii_addL, ii_addR, ii_subL, ii_subR, ii_neg, ii_nneg, ii_mul, ii_mulL, ii_mulR, ni_div, ni_rem, ni_le, ni_lt, ni_eq, ii_le, ii_lt, ii_eq, ii_leL, ii_leR, ii_ltL, ii_ltR, ii_eqL, ii_eqR, ni_cl, vq_in, xq_si, xq_si2, xq_si3, xq_sa, xq_sa2, xq_sa3, xq_sl, xq_sl2, xq_sl3, xq_di, xq_da, xq_dl, mq_si, mq_si2, mq_si3, mq_si4, mq_sa, mq_sa2, mq_sa3, mq_sa4, mq_sl, mq_sl2, mq_sl3, mq_sl4, va_upE, Nat.reduceEqDiff, reduceIte, Nat.reduceMul, Nat.reduceAdd, Nat.reduceSub, Nat.reduceLT, Nat.reduceLeDiff, true_and, and_true, not_true, not_false_iff, or_true, true_or, eq_self]
    rw [pk_us]
  unfold tCo; rw [e]; exact ⟨h1, h2⟩
theorem vpn_b {z : Int32} (h : z = 0 ∨ z = 1) : vp_nar .boolean z = z := by
  rcases h with rfl | rfl <;> rfl
theorem mx_spans {m : th_St} {n v : Nat} {S : Nat → Int} {K : th_St → Prop} (hn4 : 4 ≤ n) (hn : n ≤ 48) (hv : v ≤ 9) (hS : ∀ i, -32768 ≤ S i ∧ S i ≤ 32767) (hM : tMs9 m S v n) (hC : ∀ k, k < 961 → tCo m S v 0 k)
    (h : ∀ y, mf [48] [44, 46, 47] [] m y → y.1 48 = nI n → tBd y n (fun j b => tFe S v n j b) → K y) : M_spans (nI n) m K := by
  unfold M_spans
  intro u1 e1; subst e1
  refine lqe3 (F := M_spans_7_lp K) (G := M_spans_7 K) (fun _ _ _ _ => rfl) (fun d a1 a2 u => mf [48] [46, 47] [] m u ∧ u.1 48 = nI n ∧ a1 = nI n ∧ ∃ i, a2 = nI i ∧ i + d = n ∧ ∀ j, j < i → u.2.2.1 46 j = iI 99 ∧ u.2.2.1 47 j = iI (-99)) ?_ n _ _ _ ⟨mf_i (by decide) (mf_r m), rfl, rfl, 0, rfl, by omega, fun j hj => by omega⟩
  rintro k d a1 a2 u ⟨hfr, u48, rfl, i, rfl, hd, uj⟩ ih
  unfold M_spans_7
  repeat' (first | (with_reducible refine And.intro n20 ?_) | (with_reducible refine And.intro n010 ?_) | (with_reducible refine And.intro n011 ?_) | ((with_reducible refine vq_and ?_ ?_); · (simp (disch := omega) only [nI_lit, nI_m1, nI_add, pk_mul, ni_sub, ii_sub, ii_add, ii_addL, ii_addR, ii_subL, ii_subR, ii_neg, ii_nneg, ii_mul, ii_mulL, ii_mulR, ni_div, ni_rem, ni_le, ni_lt, ni_eq, ii_le, ii_lt, ii_eq, ii_leL, ii_leR, ii_ltL, ii_ltR, ii_eqL, ii_eqR, ni_cl, vq_in, xq_si, xq_si2, xq_si3, xq_sa, xq_sa2, xq_sa3, xq_sl, xq_sl2, xq_sl3, xq_di, xq_da, xq_dl, mq_si, mq_si2, mq_si3, mq_si4, mq_sa, mq_sa2, mq_sa3, mq_sa4, mq_sl, mq_sl2, mq_sl3, mq_sl4, va_upE, Nat.reduceEqDiff, reduceIte, Nat.reduceMul, Nat.reduceAdd, Nat.reduceSub, Nat.reduceLT, Nat.reduceLeDiff, true_and, and_true, not_true, not_false_iff, or_true, true_or, eq_self])) | ((with_reducible refine br1 (fun hww => ?_) (fun hww => ?_)) <;> (try simp (disch := omega) only [nI_lit, nI_m1, nI_add, pk_mul, ni_sub, ii_sub, ii_add, ii_addL, ii_addR, ii_subL, ii_subR, ii_neg, ii_nneg, ii_mul, ii_mulL, ii_mulR, ni_div, ni_rem, ni_le, ni_lt, ni_eq, ii_le, ii_lt, ii_eq, ii_leL, ii_leR, ii_ltL, ii_ltR, ii_eqL, ii_eqR, ni_cl, vq_in, xq_si, xq_si2, xq_si3, xq_sa, xq_sa2, xq_sa3, xq_sl, xq_sl2, xq_sl3, xq_di, xq_da, xq_dl, mq_si, mq_si2, mq_si3, mq_si4, mq_sa, mq_sa2, mq_sa3, mq_sa4, mq_sl, mq_sl2, mq_sl3, mq_sl4, va_upE, Nat.reduceEqDiff, reduceIte, Nat.reduceMul, Nat.reduceAdd, Nat.reduceSub, Nat.reduceLT, Nat.reduceLeDiff, true_and, and_true, not_true, not_false_iff, or_true, true_or, eq_self] at hww) <;> (try (exfalso; omega))) | ((with_reducible refine br2 (fun hww => ?_) (fun hww => ?_)) <;> (try simp (disch := omega) only [nI_lit, nI_m1, nI_add, pk_mul, ni_sub, ii_sub, ii_add, ii_addL, ii_addR, ii_subL, ii_subR, ii_neg, ii_nneg, ii_mul, ii_mulL, ii_mulR, ni_div, ni_rem, ni_le, ni_lt, ni_eq, ii_le, ii_lt, ii_eq, ii_leL, ii_leR, ii_ltL, ii_ltR, ii_eqL, ii_eqR, ni_cl, vq_in, xq_si, xq_si2, xq_si3, xq_sa, xq_sa2, xq_sa3, xq_sl, xq_sl2, xq_sl3, xq_di, xq_da, xq_dl, mq_si, mq_si2, mq_si3, mq_si4, mq_sa, mq_sa2, mq_sa3, mq_sa4, mq_sl, mq_sl2, mq_sl3, mq_sl4, va_upE, Nat.reduceEqDiff, reduceIte, Nat.reduceMul, Nat.reduceAdd, Nat.reduceSub, Nat.reduceLT, Nat.reduceLeDiff, true_and, and_true, not_true, not_false_iff, or_true, true_or, eq_self] at hww) <;> (try (exfalso; omega))) | ((with_reducible intro uu ue); subst ue))
  rotate_left
  · simp (disch := omega) only [nI_lit, nI_m1, nI_add, pk_mul, ni_sub, ii_sub, ii_add, ii_addL, ii_addR, ii_subL, ii_subR, ii_neg, ii_nneg, ii_mul, ii_mulL, ii_mulR, ni_div, ni_rem, ni_le, ni_lt, ni_eq, ii_le, ii_lt, ii_eq, ii_leL, ii_leR, ii_ltL, ii_ltR, ii_eqL, ii_eqR, ni_cl, vq_in, xq_si, xq_si2, xq_si3, xq_sa, xq_sa2, xq_sa3, xq_sl, xq_sl2, xq_sl3, xq_di, xq_da, xq_dl, mq_si, mq_si2, mq_si3, mq_si4, mq_sa, mq_sa2, mq_sa3, mq_sa4, mq_sl, mq_sl2, mq_sl3, mq_sl4, va_upE, Nat.reduceEqDiff, reduceIte, Nat.reduceMul, Nat.reduceAdd, Nat.reduceSub, Nat.reduceLT, Nat.reduceLeDiff, true_and, and_true, not_true, not_false_iff, or_true, true_or, eq_self]
    refine ih (d - 1) _ _ _ (by omega) ⟨mf_a (by decide) (mf_a (by decide) hfr), u48, rfl, i + 1, rfl, by omega, fun j hj => ?_⟩
    simp (disch := omega) only [nI_lit, nI_m1, nI_add, pk_mul, ni_sub, ii_sub, ii_add, ii_addL, ii_addR, ii_subL, ii_subR, ii_neg, ii_nneg, ii_mul, ii_mulL, ii_mulR, ni_div, ni_rem, ni_le, ni_lt, ni_eq, ii_le, ii_lt, ii_eq, ii_leL, ii_leR, ii_ltL, ii_ltR, ii_eqL, ii_eqR, ni_cl, vq_in, xq_si, xq_si2, xq_si3, xq_sa, xq_sa2, xq_sa3, xq_sl, xq_sl2, xq_sl3, xq_di, xq_da, xq_dl, mq_si, mq_si2, mq_si3, mq_si4, mq_sa, mq_sa2, mq_sa3, mq_sa4, mq_sl, mq_sl2, mq_sl3, mq_sl4, va_upE, Nat.reduceEqDiff, reduceIte, Nat.reduceMul, Nat.reduceAdd, Nat.reduceSub, Nat.reduceLT, Nat.reduceLeDiff, true_and, and_true, not_true, not_false_iff, or_true, true_or, eq_self]
    by_cases e : j = i
    · subst e; rw [pk_us, pk_us]; exact ⟨rfl, rfl⟩
    · rw [pk_un e, pk_un e]; exact uj j (by omega)
  have hin : i = n := by omega
  subst hin
  have hM0 : tMs9 u S v i := tMs9_f hM hfr (by decide) (by decide)
  refine lqe3 (F := M_spans_36_lp K) (G := M_spans_36 K) (fun _ _ _ _ => rfl) (fun d2 a1 a2 w => mf [48] [44, 46, 47] [] m w ∧ w.1 48 = nI i ∧ a1 = nI i ∧ ∃ p, a2 = nI p ∧ p + d2 + 1 = i ∧ tBd w i (tPj S v i p 0) ∧ (p + 1 < i → ∀ k, k < 961 → tCo w S v p k)) ?_ (i - 1) _ _ _ ⟨mf_w hfr (by decide) (by decide) (by decide), u48, rfl, 0, rfl, by omega, fun j hj => ?_, fun _ k hk => tCo_f (hC k hk) hfr (by decide)⟩
  case refine_2 =>
    obtain ⟨g1, g2⟩ := uj j hj
    refine ⟨99, -99, g1, g2, by omega, tLs_c (tLs_0 99) (fun b _ => ⟨fun q => q.elim, fun q => ?_⟩), tMs_c (tMs_0 (-99)) (fun b _ => ⟨fun q => q.elim, fun q => ?_⟩)⟩
    · unfold tPj at q
      rcases q with q | ⟨_, k', q, _⟩ | ⟨_, k', q, _⟩ <;> omega
    · unfold tPj at q
      rcases q with q | ⟨_, k', q, _⟩ | ⟨_, k', q, _⟩ <;> omega
  rintro k2 d2 a1 a2 w ⟨hfw, w48, rfl, p, rfl, hp, wB, wC⟩ ih2
  have hMw : tMs9 w S v i := tMs9_f hM hfw (by decide) (by decide)
  unfold M_spans_36
  repeat' (first | (with_reducible refine And.intro n20 ?_) | (with_reducible refine And.intro n010 ?_) | (with_reducible refine And.intro n011 ?_) | ((with_reducible refine vq_and ?_ ?_); · (simp (disch := omega) only [nI_lit, nI_m1, nI_add, pk_mul, ni_sub, ii_sub, ii_add, ii_addL, ii_addR, ii_subL, ii_subR, ii_neg, ii_nneg, ii_mul, ii_mulL, ii_mulR, ni_div, ni_rem, ni_le, ni_lt, ni_eq, ii_le, ii_lt, ii_eq, ii_leL, ii_leR, ii_ltL, ii_ltR, ii_eqL, ii_eqR, ni_cl, vq_in, xq_si, xq_si2, xq_si3, xq_sa, xq_sa2, xq_sa3, xq_sl, xq_sl2, xq_sl3, xq_di, xq_da, xq_dl, mq_si, mq_si2, mq_si3, mq_si4, mq_sa, mq_sa2, mq_sa3, mq_sa4, mq_sl, mq_sl2, mq_sl3, mq_sl4, va_upE, Nat.reduceEqDiff, reduceIte, Nat.reduceMul, Nat.reduceAdd, Nat.reduceSub, Nat.reduceLT, Nat.reduceLeDiff, true_and, and_true, not_true, not_false_iff, or_true, true_or, eq_self])) | ((with_reducible refine br1 (fun hww => ?_) (fun hww => ?_)) <;> (try simp (disch := omega) only [nI_lit, nI_m1, nI_add, pk_mul, ni_sub, ii_sub, ii_add, ii_addL, ii_addR, ii_subL, ii_subR, ii_neg, ii_nneg, ii_mul, ii_mulL, ii_mulR, ni_div, ni_rem, ni_le, ni_lt, ni_eq, ii_le, ii_lt, ii_eq, ii_leL, ii_leR, ii_ltL, ii_ltR, ii_eqL, ii_eqR, ni_cl, vq_in, xq_si, xq_si2, xq_si3, xq_sa, xq_sa2, xq_sa3, xq_sl, xq_sl2, xq_sl3, xq_di, xq_da, xq_dl, mq_si, mq_si2, mq_si3, mq_si4, mq_sa, mq_sa2, mq_sa3, mq_sa4, mq_sl, mq_sl2, mq_sl3, mq_sl4, va_upE, Nat.reduceEqDiff, reduceIte, Nat.reduceMul, Nat.reduceAdd, Nat.reduceSub, Nat.reduceLT, Nat.reduceLeDiff, true_and, and_true, not_true, not_false_iff, or_true, true_or, eq_self] at hww) <;> (try (exfalso; omega))) | ((with_reducible refine br2 (fun hww => ?_) (fun hww => ?_)) <;> (try simp (disch := omega) only [nI_lit, nI_m1, nI_add, pk_mul, ni_sub, ii_sub, ii_add, ii_addL, ii_addR, ii_subL, ii_subR, ii_neg, ii_nneg, ii_mul, ii_mulL, ii_mulR, ni_div, ni_rem, ni_le, ni_lt, ni_eq, ii_le, ii_lt, ii_eq, ii_leL, ii_leR, ii_ltL, ii_ltR, ii_eqL, ii_eqR, ni_cl, vq_in, xq_si, xq_si2, xq_si3, xq_sa, xq_sa2, xq_sa3, xq_sl, xq_sl2, xq_sl3, xq_di, xq_da, xq_dl, mq_si, mq_si2, mq_si3, mq_si4, mq_sa, mq_sa2, mq_sa3, mq_sa4, mq_sl, mq_sl2, mq_sl3, mq_sl4, va_upE, Nat.reduceEqDiff, reduceIte, Nat.reduceMul, Nat.reduceAdd, Nat.reduceSub, Nat.reduceLT, Nat.reduceLeDiff, true_and, and_true, not_true, not_false_iff, or_true, true_or, eq_self] at hww) <;> (try (exfalso; omega))) | ((with_reducible intro uu ue); subst ue))
  · refine h w hfw w48 (tBd_c wB (fun j b hj hb => ?_))
    unfold tPj
    constructor
    · rintro (q | ⟨_, k', q, _⟩ | ⟨_, k', q, _⟩)
      · exact q.2
      · omega
      · omega
    · intro q; exact Or.inl ⟨by omega, q⟩
  have hp2 : p + 1 < i := by omega
  refine lqe4 (F := M_spans_45_lp K k2) (G := M_spans_45 K k2) (fun _ _ _ _ _ => rfl) (fun d3 a1 a2 a3 s => mf [] [46, 47] [] w s ∧ a1 = nI i ∧ a2 = nI p ∧ ∃ q, a3 = nI q ∧ q + d3 = 961 ∧ tBd s i (tPj S v i p q)) ?_ 961 _ _ _ _ ⟨mf_r w, rfl, rfl, 0, rfl, rfl, wB⟩
  rintro k3 d3 a1 a2 a3 s ⟨hfs, rfl, rfl, q, rfl, hq, sB⟩ ih3
  have sC : ∀ k, k < 961 → tCo s S v p k := fun k hk => tCo_f (wC hp2 k hk) hfs (by decide)
  have hMs : tMs9 s S v i := tMs9_f hMw hfs (by decide) (by decide)
  have go : ∀ s' : th_St, mf [] [46, 47] [] w s' → tBd s' i (tPj S v i p (q + 1)) → q < 961 → M_spans_90 K k2 k3 (nI i) (nI p) (nI q) s' := by
    intro s' g1 g2 g3
    unfold M_spans_90
    intro x5 e5
    subst e5
    exact ih3 (d3 - 1) _ _ _ _ (by omega) ⟨g1, rfl, rfl, q + 1, nI_1 q, by omega, g2⟩
  unfold M_spans_45
  refine br1 (fun g => ?_) (fun g => ?_)
  · simp (disch := omega) only [nI_lit, nI_m1, nI_add, pk_mul, ni_sub, ii_sub, ii_add, ii_addL, ii_addR, ii_subL, ii_subR, ii_neg, ii_nneg, ii_mul, ii_mulL, ii_mulR, ni_div, ni_rem, ni_le, ni_lt, ni_eq, ii_le, ii_lt, ii_eq, ii_leL, ii_leR, ii_ltL, ii_ltR, ii_eqL, ii_eqR, ni_cl, vq_in, xq_si, xq_si2, xq_si3, xq_sa, xq_sa2, xq_sa3, xq_sl, xq_sl2, xq_sl3, xq_di, xq_da, xq_dl, mq_si, mq_si2, mq_si3, mq_si4, mq_sa, mq_sa2, mq_sa3, mq_sa4, mq_sl, mq_sl2, mq_sl3, mq_sl4, va_upE, Nat.reduceEqDiff, reduceIte, Nat.reduceMul, Nat.reduceAdd, Nat.reduceSub, Nat.reduceLT, Nat.reduceLeDiff, true_and, and_true, not_true, not_false_iff, or_true, true_or, eq_self] at g
    have hq2 : q = 961 := by omega
    subst hq2
    have sB2 : tBd s i (tPj S v i (p + 1) 0) := tBd_c sB (fun j b hj hb => tPj_n (by omega) hb)
    have Fs : mf [48] [44, 46, 47] [] m s := mf_t hfw (mf_w hfs (by decide) (by decide) (by decide))
    have s48 : s.1 48 = nI i := (hfs.1 48 (by decide)).trans w48
    have e2 : nI i - (2 : Int32) = nI (i - 2) := ni_sub (b := 2) (by omega)
    rw [e2, ni_eq (by omega) (by omega)]
    refine br2 (fun g1 => ?_) (fun g1 => ?_)
    · refine lqe4 (F := M_spans_108_lp K k2) (G := M_spans_108 K k2) (fun _ _ _ _ _ => rfl) (fun d4 a1 a2 a3 t => mf [] [44] [] s t ∧ a1 = nI i ∧ a2 = nI p ∧ ∃ r, a3 = nI r ∧ r + d4 = 961 ∧ (∀ k, k < 961 → tCo t S v p k) ∧ ∀ k, k < r → tCo t S v (p + 1) k) ?_ 961 _ _ _ _ ⟨mf_r s, rfl, rfl, 0, rfl, rfl, sC, fun k hk => by omega⟩
      rintro k4 d4 a1 a2 a3 t ⟨hft, rfl, rfl, r, rfl, hr, tC, tD⟩ ih4
      unfold M_spans_108
      refine br1 (fun g2 => ?_) (fun g2 => ?_)
      · simp (disch := omega) only [nI_lit, nI_m1, nI_add, pk_mul, ni_sub, ii_sub, ii_add, ii_addL, ii_addR, ii_subL, ii_subR, ii_neg, ii_nneg, ii_mul, ii_mulL, ii_mulR, ni_div, ni_rem, ni_le, ni_lt, ni_eq, ii_le, ii_lt, ii_eq, ii_leL, ii_leR, ii_ltL, ii_ltR, ii_eqL, ii_eqR, ni_cl, vq_in, xq_si, xq_si2, xq_si3, xq_sa, xq_sa2, xq_sa3, xq_sl, xq_sl2, xq_sl3, xq_di, xq_da, xq_dl, mq_si, mq_si2, mq_si3, mq_si4, mq_sa, mq_sa2, mq_sa3, mq_sa4, mq_sl, mq_sl2, mq_sl3, mq_sl4, va_upE, Nat.reduceEqDiff, reduceIte, Nat.reduceMul, Nat.reduceAdd, Nat.reduceSub, Nat.reduceLT, Nat.reduceLeDiff, true_and, and_true, not_true, not_false_iff, or_true, true_or, eq_self] at g2
        unfold M_spans_221
        intro x6 e6
        subst e6
        refine ih2 (d2 - 1) _ _ _ (by omega) ⟨mf_t Fs (mf_w hft (by decide) (by decide) (by decide)), (hft.1 48 (by decide)).trans s48, rfl, p + 1, nI_1 p, by omega, fun j hj => ?_, fun _ k hk => tD k (by omega)⟩
        rw [hft.2.1 46 (by decide), hft.2.1 47 (by decide)]
        exact sB2 j hj
      · simp (disch := omega) only [nI_lit, nI_m1, nI_add, pk_mul, ni_sub, ii_sub, ii_add, ii_addL, ii_addR, ii_subL, ii_subR, ii_neg, ii_nneg, ii_mul, ii_mulL, ii_mulR, ni_div, ni_rem, ni_le, ni_lt, ni_eq, ii_le, ii_lt, ii_eq, ii_leL, ii_leR, ii_ltL, ii_ltR, ii_eqL, ii_eqR, ni_cl, vq_in, xq_si, xq_si2, xq_si3, xq_sa, xq_sa2, xq_sa3, xq_sl, xq_sl2, xq_sl3, xq_di, xq_da, xq_dl, mq_si, mq_si2, mq_si3, mq_si4, mq_sa, mq_sa2, mq_sa3, mq_sa4, mq_sl, mq_sl2, mq_sl3, mq_sl4, va_upE, Nat.reduceEqDiff, reduceIte, Nat.reduceMul, Nat.reduceAdd, Nat.reduceSub, Nat.reduceLT, Nat.reduceLeDiff, true_and, and_true, not_true, not_false_iff, or_true, true_or, eq_self] at g2
        have er1 : nI r / (31 : Int32) = nI (r / 31) := ni_div (d := 31) (by omega) (by omega) (by omega)
        have er2 : nI r - nI (r / 31) * (31 : Int32) = nI (r % 31) := by
          rw [show nI (r / 31) * (31 : Int32) = nI (r / 31 * 31) from pk_mul _ 31]; exact ni_rem (by omega)
        refine lqe6 (F := M_spans_121_lp K k2 k4) (G := M_spans_121 K k2 k4) (fun _ _ _ _ _ _ _ => rfl) (fun d5 a1 a2 a3 a4 a5 t' => t' = t ∧ a1 = nI i ∧ a2 = nI p ∧ a3 = nI r ∧ ∃ a, a5 = nI a ∧ a + d5 = 31 ∧ (a4 = 0 ∨ a4 = 1) ∧ (a4 = 0 ↔ ¬ ∃ a', a' < a ∧ 0 < tF S v (p + 1) a' (r / 31) ∧ tFit S v (p + 1) a' (r / 31) (r % 31))) ?_ 31 _ _ _ _ _ _ ⟨rfl, rfl, rfl, rfl, 0, rfl, rfl, Or.inl rfl, ⟨fun _ ⟨a', q, _⟩ => by omega, fun _ => rfl⟩⟩
        rintro k5 d5 a1 a2 a3 a4 a5 t' ⟨rfl, rfl, rfl, rfl, a, rfl, ha, a01, aiff⟩ ih5
        have fin : (a4 = 0 ↔ ¬ 0 < tF S v (p + 1 + 1) (r / 31) (r % 31)) → M_spans_199 K k2 k4 (nI i) (nI p) (nI r) a4 t' := by
          intro h9
          unfold M_spans_199
          rw [show (961 : Int32) * (nI p + (1 : Int32)) + nI r = nI (961 * (p + 1) + r) by simp (disch := omega) only [nI_lit, nI_m1, nI_add, pk_mul, ni_sub, ii_sub, ii_add, ii_addL, ii_addR, ii_subL, ii_subR, ii_neg, ii_nneg, ii_mul, ii_mulL, ii_mulR, ni_div, ni_rem, ni_le, ni_lt, ni_eq, ii_le, ii_lt, ii_eq, ii_leL, ii_leR, ii_ltL, ii_ltR, ii_eqL, ii_eqR, ni_cl, vq_in, xq_si, xq_si2, xq_si3, xq_sa, xq_sa2, xq_sa3, xq_sl, xq_sl2, xq_sl3, xq_di, xq_da, xq_dl, mq_si, mq_si2, mq_si3, mq_si4, mq_sa, mq_sa2, mq_sa3, mq_sa4, mq_sl, mq_sl2, mq_sl3, mq_sl4, va_upE, Nat.reduceEqDiff, reduceIte, Nat.reduceMul, Nat.reduceAdd, Nat.reduceSub, Nat.reduceLT, Nat.reduceLeDiff, true_and, and_true, not_true, not_false_iff, or_true, true_or, eq_self]]
          refine And.intro (vp_in_nI (by omega) (by omega)) ?_
          intro u9 e9
          rw [ni_cl (by omega), vpn_b a01] at e9
          subst e9
          intro x9 e9
          subst e9
          refine ih4 (d4 - 1) _ _ _ _ (by omega) ⟨mf_a (by decide) hft, rfl, rfl, r + 1, nI_1 r, by omega, fun k hk => tCo_u (tC k hk) (by omega), fun k hk => ?_⟩
          rcases Nat.lt_or_ge k r with h5 | h5
          · exact tCo_u (tD k h5) (by omega)
          · have : k = r := by omega
            subst this
            exact tCo_n a01 h9
        have step : ∀ (z : Int32), (z = 0 ∨ z = 1) → (z = 0 ↔ ¬ ∃ a', a' < a + 1 ∧ 0 < tF S v (p + 1) a' (r / 31) ∧ tFit S v (p + 1) a' (r / 31) (r % 31)) → a < 31 → M_spans_191 K k2 k4 k5 (nI i) (nI p) (nI r) (nI a) z t' := by
          intro z z01 ziff ha2
          unfold M_spans_191
          intro x5 e5
          subst e5
          exact ih5 (d5 - 1) _ _ _ _ _ _ (by omega) ⟨rfl, rfl, rfl, rfl, a + 1, nI_1 a, by omega, z01, ziff⟩
        unfold M_spans_121
        refine br1 (fun g3 => ?_) (fun g3 => ?_)
        · simp (disch := omega) only [nI_lit, nI_m1, nI_add, pk_mul, ni_sub, ii_sub, ii_add, ii_addL, ii_addR, ii_subL, ii_subR, ii_neg, ii_nneg, ii_mul, ii_mulL, ii_mulR, ni_div, ni_rem, ni_le, ni_lt, ni_eq, ii_le, ii_lt, ii_eq, ii_leL, ii_leR, ii_ltL, ii_ltR, ii_eqL, ii_eqR, ni_cl, vq_in, xq_si, xq_si2, xq_si3, xq_sa, xq_sa2, xq_sa3, xq_sl, xq_sl2, xq_sl3, xq_di, xq_da, xq_dl, mq_si, mq_si2, mq_si3, mq_si4, mq_sa, mq_sa2, mq_sa3, mq_sa4, mq_sl, mq_sl2, mq_sl3, mq_sl4, va_upE, Nat.reduceEqDiff, reduceIte, Nat.reduceMul, Nat.reduceAdd, Nat.reduceSub, Nat.reduceLT, Nat.reduceLeDiff, true_and, and_true, not_true, not_false_iff, or_true, true_or, eq_self] at g3
          refine fin ?_
          rw [tF_s, aiff]
          constructor
          · rintro h1 ⟨a', h2, h3⟩; exact h1 ⟨a', by omega, h3⟩
          · rintro h1 ⟨a', h2, h3⟩; exact h1 ⟨a', by omega, h3⟩
        · simp (disch := omega) only [nI_lit, nI_m1, nI_add, pk_mul, ni_sub, ii_sub, ii_add, ii_addL, ii_addR, ii_subL, ii_subR, ii_neg, ii_nneg, ii_mul, ii_mulL, ii_mulR, ni_div, ni_rem, ni_le, ni_lt, ni_eq, ii_le, ii_lt, ii_eq, ii_leL, ii_leR, ii_ltL, ii_ltR, ii_eqL, ii_eqR, ni_cl, vq_in, xq_si, xq_si2, xq_si3, xq_sa, xq_sa2, xq_sa3, xq_sl, xq_sl2, xq_sl3, xq_di, xq_da, xq_dl, mq_si, mq_si2, mq_si3, mq_si4, mq_sa, mq_sa2, mq_sa3, mq_sa4, mq_sl, mq_sl2, mq_sl3, mq_sl4, va_upE, Nat.reduceEqDiff, reduceIte, Nat.reduceMul, Nat.reduceAdd, Nat.reduceSub, Nat.reduceLT, Nat.reduceLeDiff, true_and, and_true, not_true, not_false_iff, or_true, true_or, eq_self] at g3
          refine br2 (fun g4 => ?_) (fun g4 => ?_)
          · refine fin ⟨fun g5 => absurd g5 g4, fun g5 => ?_⟩
            exfalso
            rw [aiff] at g4
            apply g4
            rintro ⟨a', h1, h2⟩
            exact g5 (tF_s.mpr ⟨a', by omega, h2⟩)
          · have hnone := aiff.mp g4
            refine And.intro (by decide) ?_
            rw [er1, er2]
            rw [show (961 : Int32) * nI p + (31 : Int32) * nI a + nI (r / 31) = nI (961 * p + (31 * a + r / 31)) by simp (disch := omega) only [nI_lit, nI_m1, nI_add, pk_mul, ni_sub, ii_sub, ii_add, ii_addL, ii_addR, ii_subL, ii_subR, ii_neg, ii_nneg, ii_mul, ii_mulL, ii_mulR, ni_div, ni_rem, ni_le, ni_lt, ni_eq, ii_le, ii_lt, ii_eq, ii_leL, ii_leR, ii_ltL, ii_ltR, ii_eqL, ii_eqR, ni_cl, vq_in, xq_si, xq_si2, xq_si3, xq_sa, xq_sa2, xq_sa3, xq_sl, xq_sl2, xq_sl3, xq_di, xq_da, xq_dl, mq_si, mq_si2, mq_si3, mq_si4, mq_sa, mq_sa2, mq_sa3, mq_sa4, mq_sl, mq_sl2, mq_sl3, mq_sl4, va_upE, Nat.reduceEqDiff, reduceIte, Nat.reduceMul, Nat.reduceAdd, Nat.reduceSub, Nat.reduceLT, Nat.reduceLeDiff, true_and, and_true, not_true, not_false_iff, or_true, true_or, eq_self, Nat.add_assoc]]
            refine And.intro (vp_in_nI (by omega) (by omega)) ?_
            intro y1 e1
            rw [ni_cl (by omega)] at e1
            have hco := tC (31 * a + r / 31) (by omega)
            unfold tCo at hco
            rw [← e1, show (31 * a + r / 31) / 31 = a by omega, show (31 * a + r / 31) % 31 = r / 31 by omega] at hco
            have no1 : ¬ (0 < tF S v (p + 1) a (r / 31) ∧ tFit S v (p + 1) a (r / 31) (r % 31)) → M_spans_190 K k2 k4 k5 (nI i) (nI p) (nI r) (nI a) t' := by
              intro h1
              unfold M_spans_190
              refine step 0 (Or.inl rfl) ⟨fun _ => ?_, fun _ => rfl⟩ (by omega)
              rintro ⟨a', h2, h3⟩
              by_cases e : a' = a
              · subst e; exact h1 h3
              · exact hnone ⟨a', by omega, h3⟩
            refine br1 (fun g5 => ?_) (fun g5 => ?_)
            · exact no1 (fun h1 => hco.2.mp g5 h1.1)
            · have hpos : 0 < tF S v (p + 1) a (r / 31) := by
                apply Classical.byContradiction
                intro h1
                exact g5 (hco.2.mpr h1)
              refine And.intro (by decide) (And.intro (by decide) ?_)
              have hMt : tMs9 t' S v i := tMs9_f hMs hft (by decide) (by decide)
              refine mx_fits (S := S) (v := v) (i := p + 1) (a := a) (b := r / 31) (c := r % 31) (by omega) (hMt.1 (p + 1) (by omega)) (hS _) hv hMt.2.1 (by omega) (by omega) (by omega) (nI_1 p) (ii_nsub _ 15) (ii_nsub _ 15) (ii_nsub _ 15) (fun g6 => ?_) (fun g6 => ?_)
              · refine br1 (fun g7 => absurd g7 (by decide)) (fun g7 => ?_)
                refine step 1 (Or.inr rfl) ⟨fun g8 => absurd g8 (by decide), fun g8 => absurd ⟨a, by omega, hpos, g6⟩ g8⟩ (by omega)
              · refine br1 (fun g7 => ?_) (fun g7 => absurd rfl g7)
                exact no1 (fun h1 => g6 h1.2)
    · unfold M_spans_221
      intro x6 e6
      subst e6
      refine ih2 (d2 - 1) _ _ _ (by omega) ⟨Fs, s48, rfl, p + 1, nI_1 p, by omega, sB2, fun h1 => by omega⟩
  · simp (disch := omega) only [nI_lit, nI_m1, nI_add, pk_mul, ni_sub, ii_sub, ii_add, ii_addL, ii_addR, ii_subL, ii_subR, ii_neg, ii_nneg, ii_mul, ii_mulL, ii_mulR, ni_div, ni_rem, ni_le, ni_lt, ni_eq, ii_le, ii_lt, ii_eq, ii_leL, ii_leR, ii_ltL, ii_ltR, ii_eqL, ii_eqR, ni_cl, vq_in, xq_si, xq_si2, xq_si3, xq_sa, xq_sa2, xq_sa3, xq_sl, xq_sl2, xq_sl3, xq_di, xq_da, xq_dl, mq_si, mq_si2, mq_si3, mq_si4, mq_sa, mq_sa2, mq_sa3, mq_sa4, mq_sl, mq_sl2, mq_sl3, mq_sl4, va_upE, Nat.reduceEqDiff, reduceIte, Nat.reduceMul, Nat.reduceAdd, Nat.reduceSub, Nat.reduceLT, Nat.reduceLeDiff, true_and, and_true, not_true, not_false_iff, or_true, true_or, eq_self] at g
    rw [show (961 : Int32) * nI p + nI q = nI (961 * p + q) by simp (disch := omega) only [nI_lit, nI_m1, nI_add, pk_mul, ni_sub, ii_sub, ii_add, ii_addL, ii_addR, ii_subL, ii_subR, ii_neg, ii_nneg, ii_mul, ii_mulL, ii_mulR, ni_div, ni_rem, ni_le, ni_lt, ni_eq, ii_le, ii_lt, ii_eq, ii_leL, ii_leR, ii_ltL, ii_ltR, ii_eqL, ii_eqR, ni_cl, vq_in, xq_si, xq_si2, xq_si3, xq_sa, xq_sa2, xq_sa3, xq_sl, xq_sl2, xq_sl3, xq_di, xq_da, xq_dl, mq_si, mq_si2, mq_si3, mq_si4, mq_sa, mq_sa2, mq_sa3, mq_sa4, mq_sl, mq_sl2, mq_sl3, mq_sl4, va_upE, Nat.reduceEqDiff, reduceIte, Nat.reduceMul, Nat.reduceAdd, Nat.reduceSub, Nat.reduceLT, Nat.reduceLeDiff, true_and, and_true, not_true, not_false_iff, or_true, true_or, eq_self]]
    refine And.intro (vp_in_nI (by omega) (by omega)) ?_
    intro y1 e1
    rw [ni_cl (by omega)] at e1
    have hco := sC q (by omega)
    unfold tCo at hco
    rw [← e1] at hco
    have hways := hMs.2.2 p (q / 31) (q % 31) (by omega) (by omega) (by omega)
    rw [show 961 * p + 31 * (q / 31) + q % 31 = 961 * p + q by omega] at hways
    have hsat := tSat_p (tW S v i p (q / 31) (q % 31))
    have hsl := tSat_le (tW S v i p (q / 31) (q % 31))
    have no1 : ¬ tGood S v i p q → M_spans_90 K k2 k3 (nI i) (nI p) (nI q) s := fun h1 => go s hfs (tBd_c sB (fun j b _ _ => tPj_no h1)) (by omega)
    refine br1 (fun g1 => ?_) (fun g1 => ?_)
    · exact no1 (fun h1 => hco.2.mp g1 h1.1)
    · refine And.intro (vp_in_nI (by omega) (by omega)) ?_
      intro y2 e2
      rw [ni_cl (by omega), hways] at e2
      subst e2
      have hpos : 0 < tF S v (p + 1) (q / 31) (q % 31) := by
        apply Classical.byContradiction
        intro h1
        exact g1 (hco.2.mpr h1)
      simp (disch := omega) only [nI_lit, nI_m1, nI_add, pk_mul, ni_sub, ii_sub, ii_add, ii_addL, ii_addR, ii_subL, ii_subR, ii_neg, ii_nneg, ii_mul, ii_mulL, ii_mulR, ni_div, ni_rem, ni_le, ni_lt, ni_eq, ii_le, ii_lt, ii_eq, ii_leL, ii_leR, ii_ltL, ii_ltR, ii_eqL, ii_eqR, ni_cl, vq_in, xq_si, xq_si2, xq_si3, xq_sa, xq_sa2, xq_sa3, xq_sl, xq_sl2, xq_sl3, xq_di, xq_da, xq_dl, mq_si, mq_si2, mq_si3, mq_si4, mq_sa, mq_sa2, mq_sa3, mq_sa4, mq_sl, mq_sl2, mq_sl3, mq_sl4, va_upE, Nat.reduceEqDiff, reduceIte, Nat.reduceMul, Nat.reduceAdd, Nat.reduceSub, Nat.reduceLT, Nat.reduceLeDiff, true_and, and_true, not_true, not_false_iff, or_true, true_or, eq_self, lI_lit, lN_add, lN_mul, ll_sub, ll_lt, ll_le, ll_eq, ll_div, ll_rem, ll_n, lgn_ge, lgn_le, lgn_gt, lgn_lt, lgn_eq]
      refine br1 (fun g2 => ?_) (fun g2 => ?_)
      · exact no1 (fun h1 => by have := h1.2; omega)
      · refine mx_both (by omega) hn (by omega) sB (fun s' hs' hb' => ?_)
        exact go s' (mf_t hfs hs') (tBd_c hb' (fun j b _ _ => tPj_y ⟨hpos, by omega⟩)) (by omega)

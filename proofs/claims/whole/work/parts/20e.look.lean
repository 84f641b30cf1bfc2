/-! the other side: rowOf, stretch, look -/
def txM (m : th_St) (n : Nat) (fx : Nat → Bool) (hd : Nat → Int) : Prop := (4 ≤ n ∧ n ≤ 48) ∧ m.2.2.1 11 0 = nI n ∧ ∀ i, i < 48 → m.2.2.1 6 i = (if fx i = true then 1 else 0) ∧ m.2.2.1 7 i = iI (hd i) ∧ 1 ≤ hd i ∧ hd i ≤ 99
theorem txM_f {m m' : th_St} {n : Nat} {fx : Nat → Bool} {hd : Nat → Int} {I A L : List Nat} (h : txM m n fx hd) (hf : mf I A L m m') (h11 : 11 ∉ A) (h6 : 6 ∉ A) (h7 : 7 ∉ A) : txM m' n fx hd := by
  refine ⟨h.1, by rw [hf.2.1 11 h11]; exact h.2.1, fun i hi => ?_⟩
  rw [hf.2.1 6 h6, hf.2.1 7 h7]; exact h.2.2 i hi
def lgM (m : th_St) (n N : Nat) (eh ed : Nat → Nat) (rd wd : Nat → Nat → Int) : Prop := (hcn eh N ≤ 40 ∧ N - hcn eh N ≤ 60) ∧ m.1 30 = nI (hcn eh N) ∧ m.1 31 = nI (N - hcn eh N) ∧ ∀ j, j < N → m.2.2.1 36 (emr eh j) = nI (eh j) ∧ m.2.2.1 37 (emr eh j) = nI (ed j) ∧ ed j ≤ 999 ∧ ∀ i, i < n → m.2.2.1 35 (96 * emr eh j + i) = iI (rd j i) ∧ m.2.2.1 35 (96 * emr eh j + 48 + i) = iI (wd j i)
theorem lgM_f {m m' : th_St} {n N : Nat} {eh ed : Nat → Nat} {rd wd : Nat → Nat → Int} {I A L : List Nat} (h : lgM m n N eh ed rd wd) (hf : mf I A L m m') (h30 : 30 ∉ I) (h31 : 31 ∉ I) (h35 : 35 ∉ A) (h36 : 36 ∉ A) (h37 : 37 ∉ A) : lgM m' n N eh ed rd wd := by
  refine ⟨h.1, (hf.1 30 h30).trans h.2.1, (hf.1 31 h31).trans h.2.2.1, fun j hj => ?_⟩
  rw [hf.2.1 35 h35, hf.2.1 36 h36, hf.2.1 37 h37]; exact h.2.2.2 j hj
theorem emr_l {m : th_St} {n N : Nat} {eh ed : Nat → Nat} {rd wd : Nat → Nat → Int} (h : lgM m n N eh ed rd wd) (hok : lgOk eh ed N) {j : Nat} (hj : j < N) : emr eh j < 100 := by
  have h1 := h.1
  have h2 := hcn_mn hok.1 (i := j + 1) N (by omega) (Nat.le_refl N)
  have h3 := hcn_le j (fun q hq => hok.1 q (by omega))
  have h4 := hcn_mo (eh := eh) (i := j + 1) N (by omega)
  have h5 := hcn_s (hok.1 j hj)
  unfold emr
  by_cases e : eh j = hcn eh j
  · rw [if_pos e]
    rw [if_pos e] at h5
    omega
  · rw [if_neg e]
    rw [if_neg e] at h5
    omega
theorem mx_rowOf {m : th_St} {n N : Nat} {eh ed : Nat → Nat} {rd wd : Nat → Nat → Int} {h : Nat} {a : Int32} {K : Int32 → th_St → Prop} (hlg : lgM m n N eh ed rd wd) (hok : lgOk eh ed N) (hh : h < thr eh ed a.toInt N) (hK : K (nI (emr eh (qF eh ed a.toInt h N))) m) : M_rowOf (nI h) a m K := by
  have hH := Nat.lt_of_lt_of_le hh (thr_le N)
  have h1 := hlg.1
  have key : ∀ d j, j + d = N → ∃ k, M_rowOf_6_lp K k (nI h) a (nI (bst eh ed a.toInt h j)) (nI (40 + (j - hcn eh j))) m := by
    intro d
    induction d with
    | zero =>
      intro j hj
      have : j = N := by omega
      subst this
      refine ⟨1, ?_⟩
      show M_rowOf_6 K _ (nI h) a _ _ m
      unfold M_rowOf_6
      rw [hlg.2.2.1, show (40 : Int32) = nI 40 from rfl, nI_add, ni_le (by omega) (by omega), bst_e hh]
      exact ⟨fun _ => hK, fun q => by omega⟩
    | succ d ih =>
      intro j hj
      have hokj := hok.1 j (by omega)
      have hle := hcn_le j (fun q hq => hok.1 q (by omega))
      obtain ⟨k, hk⟩ := ih (j + 1) (by omega)
      by_cases e : eh j = hcn eh j
      · rw [bst_h hok (by omega) hh e, hcn_s hokj, if_pos e, show j + 1 - (hcn eh j + 1) = j - hcn eh j by omega] at hk
        exact ⟨k, hk⟩
      · have hmn := hcn_mn hok.1 (i := j + 1) N (by omega) (Nat.le_refl N)
        rw [hcn_s hokj, if_neg e] at hmn
        rw [bst_m hok (by omega) e, hcn_s hokj, if_neg e, show j + 1 - hcn eh j = j - hcn eh j + 1 by omega] at hk
        have hlj := hlg.2.2.2 j (by omega)
        have hem : emr eh j = 40 + (j - hcn eh j) := by unfold emr; rw [if_neg e]
        rw [hem] at hlj
        refine ⟨k + 1, ?_⟩
        show M_rowOf_6 K (M_rowOf_6_lp K k) (nI h) a _ _ m
        have hmono := hcn_mo (eh := eh) (i := j) N (by omega)
        unfold M_rowOf_6 M_rowOf_43
        rw [hlg.2.2.1, show (40 : Int32) = nI 40 from rfl, nI_add, ni_le (by omega) (by omega)]
        refine ⟨fun q => by omega, fun _ => ⟨vp_in_nI (by omega) (by omega), ?_⟩⟩
        intro y1 e1
        rw [ni_cl (by omega), hlj.1] at e1
        subst e1
        rw [ni_eq (by omega) (by omega)]
        refine br2 (fun q => ?_) (fun q => ⟨vp_in_nI (by omega) (by omega), ?_⟩)
        · intro x4 e4
          subst e4
          rw [if_neg (fun g => q g.1)] at hk
          rw [show nI (40 + (j - hcn eh j)) + (1 : Int32) = nI (40 + (j - hcn eh j) + 1) from nI_1 _]
          exact hk
        · intro y2 e2
          rw [ni_cl (by omega), hlj.2.1] at e2
          subst e2
          rw [ti_lt, ti_nI (show ed j < 2147483648 by have := hlj.2.2.1; omega)]
          refine br1 (fun q2 => ?_) (fun q2 => ?_)
          · intro x4 e4
            subst e4
            rw [if_neg (fun g => by omega)] at hk
            rw [show nI (40 + (j - hcn eh j)) + (1 : Int32) = nI (40 + (j - hcn eh j) + 1) from nI_1 _]
            exact hk
          · intro x4 e4
            subst e4
            rw [if_pos ⟨q, by omega⟩] at hk
            rw [show nI (40 + (j - hcn eh j)) + (1 : Int32) = nI (40 + (j - hcn eh j) + 1) from nI_1 _]
            exact hk
  obtain ⟨k, hk⟩ := key N 0 (by omega)
  unfold M_rowOf
  exact ⟨k, hk⟩
/-- stretch: the hour h out of what was felt ahead of it, and two rows -/
theorem mx_stretch {m : th_St} {n : Nat} {fx : Nat → Bool} {hd ga s s0 : Nat → Int} {h r : Nat} {x3 : Int32} {K : th_St → Prop} (hT : txM m n fx hd) (hh : h < 40) (hr : r < 100) (hga : ∀ i, i < n → m.2.2.1 38 (48 * h + i) = iI (ga i)) (hs : ∀ i, i < n → m.2.2.1 35 (96 * r + i) = iI (s i)) (hs0 : (x3 = iI (-1) ∧ ∀ i, s0 i = 0) ∨ ∃ r0, x3 = nI r0 ∧ r0 < 100 ∧ ∀ i, i < n → m.2.2.1 35 (96 * r0 + i) = iI (s0 i))
    (bga : bdd ga n 7900) (bs1 : ∀ i, -99 ≤ s i ∧ s i ≤ 99) (bs0 : ∀ i, -99 ≤ s0 i ∧ s0 i ≤ 99)
    (hK : ∀ y, mf [] [38, 39] [] m y → (∀ i, i < n → y.2.2.1 38 (48 * (h + 1) + i) = iI ((slF n fx hd (fun i => ga i + s i - s0 i)).1 i)) → (∀ k, (k < 48 * (h + 1) ∨ 48 * (h + 1) + n ≤ k) → y.2.2.1 38 k = m.2.2.1 38 k) → y.2.2.1 39 h = nI (slF n fx hd (fun i => ga i + s i - s0 i)).2 → (∀ k, k ≠ h → y.2.2.1 39 k = m.2.2.1 39 k) → K y) : M_stretch (nI h) (nI r) x3 m K := by
  have hn := hT.1
  unfold M_stretch
  refine ⟨vp_in_nI (n := 0) (by omega) (by omega), ?_⟩
  intro y1 e1
  have e1 : y1 = nI n := by rw [e1]; exact hT.2.1
  subst e1
  intro y2 e2
  rw [show nI h + (1 : Int32) = nI (h + 1) from nI_1 h, show (48 : Int32) = nI 48 from rfl, pk_mul] at e2
  subst e2
  refine lqe7 (F := M_stretch_19_lp K) (G := M_stretch_19 K) (fun _ _ _ _ _ _ _ _ => rfl) (fun d a1 a2 a3 a4 a5 a6 u => mf [] [38] [] m u ∧ a1 = nI h ∧ a2 = nI r ∧ a3 = x3 ∧ a4 = nI n ∧ a5 = nI (48 * (h + 1)) ∧ (∀ k, (k < 48 * (h + 1) ∨ 48 * (h + 1) + n ≤ k) → u.2.2.1 38 k = m.2.2.1 38 k) ∧ ∃ i, a6 = nI i ∧ i + d = n ∧ ∀ j, j < i → u.2.2.1 38 (48 * (h + 1) + j) = iI (ga j + s j - s0 j)) ?_ n _ _ _ _ _ _ _ ⟨mf_r m, rfl, rfl, rfl, rfl, rfl, fun _ _ => rfl, 0, rfl, by omega, fun j hj => by omega⟩
  rintro k d a1 a2 a3 a4 a5 a6 u ⟨hf, rfl, rfl, rfl, rfl, rfl, uo, i, rfl, hdi, uV⟩ ih
  unfold M_stretch_19
  rw [ni_le (by omega) (by omega)]
  refine br1 (fun q => ⟨vp_in_nI (by omega) (by omega), ?_⟩) (fun q => ?_)
  · intro u1 e1
    rw [ni_cl (by omega)] at e1
    have hf1 : mf [] [38, 39] [] m u1 := by rw [e1]; exact mf_a (by decide) (mf_w hf (by decide) (by decide) (by decide))
    have u1V : u1.2.2.1 38 = u.2.2.1 38 := by rw [e1]; simp (disch := omega) only [nI_lit, nI_m1, nI_add, pk_mul, ni_sub, ii_sub, ii_add, ii_addL, ii_addR, ii_subL, ii_subR, ii_neg, ii_nneg, ii_mul, ii_mulL, ii_mulR, ni_div, ni_rem, ni_le, ni_lt, ni_eq, ii_le, ii_lt, ii_eq, ii_leL, ii_leR, ii_ltL, ii_ltR, ii_eqL, ii_eqR, ni_cl, vq_in, xq_si, xq_si2, xq_si3, xq_sa, xq_sa2, xq_sa3, xq_sl, xq_sl2, xq_sl3, xq_di, xq_da, xq_dl, mq_si, mq_si2, mq_si3, mq_si4, mq_sa, mq_sa2, mq_sa3, mq_sa4, mq_sl, mq_sl2, mq_sl3, mq_sl4, va_upE, Nat.reduceEqDiff, reduceIte, Nat.reduceMul, Nat.reduceAdd, Nat.reduceSub, Nat.reduceLT, Nat.reduceLeDiff, true_and, and_true, not_true, not_false_iff, or_true, true_or, eq_self]
    have u1S : u1.2.2.1 39 = upd (u.2.2.1 39) h (nI 0) := by rw [e1]; simp (disch := omega) only [nI_lit, nI_m1, nI_add, pk_mul, ni_sub, ii_sub, ii_add, ii_addL, ii_addR, ii_subL, ii_subR, ii_neg, ii_nneg, ii_mul, ii_mulL, ii_mulR, ni_div, ni_rem, ni_le, ni_lt, ni_eq, ii_le, ii_lt, ii_eq, ii_leL, ii_leR, ii_ltL, ii_ltR, ii_eqL, ii_eqR, ni_cl, vq_in, xq_si, xq_si2, xq_si3, xq_sa, xq_sa2, xq_sa3, xq_sl, xq_sl2, xq_sl3, xq_di, xq_da, xq_dl, mq_si, mq_si2, mq_si3, mq_si4, mq_sa, mq_sa2, mq_sa3, mq_sa4, mq_sl, mq_sl2, mq_sl3, mq_sl4, va_upE, Nat.reduceEqDiff, reduceIte, Nat.reduceMul, Nat.reduceAdd, Nat.reduceSub, Nat.reduceLT, Nat.reduceLeDiff, true_and, and_true, not_true, not_false_iff, or_true, true_or, eq_self]
    clear e1
    have bd0 : bdd (fun i => ga i + s i - s0 i) n 10000 := fun j hj => by
      have t1 := bga j hj
      have t2 := bs1 j
      have t3 := bs0 j
      show -10000 ≤ ga j + s j - s0 j ∧ ga j + s j - s0 j ≤ 10000
      omega
    refine lqe5 (F := M_stretch_99_lp K) (G := M_stretch_99 K) (fun _ _ _ _ _ _ => rfl) (fun d2 a1 a2 a3 a4 v => mf [] [38, 39] [] m v ∧ a1 = nI h ∧ a2 = nI n ∧ a3 = nI (48 * (h + 1)) ∧ (∀ k, (k < 48 * (h + 1) ∨ 48 * (h + 1) + n ≤ k) → v.2.2.1 38 k = m.2.2.1 38 k) ∧ (∀ k, k ≠ h → v.2.2.1 39 k = m.2.2.1 39 k) ∧ ∃ (g : Nat → Int) (i s' : Nat), a4 = nI i ∧ i ≤ n ∧ s' ≤ 100000 ∧ d2 = 2 * (100000 - s') + (n - i) ∧ v.2.2.1 39 h = nI s' ∧ bdd g n 10000 ∧ (∀ j, j < n → v.2.2.1 38 (48 * (h + 1) + j) = iI (g j)) ∧ slTo n fx hd g i s' (slF n fx hd (fun i => ga i + s i - s0 i))) ?_ (200000 + n) _ _ _ _ _ ⟨hf1, rfl, rfl, rfl, fun k hk => by rw [u1V]; exact uo k hk, fun k hk => by rw [u1S, pk_un hk, hf.2.1 39 (by decide)], fun i => ga i + s i - s0 i, 0, 0, rfl, by omega, by omega, by omega, by rw [u1S, pk_us], bd0, fun j hj => by rw [u1V]; exact uV j (by omega), slF_to _ _ _ _⟩
    rintro k2 d2 b1 b2 b3 b4 v ⟨hfv, rfl, rfl, rfl, vo, vs, g, i2, s', rfl, hi2, hs', hd2, vS, vb, vV, hto⟩ ih2
    have vT : txM v n fx hd := txM_f hT hfv (by decide) (by decide) (by decide)
    unfold M_stretch_99 M_stretch_264
    rw [show nI i2 + (1 : Int32) = nI (i2 + 1) from nI_1 i2, ni_le (by omega) (by omega)]
    have fin : slF n fx hd (fun i => ga i + s i - s0 i) = (g, s') → K v := fun e => by
      refine hK v hfv (fun j hj => by rw [e]; exact vV j hj) vo (by rw [e]; exact vS) vs
    refine br1 (fun q2 => fin (slTo_e hto (fun q3 => by omega))) (fun q2 => ⟨vp_in_nI (by omega) (by omega), ?_⟩)
    intro y1 e1
    rw [ni_cl (by omega), vS] at e1
    subst e1
    rw [show (100000 : Int32) = nI 100000 from rfl, ni_le (by omega) (by omega)]
    refine br1 (fun q3 => fin (slTo_e hto (fun q4 => by omega))) (fun q3 => ?_)
    have t1 := vT.2.2 i2 (by omega)
    have t2 := vT.2.2 (i2 + 1) (by omega)
    have g1 := vb i2 (by omega)
    have g2 := vb (i2 + 1) (by omega)
    have v1 := vV i2 (by omega)
    have v2 := vV (i2 + 1) (by omega)
    rw [nI_add, show nI (48 * (h + 1) + i2) + (1 : Int32) = nI (48 * (h + 1) + (i2 + 1)) from nI_1 _]
    refine ⟨vp_in_nI (by omega) (by omega), ?_⟩
    intro y2 e2
    rw [ni_cl (by omega), v1] at e2
    subst e2
    refine ⟨vp_in_nI (by omega) (by omega), ?_⟩
    intro y3 e3
    rw [ni_cl (by omega), v2] at e3
    subst e3
    intro y4 e4
    rw [ii_sub] at e4
    subst e4
    have adv : ¬ slS fx hd g i2 = true → M_stretch_182 K k2 (nI h) (nI n) (nI (48 * (h + 1))) (nI i2) v := by
      intro hsl
      unfold M_stretch_182
      intro x6 e6
      subst e6
      exact ih2 (d2 - 1) _ _ _ _ _ (by omega) ⟨hfv, rfl, rfl, rfl, vo, vs, g, i2 + 1, s', nI_1 i2, by omega, hs', by omega, vS, vb, vV, slTo_a hto (by omega) (by omega) hsl⟩
    refine ⟨vp_in_nI (by omega) (by omega), ?_⟩
    intro y5 e5
    rw [ni_cl (by omega), t1.1] at e5
    subst e5
    rw [b01]
    refine br2 (fun q4 => adv (fun q5 => q4 (slS_i.mp q5).1)) (fun q4 => ⟨vp_in_nI (by omega) (by omega), ?_⟩)
    intro y6 e6
    rw [ni_cl (by omega), t2.1] at e6
    subst e6
    rw [b01]
    refine br2 (fun q5 => adv (fun q6 => q5 (slS_i.mp q6).2.1)) (fun q5 => ?_)
    refine mx_plainZ (by omega) (by omega) ?_
    refine ⟨vp_in_nI (by omega) (by omega), ?_⟩
    intro y9 e9
    rw [ni_cl (by omega), t1.2.1] at e9
    subst e9
    rw [ii_ltL (by omega) (by omega) (by omega)]
    refine br1 (fun q6 => ?_) (fun q6 => adv (fun q7 => q6 (slS_i.mp q7).2.2))
    have hsl : slS fx hd g i2 = true := slS_i.mpr ⟨q4, q5, q6⟩
    intro y10 e10
    subst e10
    refine ⟨vp_in_nI (by omega) (by omega), ?_⟩
    intro y11 e11
    rw [ni_cl (by omega), v1] at e11
    subst e11
    have last : ∀ (z : Int), z = (if g (i2 + 1) < g i2 then 1 else -1) → M_stretch_209 K k2 (nI h) (nI n) (nI (48 * (h + 1))) (nI i2) (iI (g i2 - g (i2 + 1))) (iI (-z)) (iI (g i2)) (nI (48 * (h + 1) + i2)) v := by
      intro z hz
      unfold M_stretch_209
      refine ⟨vp_in_nI (by omega) (by omega), ?_⟩
      intro w1 f1
      rw [ni_cl (by omega), ii_add] at f1
      have w1V : w1.2.2.1 38 = upd (v.2.2.1 38) (48 * (h + 1) + i2) (iI (g i2 + -z)) := by rw [f1]; simp (disch := omega) only [nI_lit, nI_m1, nI_add, pk_mul, ni_sub, ii_sub, ii_add, ii_addL, ii_addR, ii_subL, ii_subR, ii_neg, ii_nneg, ii_mul, ii_mulL, ii_mulR, ni_div, ni_rem, ni_le, ni_lt, ni_eq, ii_le, ii_lt, ii_eq, ii_leL, ii_leR, ii_ltL, ii_ltR, ii_eqL, ii_eqR, ni_cl, vq_in, xq_si, xq_si2, xq_si3, xq_sa, xq_sa2, xq_sa3, xq_sl, xq_sl2, xq_sl3, xq_di, xq_da, xq_dl, mq_si, mq_si2, mq_si3, mq_si4, mq_sa, mq_sa2, mq_sa3, mq_sa4, mq_sl, mq_sl2, mq_sl3, mq_sl4, va_upE, Nat.reduceEqDiff, reduceIte, Nat.reduceMul, Nat.reduceAdd, Nat.reduceSub, Nat.reduceLT, Nat.reduceLeDiff, true_and, and_true, not_true, not_false_iff, or_true, true_or, eq_self]
      have w1f : mf [] [38, 39] [] m w1 := by rw [f1]; exact mf_a (by decide) hfv
      have w1S : w1.2.2.1 39 = v.2.2.1 39 := by rw [f1]; simp (disch := omega) only [nI_lit, nI_m1, nI_add, pk_mul, ni_sub, ii_sub, ii_add, ii_addL, ii_addR, ii_subL, ii_subR, ii_neg, ii_nneg, ii_mul, ii_mulL, ii_mulR, ni_div, ni_rem, ni_le, ni_lt, ni_eq, ii_le, ii_lt, ii_eq, ii_leL, ii_leR, ii_ltL, ii_ltR, ii_eqL, ii_eqR, ni_cl, vq_in, xq_si, xq_si2, xq_si3, xq_sa, xq_sa2, xq_sa3, xq_sl, xq_sl2, xq_sl3, xq_di, xq_da, xq_dl, mq_si, mq_si2, mq_si3, mq_si4, mq_sa, mq_sa2, mq_sa3, mq_sa4, mq_sl, mq_sl2, mq_sl3, mq_sl4, va_upE, Nat.reduceEqDiff, reduceIte, Nat.reduceMul, Nat.reduceAdd, Nat.reduceSub, Nat.reduceLT, Nat.reduceLeDiff, true_and, and_true, not_true, not_false_iff, or_true, true_or, eq_self]
      clear f1
      intro w2 f2
      rw [nI_add, show nI (48 * (h + 1) + i2) + (1 : Int32) = nI (48 * (h + 1) + (i2 + 1)) from nI_1 _] at f2
      subst f2
      refine ⟨vp_in_nI (by omega) (by omega), ?_⟩
      intro w3 f3
      rw [ni_cl (by omega), w1V, pk_un (by omega), v2] at f3
      subst f3
      have c0 : (iI (g i2 - g (i2 + 1)) ≤ (0 : Int32)) = (g i2 - g (i2 + 1) ≤ 0) := ii_le (b := 0) (by omega) (by omega) (by omega) (by omega)
      rw [c0]
      have last2 : M_stretch_234 K k2 (nI h) (nI n) (nI (48 * (h + 1))) (nI i2) (iI z) (iI (g (i2 + 1))) (nI (48 * (h + 1) + (i2 + 1))) w1 := by
        unfold M_stretch_234
        refine ⟨vp_in_nI (by omega) (by omega), ?_⟩
        intro w4 f4
        rw [ni_cl (by omega), ii_add] at f4
        have w4V : w4.2.2.1 38 = upd (upd (v.2.2.1 38) (48 * (h + 1) + i2) (iI (g i2 + -z))) (48 * (h + 1) + (i2 + 1)) (iI (g (i2 + 1) + z)) := by rw [f4, ← w1V]; simp (disch := omega) only [nI_lit, nI_m1, nI_add, pk_mul, ni_sub, ii_sub, ii_add, ii_addL, ii_addR, ii_subL, ii_subR, ii_neg, ii_nneg, ii_mul, ii_mulL, ii_mulR, ni_div, ni_rem, ni_le, ni_lt, ni_eq, ii_le, ii_lt, ii_eq, ii_leL, ii_leR, ii_ltL, ii_ltR, ii_eqL, ii_eqR, ni_cl, vq_in, xq_si, xq_si2, xq_si3, xq_sa, xq_sa2, xq_sa3, xq_sl, xq_sl2, xq_sl3, xq_di, xq_da, xq_dl, mq_si, mq_si2, mq_si3, mq_si4, mq_sa, mq_sa2, mq_sa3, mq_sa4, mq_sl, mq_sl2, mq_sl3, mq_sl4, va_upE, Nat.reduceEqDiff, reduceIte, Nat.reduceMul, Nat.reduceAdd, Nat.reduceSub, Nat.reduceLT, Nat.reduceLeDiff, true_and, and_true, not_true, not_false_iff, or_true, true_or, eq_self]
        have w4f : mf [] [38, 39] [] m w4 := by rw [f4]; exact mf_a (by decide) w1f
        have w4S : w4.2.2.1 39 = v.2.2.1 39 := by rw [f4, ← w1S]; simp (disch := omega) only [nI_lit, nI_m1, nI_add, pk_mul, ni_sub, ii_sub, ii_add, ii_addL, ii_addR, ii_subL, ii_subR, ii_neg, ii_nneg, ii_mul, ii_mulL, ii_mulR, ni_div, ni_rem, ni_le, ni_lt, ni_eq, ii_le, ii_lt, ii_eq, ii_leL, ii_leR, ii_ltL, ii_ltR, ii_eqL, ii_eqR, ni_cl, vq_in, xq_si, xq_si2, xq_si3, xq_sa, xq_sa2, xq_sa3, xq_sl, xq_sl2, xq_sl3, xq_di, xq_da, xq_dl, mq_si, mq_si2, mq_si3, mq_si4, mq_sa, mq_sa2, mq_sa3, mq_sa4, mq_sl, mq_sl2, mq_sl3, mq_sl4, va_upE, Nat.reduceEqDiff, reduceIte, Nat.reduceMul, Nat.reduceAdd, Nat.reduceSub, Nat.reduceLT, Nat.reduceLeDiff, true_and, and_true, not_true, not_false_iff, or_true, true_or, eq_self]
        clear f4
        refine ⟨vp_in_nI (by omega) (by omega), ?_⟩
        intro w5 f5
        rw [ni_cl (by omega), w4S, vS] at f5
        subst f5
        refine ⟨vp_in_nI (by omega) (by omega), ?_⟩
        intro w6 f6
        rw [ni_cl (by omega), show nI s' + (1 : Int32) = nI (s' + 1) from nI_1 s', w4S] at f6
        have w6V : w6.2.2.1 38 = w4.2.2.1 38 := by rw [f6]; simp (disch := omega) only [nI_lit, nI_m1, nI_add, pk_mul, ni_sub, ii_sub, ii_add, ii_addL, ii_addR, ii_subL, ii_subR, ii_neg, ii_nneg, ii_mul, ii_mulL, ii_mulR, ni_div, ni_rem, ni_le, ni_lt, ni_eq, ii_le, ii_lt, ii_eq, ii_leL, ii_leR, ii_ltL, ii_ltR, ii_eqL, ii_eqR, ni_cl, vq_in, xq_si, xq_si2, xq_si3, xq_sa, xq_sa2, xq_sa3, xq_sl, xq_sl2, xq_sl3, xq_di, xq_da, xq_dl, mq_si, mq_si2, mq_si3, mq_si4, mq_sa, mq_sa2, mq_sa3, mq_sa4, mq_sl, mq_sl2, mq_sl3, mq_sl4, va_upE, Nat.reduceEqDiff, reduceIte, Nat.reduceMul, Nat.reduceAdd, Nat.reduceSub, Nat.reduceLT, Nat.reduceLeDiff, true_and, and_true, not_true, not_false_iff, or_true, true_or, eq_self]
        have w6f : mf [] [38, 39] [] m w6 := by rw [f6]; exact mf_a (by decide) w4f
        have w6S : w6.2.2.1 39 = upd (v.2.2.1 39) h (nI (s' + 1)) := by rw [f6]; simp (disch := omega) only [nI_lit, nI_m1, nI_add, pk_mul, ni_sub, ii_sub, ii_add, ii_addL, ii_addR, ii_subL, ii_subR, ii_neg, ii_nneg, ii_mul, ii_mulL, ii_mulR, ni_div, ni_rem, ni_le, ni_lt, ni_eq, ii_le, ii_lt, ii_eq, ii_leL, ii_leR, ii_ltL, ii_ltR, ii_eqL, ii_eqR, ni_cl, vq_in, xq_si, xq_si2, xq_si3, xq_sa, xq_sa2, xq_sa3, xq_sl, xq_sl2, xq_sl3, xq_di, xq_da, xq_dl, mq_si, mq_si2, mq_si3, mq_si4, mq_sa, mq_sa2, mq_sa3, mq_sa4, mq_sl, mq_sl2, mq_sl3, mq_sl4, va_upE, Nat.reduceEqDiff, reduceIte, Nat.reduceMul, Nat.reduceAdd, Nat.reduceSub, Nat.reduceLT, Nat.reduceLeDiff, true_and, and_true, not_true, not_false_iff, or_true, true_or, eq_self]
        clear f6
        have hto' := slTo_s hto (by omega) (by omega) hsl
        have hbd' := slM_b vb (by omega) t1.2.2.1 hsl
        have rest : mf [] [38, 39] [] m w6 ∧ (∀ k, (k < 48 * (h + 1) ∨ 48 * (h + 1) + n ≤ k) → w6.2.2.1 38 k = m.2.2.1 38 k) ∧ (∀ k, k ≠ h → w6.2.2.1 39 k = m.2.2.1 39 k) ∧ w6.2.2.1 39 h = nI (s' + 1) ∧ ∀ j, j < n → w6.2.2.1 38 (48 * (h + 1) + j) = iI (slM g i2 j) := by
          refine ⟨w6f, fun k hk => ?_, fun k hk => ?_, by rw [w6S, pk_us], fun j hj => ?_⟩
          · rw [w6V, w4V, pk_un (by omega), pk_un (by omega)]; exact vo k hk
          · rw [w6S, pk_un hk]; exact vs k hk
          · rw [w6V, w4V, slM_v]
            by_cases e1 : j = i2
            · subst e1
              rw [pk_un (by omega), pk_us, if_pos rfl, hz]
              by_cases e2 : g (j + 1) < g j
              · rw [if_pos e2, if_pos e2]; rfl
              · rw [if_neg e2, if_neg e2]; rfl
            · rw [if_neg e1]
              by_cases e3 : j = i2 + 1
              · subst e3
                rw [pk_us, if_pos rfl, hz]
                by_cases e2 : g (i2 + 1) < g i2
                · rw [if_pos e2, if_pos e2]
                · rw [if_neg e2, if_neg e2]; rfl
              · rw [pk_un (by omega), pk_un (by omega), if_neg e3]; exact vV j hj
        obtain ⟨r1, r2, r3, r4, r5⟩ := rest
        unfold M_stretch_259
        rw [show (0 : Int32) = nI 0 from rfl, ni_le (by omega) (by omega)]
        refine br1 (fun q7 => ?_) (fun q7 => ?_)
        · rw [show i2 - 1 = 0 by omega] at hto'
          exact ih2 _ _ _ _ _ _ (by omega) ⟨r1, rfl, rfl, rfl, r2, r3, slM g i2, 0, s' + 1, rfl, by omega, by omega, rfl, r4, hbd', r5, hto'⟩
        · rw [show nI i2 - (1 : Int32) = nI (i2 - 1) from ni_sub (b := 1) (by omega)]
          exact ih2 _ _ _ _ _ _ (by omega) ⟨r1, rfl, rfl, rfl, r2, r3, slM g i2, i2 - 1, s' + 1, rfl, by omega, by omega, rfl, r4, hbd', r5, hto'⟩
      refine br1 (fun q7 => ?_) (fun q7 => ?_)
      · have : z = -1 := by rw [hz, if_neg (by omega)]
        subst this; exact last2
      · have : z = 1 := by rw [hz, if_pos (by omega)]
        subst this; exact last2
    have c0 : (iI (g i2 - g (i2 + 1)) ≤ (0 : Int32)) = (g i2 - g (i2 + 1) ≤ 0) := ii_le (b := 0) (by omega) (by omega) (by omega) (by omega)
    rw [c0]
    refine br1 (fun q7 => ?_) (fun q7 => ?_)
    · exact last (-1) (by rw [if_neg (by omega)])
    · exact last 1 (by rw [if_pos (by omega)])
  · have go : ∀ z : Int, z = s0 i → M_stretch_81 K k (nI h) (nI r) a3 (nI n) (nI (48 * (h + 1))) (nI i) (iI z) (iI (ga i + s i)) (nI (48 * (h + 1) + i)) u := by
      intro z hz
      unfold M_stretch_81
      refine ⟨vp_in_nI (by omega) (by omega), ?_⟩
      intro u1 e1
      rw [ni_cl (by omega), ii_sub] at e1
      subst e1
      intro x6 e6
      subst e6
      refine ih (d - 1) _ _ _ _ _ _ _ (by omega) ⟨mf_a (by decide) hf, rfl, rfl, rfl, rfl, rfl, fun k hk => ?_, i + 1, nI_1 i, by omega, fun j hj => ?_⟩
      · simp (disch := omega) only [nI_lit, nI_m1, nI_add, pk_mul, ni_sub, ii_sub, ii_add, ii_addL, ii_addR, ii_subL, ii_subR, ii_neg, ii_nneg, ii_mul, ii_mulL, ii_mulR, ni_div, ni_rem, ni_le, ni_lt, ni_eq, ii_le, ii_lt, ii_eq, ii_leL, ii_leR, ii_ltL, ii_ltR, ii_eqL, ii_eqR, ni_cl, vq_in, xq_si, xq_si2, xq_si3, xq_sa, xq_sa2, xq_sa3, xq_sl, xq_sl2, xq_sl3, xq_di, xq_da, xq_dl, mq_si, mq_si2, mq_si3, mq_si4, mq_sa, mq_sa2, mq_sa3, mq_sa4, mq_sl, mq_sl2, mq_sl3, mq_sl4, va_upE, Nat.reduceEqDiff, reduceIte, Nat.reduceMul, Nat.reduceAdd, Nat.reduceSub, Nat.reduceLT, Nat.reduceLeDiff, true_and, and_true, not_true, not_false_iff, or_true, true_or, eq_self]
        rw [pk_un (by omega)]; exact uo k hk
      · simp (disch := omega) only [nI_lit, nI_m1, nI_add, pk_mul, ni_sub, ii_sub, ii_add, ii_addL, ii_addR, ii_subL, ii_subR, ii_neg, ii_nneg, ii_mul, ii_mulL, ii_mulR, ni_div, ni_rem, ni_le, ni_lt, ni_eq, ii_le, ii_lt, ii_eq, ii_leL, ii_leR, ii_ltL, ii_ltR, ii_eqL, ii_eqR, ni_cl, vq_in, xq_si, xq_si2, xq_si3, xq_sa, xq_sa2, xq_sa3, xq_sl, xq_sl2, xq_sl3, xq_di, xq_da, xq_dl, mq_si, mq_si2, mq_si3, mq_si4, mq_sa, mq_sa2, mq_sa3, mq_sa4, mq_sl, mq_sl2, mq_sl3, mq_sl4, va_upE, Nat.reduceEqDiff, reduceIte, Nat.reduceMul, Nat.reduceAdd, Nat.reduceSub, Nat.reduceLT, Nat.reduceLeDiff, true_and, and_true, not_true, not_false_iff, or_true, true_or, eq_self]
        by_cases e : j = i
        · subst e; rw [pk_us, hz]
        · rw [pk_un (by omega)]; exact uV j (by omega)
    have u35 : u.2.2.1 35 = m.2.2.1 35 := hf.2.1 35 (by decide)
    rw [show nI (48 * (h + 1)) - (48 : Int32) + nI i = nI (48 * h + i) by
      rw [show (48 : Int32) = nI 48 from rfl, ni_sub (by omega), nI_add, show 48 * (h + 1) - 48 = 48 * h by omega]]
    refine ⟨vp_in_nI (by omega) (by omega), ?_⟩
    intro y2 e2
    rw [ni_cl (by omega), uo _ (by omega), hga i (by omega)] at e2
    subst e2
    rw [show (96 : Int32) = nI 96 from rfl, pk_mul, nI_add]
    refine ⟨vp_in_nI (by omega) (by omega), ?_⟩
    intro y3 e3
    rw [ni_cl (by omega), u35, hs i (by omega)] at e3
    subst e3
    rw [ii_add, nI_add]
    rcases hs0 with ⟨rfl, hz⟩ | ⟨r0, rfl, hr0, hz⟩
    · have c0 : ((0 : Int32) ≤ iI (-1)) = ((0 : Int) ≤ -1) := ii_le (a := 0) (by omega) (by omega) (by omega) (by omega)
      rw [c0]
      exact br1 (fun q2 => by omega) (fun _ => go 0 (hz i).symm)
    · have c0 : ((0 : Int32) ≤ nI r0) = (0 ≤ r0) := ni_le (a := 0) (by omega) (by omega)
      rw [c0]
      refine br1 (fun _ => ?_) (fun q2 => by omega)
      rw [pk_mul, nI_add]
      refine ⟨vp_in_nI (by omega) (by omega), ?_⟩
      intro y4 e4
      rw [ni_cl (by omega), u35, hz i (by omega)] at e4
      subst e4
      exact go _ rfl

/-! hour and mend: both -/
theorem mx_takeRow {m : th_St} {L n : Nat} {B : Nat → Int} {z : Int32} {K : Int32 → th_St → Prop} (hL : L ≤ 440) (hn : n ≤ 48) (h2 : m.1 2 = nI L) (hB : tB (m.2.2.1 1) L B) (h11 : m.2.2.1 11 0 = nI n)
    (k0 : ¬ rwOk L n B → K 0 (mT m)) (k1 : rwOk L n B → z < 0 → K 1 (mT m))
    (k2 : rwOk L n B → ∀ r : Nat, r < 100 → z = nI r → ∀ y, mf [] [35] [] (mT m) y → (∀ i, i < n → y.2.2.1 35 (96 * r + i) = iI (B i) ∧ y.2.2.1 35 (96 * r + 48 + i) = iI (B (n + i))) → (∀ k, (k < 96 * r ∨ 96 * r + 96 ≤ k) → y.2.2.1 35 k = m.2.2.1 35 k) → K 1 y) (hz : z < 0 ∨ ∃ r : Nat, r < 100 ∧ z = nI r) : M_takeRow z (th_si m 0 0) K := by
  unfold M_takeRow
  refine mx_taken ?_
  have e3 : (mT m).1 3 = nI L := h2
  have e11 : (mT m).2.2.1 11 0 = nI n := h11
  have eB : tB ((mT m).2.2.1 1) L B := hB
  have e35 : (mT m).2.2.1 35 = m.2.2.1 35 := rfl
  generalize mT m = w at *
  refine ⟨vp_in_nI (n := 0) (by omega) (by omega), ?_⟩
  intro y3 ey3
  have ey3 : y3 = nI n := by rw [ey3]; exact e11
  subst ey3
  rw [e3, show (2 : Int32) * nI n = nI (2 * n) from pk_mul 2 n, ni_eq (by omega) (by omega)]
  refine br1 (fun q => ?_) (fun q => ⟨n010, k0 (fun q2 => q q2.1)⟩)
  subst q
  refine lqe4 (F := M_takeRow_25_lp K) (G := M_takeRow_25 K) (fun _ _ _ _ _ => rfl) (fun d a1 a2 a3 u => u = w ∧ a1 = z ∧ a2 = nI n ∧ ∃ i, a3 = nI i ∧ i + d = n ∧ ∀ j, j < i → (-99 ≤ B j ∧ B j ≤ 99) ∧ -50 ≤ B (n + j) ∧ B (n + j) ≤ 50) ?_ n _ _ _ _ ⟨rfl, rfl, rfl, 0, rfl, by omega, fun j hj => by omega⟩
  rintro k d a1 a2 a3 u ⟨rfl, rfl, rfl, i, rfl, hdi, hall⟩ ih
  unfold M_takeRow_25 M_takeRow_64
  rw [ni_le (by omega) (by omega)]
  refine br1 (fun q => ?_) (fun q => ⟨vp_in_nI (by omega) (by omega), ?_⟩)
  · have hok : rwOk (2 * n) n B := ⟨rfl, fun j hj => hall j (by omega)⟩
    refine br1 (fun q2 => ?_) (fun q2 => ⟨n011, k1 hok (by rw [ti_lt, tt_0]; rw [ti_le, tt_0] at q2; omega)⟩)
    rcases hz with hz | ⟨r, hr, rfl⟩
    · rw [ti_lt, tt_0] at hz
      rw [ti_le, tt_0] at q2; omega
    · refine lqe4 (F := M_takeRow_80_lp K) (G := M_takeRow_80 K) (fun _ _ _ _ _ => rfl) (fun d a1 a2 a3 v => mf [] [35] [] u v ∧ a1 = nI r ∧ a2 = nI n ∧ (∀ k, (k < 96 * r ∨ 96 * r + 96 ≤ k) → v.2.2.1 35 k = m.2.2.1 35 k) ∧ ∃ i, a3 = nI i ∧ i + d = n ∧ ∀ j, j < i → v.2.2.1 35 (96 * r + j) = iI (B j) ∧ v.2.2.1 35 (96 * r + 48 + j) = iI (B (n + j))) ?_ n _ _ _ _ ⟨mf_r u, rfl, rfl, fun k _ => by rw [e35], 0, rfl, by omega, fun j hj => by omega⟩
      rintro kk2 d2 a1 a2 a3 v ⟨vf, rfl, rfl, vo, i2, rfl, hd2, vV⟩ ih2
      have v1 : tB (v.2.2.1 1) (2 * n) B := by rw [vf.2.1 1 (by decide)]; exact eB
      unfold M_takeRow_80
      rw [ni_le (by omega) (by omega)]
      refine br1 (fun q3 => ⟨n011, k2 hok r hr rfl v vf (fun j hj => vV j (by omega)) vo⟩) (fun q3 => ⟨vp_in_nI (by omega) (by omega), ?_⟩)
      intro y1 e1
      rw [ni_cl (by omega), v1.2 i2 (by omega)] at e1
      subst e1
      rw [show (96 : Int32) = nI 96 from rfl, show (48 : Int32) = nI 48 from rfl, pk_mul, nI_add, nI_add, nI_add, nI_add]
      refine ⟨vp_in_nI (by omega) (by omega), ?_⟩
      intro u2 e2
      rw [ni_cl (by omega)] at e2
      have f2 : mf [] [35] [] u u2 := by rw [e2]; exact mf_a (by decide) vf
      have V2 : u2.2.2.1 35 = upd (v.2.2.1 35) (96 * r + i2) (iI (B i2)) := by rw [e2]; simp (disch := omega) only [nI_lit, nI_m1, nI_add, pk_mul, ni_sub, ii_sub, ii_add, ii_addL, ii_addR, ii_subL, ii_subR, ii_neg, ii_nneg, ii_mul, ii_mulL, ii_mulR, ni_div, ni_rem, ni_le, ni_lt, ni_eq, ii_le, ii_lt, ii_eq, ii_leL, ii_leR, ii_ltL, ii_ltR, ii_eqL, ii_eqR, ni_cl, vq_in, xq_si, xq_si2, xq_si3, xq_sa, xq_sa2, xq_sa3, xq_sl, xq_sl2, xq_sl3, xq_di, xq_da, xq_dl, mq_si, mq_si2, mq_si3, mq_si4, mq_sa, mq_sa2, mq_sa3, mq_sa4, mq_sl, mq_sl2, mq_sl3, mq_sl4, va_upE, Nat.reduceEqDiff, reduceIte, Nat.reduceMul, Nat.reduceAdd, Nat.reduceSub, Nat.reduceLT, Nat.reduceLeDiff, true_and, and_true, not_true, not_false_iff, or_true, true_or, eq_self]
      clear e2
      have u21 : tB (u2.2.2.1 1) (2 * n) B := by rw [f2.2.1 1 (by decide)]; exact eB
      refine ⟨vp_in_nI (by omega) (by omega), ?_⟩
      intro y3 e3'
      rw [ni_cl (by omega), u21.2 (n + i2) (by omega)] at e3'
      subst e3'
      refine ⟨vp_in_nI (by omega) (by omega), ?_⟩
      intro u4 e4
      rw [ni_cl (by omega)] at e4
      have f4 : mf [] [35] [] u u4 := by rw [e4]; exact mf_a (by decide) f2
      have V4 : u4.2.2.1 35 = upd (upd (v.2.2.1 35) (96 * r + i2) (iI (B i2))) (96 * r + 48 + i2) (iI (B (n + i2))) := by rw [e4, ← V2]; simp (disch := omega) only [nI_lit, nI_m1, nI_add, pk_mul, ni_sub, ii_sub, ii_add, ii_addL, ii_addR, ii_subL, ii_subR, ii_neg, ii_nneg, ii_mul, ii_mulL, ii_mulR, ni_div, ni_rem, ni_le, ni_lt, ni_eq, ii_le, ii_lt, ii_eq, ii_leL, ii_leR, ii_ltL, ii_ltR, ii_eqL, ii_eqR, ni_cl, vq_in, xq_si, xq_si2, xq_si3, xq_sa, xq_sa2, xq_sa3, xq_sl, xq_sl2, xq_sl3, xq_di, xq_da, xq_dl, mq_si, mq_si2, mq_si3, mq_si4, mq_sa, mq_sa2, mq_sa3, mq_sa4, mq_sl, mq_sl2, mq_sl3, mq_sl4, va_upE, Nat.reduceEqDiff, reduceIte, Nat.reduceMul, Nat.reduceAdd, Nat.reduceSub, Nat.reduceLT, Nat.reduceLeDiff, true_and, and_true, not_true, not_false_iff, or_true, true_or, eq_self]
      clear e4
      intro x3 e5
      subst e5
      refine ih2 (d2 - 1) _ _ _ _ (by omega) ⟨f4, rfl, rfl, fun k hk => ?_, i2 + 1, nI_1 i2, by omega, fun j hj => ?_⟩
      · rw [V4, pk_un (by omega), pk_un (by omega)]; exact vo k hk
      · rw [V4]
        by_cases e : j = i2
        · subst e
          refine ⟨?_, by rw [pk_us]⟩
          rw [pk_un (by omega), pk_us]
        · rw [pk_un (by omega), pk_un (by omega), pk_un (by omega), pk_un (by omega)]
          exact vV j (by omega)
  · have b1 := hB.1 i
    have b2 := hB.1 (n + i)
    intro y1 e1
    rw [ni_cl (by omega), eB.2 i (by omega)] at e1
    subst e1
    refine mx_isZ (B i) (-99) 99 rfl rfl rfl (fun g1 g2 => ⟨fun g => absurd g (by decide), fun _ => ?_⟩) (fun g1 => ⟨fun _ => ⟨n010, k0 (fun q2 => g1 (q2.2 i (by omega)).1)⟩, fun g => absurd rfl g⟩)
    rw [nI_add]
    refine ⟨vp_in_nI (by omega) (by omega), ?_⟩
    intro y4 e4
    rw [ni_cl (by omega), eB.2 (n + i) (by omega)] at e4
    subst e4
    refine mx_isZ (B (n + i)) (-50) 50 rfl rfl rfl (fun g3 g4 => ⟨fun _ => ?_, fun g => absurd g (by decide)⟩) (fun g3 => ⟨fun g => absurd rfl g, fun _ => ⟨n010, k0 (fun q2 => g3 (q2.2 i (by omega)).2)⟩⟩)
    intro x3 e5
    subst e5
    refine ih (d - 1) _ _ _ _ (by omega) ⟨rfl, rfl, rfl, i + 1, nI_1 i, by omega, fun j hj => ?_⟩
    by_cases e : j = i
    · subst e; exact ⟨⟨g1, g2⟩, g3, g4⟩
    · exact hall j (by omega)
theorem hcn_k {eh eh' : Nat → Nat} {N : Nat} (h : ∀ j, j < N → eh' j = eh j) : ∀ j, j ≤ N → hcn eh' j = hcn eh j := by
  intro j
  induction j with
  | zero => intro _; rfl
  | succ j ih => intro hj; rw [hcn, hcn, ih (by omega), h j (by omega)]
theorem emr_k {eh eh' : Nat → Nat} {N : Nat} (h : ∀ j, j < N → eh' j = eh j) {j : Nat} (hj : j < N) : emr eh' j = emr eh j := by
  unfold emr; rw [h j hj, hcn_k h j (by omega)]
theorem emr_d {eh ed : Nat → Nat} {N : Nat} (hok : lgOk eh ed N) {j : Nat} (hj : j < N) : emr eh j < hcn eh N ∨ (40 ≤ emr eh j ∧ emr eh j < 40 + (N - hcn eh N)) := by
  have h2 := hcn_mn hok.1 (i := j + 1) N (by omega) (Nat.le_refl N)
  have h3 := hcn_le j (fun q hq => hok.1 q (by omega))
  have h4 := hcn_mo (eh := eh) (i := j + 1) N (by omega)
  have h5 := hcn_s (hok.1 j hj)
  unfold emr
  by_cases e : eh j = hcn eh j
  · rw [if_pos e]
    rw [if_pos e] at h5
    exact Or.inl (by omega)
  · rw [if_neg e]
    rw [if_neg e] at h5
    exact Or.inr (by omega)
theorem lgOk_a {eh ed : Nat → Nat} {N h d : Nat} (hok : lgOk eh ed N) (hh : h ≤ hcn eh N) (hd : ∀ j, j < N → ed j ≤ d) : lgOk (iu eh N h) (iu ed N d) (N + 1) := by
  have hk : ∀ j, j < N → iu eh N h j = eh j := fun j hj => iu_n (by omega)
  refine ⟨fun j hj => ?_, fun i j hij hj => ?_⟩
  · rw [hcn_k hk j (by omega)]
    by_cases e : j = N
    · subst e; rw [iu_s]; exact hh
    · rw [iu_n e]; exact hok.1 j (by omega)
  · by_cases e : j = N
    · subst e
      rw [iu_s]
      by_cases e2 : i = j
      · subst e2; rw [iu_s]; exact Nat.le_refl _
      · rw [iu_n e2]; exact hd i (by omega)
    · rw [iu_n e, iu_n (by omega)]; exact hok.2 i j hij (by omega)
/-- a row more, on both sides -/
theorem bq_app {x y : xs_St} {m w : th_St} {n : Nat} {fx : Nat → Bool} {hd : Nat → Int} {N : Nat} {eh ed er ea : Nat → Nat} {rd wd : Nat → Nat → Int} {P : Nat → List Nat} {h d b arr : Nat} {s t : Nat → Int} (hq : bq x m n fx hd N eh ed er ea rd wd P) (hh : h ≤ hcn eh N) (hday : (xi x 12).toInt = d) (hd9 : d ≤ 999)
    (y300 : xi y 300 = xi x 300) (y12 : xi y 12 = xi x 12) (ya : ∀ k, xa y k = xa x k) (yr : y.2.1 = x.2.1) (ypx : pxT x y b) (yL : xdL y = xdL x ++ [b, arr]) (hb : b ∉ xdL x) (yb : xd_is y b 1) (yarr : xd_is y arr 2)
    (ylg : lgX y n (N + 1) (iu eh N h) (iu ed N d) (iu er N b) (iu ea N arr) (iu rd N s) (iu wd N t)) (y504 : xi y 504 = nI (hcn (iu eh N h) (N + 1))) (y505 : xi y 505 = nI (N + 1 - hcn (iu eh N h) (N + 1)))
    (hH : hcn (iu eh N h) (N + 1) ≤ 40) (hM : N + 1 - hcn (iu eh N h) (N + 1) ≤ 60)
    (wf : mf [0, 2, 3, 4, 30, 31, 40] [35, 36, 37] [] m w) (w30 : w.1 30 = nI (hcn (iu eh N h) (N + 1))) (w31 : w.1 31 = nI (N + 1 - hcn (iu eh N h) (N + 1))) (w40 : w.1 40 = 0)
    (w36 : w.2.2.1 36 = upd (m.2.2.1 36) (emr (iu eh N h) N) (nI h)) (w37 : w.2.2.1 37 = upd (m.2.2.1 37) (emr (iu eh N h) N) (nI d))
    (w35 : ∀ i, i < n → w.2.2.1 35 (96 * emr (iu eh N h) N + i) = iI (s i) ∧ w.2.2.1 35 (96 * emr (iu eh N h) N + 48 + i) = iI (t i)) (w35' : ∀ k, (k < 96 * emr (iu eh N h) N ∨ 96 * emr (iu eh N h) N + 96 ≤ k) → w.2.2.1 35 k = m.2.2.1 35 k) : sBody y w := by
  obtain ⟨b1, b2, b3, b4, b5, b6, b7, b8, b9, b10⟩ := hq
  have hk : ∀ j, j < N → iu eh N h j = eh j := fun j hj => iu_n (by omega)
  have hdj : ∀ j, j < N → ed j ≤ d := fun j hj => by have := b10 j hj; omega
  have hlo := b4.1
  refine ⟨n, fx, hd, N + 1, iu eh N h, iu ed N d, iu er N b, iu ea N arr, iu rd N s, iu wd N t, P, ?_, txM_f b2 wf (by decide) (by decide) (by decide), ylg, ⟨⟨hH, hM⟩, w30, w31, fun j hj => ?_⟩, lgOk_a b5 hh hdj, ⟨?_, fun c hc => ?_⟩, ⟨fun i hi => ?_, fun q => absurd w40 q⟩, y504, y505, fun j hj => ?_⟩
  · exact ⟨b1.1, y300.trans b1.2.1, fun i hi => by rw [ya, ya]; exact b1.2.2 i hi⟩
  · by_cases e : j = N
    · subst e
      rw [iu_s, iu_s, iu_s, w36, w37, pk_us, pk_us]
      refine ⟨rfl, rfl, hd9, fun i hi => ?_⟩
      have := w35 i hi
      simpa only [iu_s] using this
    · have hlj := b4.2.2.2 j (by omega)
      have he := emr_d b5 (show j < N by omega)
      have hne : emr eh j ≠ emr (iu eh N h) N := by
        have hu : emr (iu eh N h) N = if h = hcn eh N then h else 40 + (N - hcn eh N) := by
          unfold emr; rw [iu_s, hcn_k hk N (Nat.le_refl N)]
        have hs := hcn_s (eh := iu eh N h) (N := N) (by rw [iu_s, hcn_k hk N (Nat.le_refl N)]; exact hh)
        rw [hu]
        by_cases e2 : h = hcn eh N
        · rw [if_pos e2]
          rw [iu_s, hcn_k hk N (Nat.le_refl N), if_pos e2] at hs
          omega
        · rw [if_neg e2]; omega
      rw [emr_k hk (show j < N by omega), iu_n e, iu_n e, iu_n e, iu_n e, w36, w37, pk_un hne, pk_un hne]
      refine ⟨hlj.1, hlj.2.1, hlj.2.2.1, fun i hi => ?_⟩
      have hn := b1.1
      rw [w35' _ (by omega), w35' _ (by omega)]
      exact hlj.2.2.2 i hi
  · obtain ⟨st, g1, g2, g3⟩ := b6.1
    exact ⟨st, by unfold xr; rw [yr]; exact g1, pxT_is ypx g2, g3⟩
  · have hmem : c ∈ xdL x ++ [b, arr] := by rw [← yL]; exact hc.1
    rcases List.mem_append.mp hmem with hin | hin
    · have hx3 : xd_is x c 3 := ⟨hin, (ypx c hin).2.1.symm.trans hc.2⟩
      exact pxT_nd ypx b6 hx3 (fun e => hb (by rw [← e]; exact hin)) (fun _ _ => rfl) (by omega) (fun j hj => ⟨iu_n (by omega), iu_n (by omega), iu_n (by omega)⟩)
    · exfalso
      rcases List.mem_cons.mp hin with rfl | hin
      · have := yb.2.symm.trans hc.2; omega
      · rcases List.mem_cons.mp hin with rfl | hin
        · have := yarr.2.symm.trans hc.2; omega
        · cases hin
  · rw [wf.2.1 38 (by decide)]; exact b7.1 i hi
  · rw [y12]
    by_cases e : j = N
    · subst e; rw [iu_s]; omega
    · rw [iu_n e]; exact b10 j (by omega)

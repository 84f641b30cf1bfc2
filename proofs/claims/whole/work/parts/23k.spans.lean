/-! text: fixed and holds -/
def vN (t : TK) (k : Nat) : Nat := (kV t k).toNatClampNeg
theorem vN_e {t : TK} {k v : Nat} (h : kV t k = nI v) (hv : v ≤ 9999) : vN t k = v := by unfold vN; rw [h]; exact ni_cl (by omega)
/-- how a stretch of feet reads: (0, 0), or the fault and its token -/
def spC (t : TK) (k n : Nat) : Nat × Nat := if kK t k ≠ 2 then (1, k) else if ¬ vN t k < n then (2, k) else if kK t (k + 1) ≠ 11 then (1, k + 1) else if kK t (k + 2) ≠ 2 then (1, k + 2) else if ¬ (vN t k ≤ vN t (k + 2) ∧ vN t (k + 2) < n) then (2, k + 2) else (0, 0)
theorem n_1 {n : Nat} (hn : n ≤ 48) : (nI n - (1 : Int32)).toInt = (n : Int) - 1 := by
  rw [show nI n - (1 : Int32) = iI ((n : Int) - 1) from ii_nsub n 1, ii_toInt (by omega) (by omega)]
theorem spC_0 {t : TK} {k n : Nat} (h : spC t k n = (0, 0)) : kK t k = 2 ∧ vN t k < n ∧ kK t (k + 1) = 11 ∧ kK t (k + 2) = 2 ∧ vN t k ≤ vN t (k + 2) ∧ vN t (k + 2) < n := by
  unfold spC at h
  by_cases e1 : kK t k ≠ 2
  · rw [if_pos e1] at h; injection h with h; cases h
  rw [if_neg e1] at h
  by_cases e2 : ¬ vN t k < n
  · rw [if_pos e2] at h; injection h with h; cases h
  rw [if_neg e2] at h
  by_cases e3 : kK t (k + 1) ≠ 11
  · rw [if_pos e3] at h; injection h with h; cases h
  rw [if_neg e3] at h
  by_cases e4 : kK t (k + 2) ≠ 2
  · rw [if_pos e4] at h; injection h with h; cases h
  rw [if_neg e4] at h
  by_cases e5 : ¬ (vN t k ≤ vN t (k + 2) ∧ vN t (k + 2) < n)
  · rw [if_pos e5] at h; injection h with h; cases h
  omega
theorem sx_span {t : TK} {x : xs_St} {k n : Nat} {K : Int32 → xs_St → Prop} {K' : Int32 → Int32 → xs_St → Prop} (hA : kA t) (hc : cX t x k) (h400 : xi x 400 = nI n) (hn : 4 ≤ n ∧ n ≤ 48)
    (h1 : spC t k n = (0, 0) → ∀ y, xh [205, 207] [] [] x y → cX t y (k + 3) → K' (nI (vN t k)) (nI (vN t (k + 2))) y)
    (h0 : ∀ y kd kp, spC t k n = (kd, kp) → (1 ≤ kd ∧ kd ≤ 4) → xh [205, 207, 212, 213] [] [] x y → xi y 212 = nI kd → xi y 213 = nI (kP t kp) → K 0 y) : X_RD_takeNumber (0 : Int32) ((xi x 400) - (1 : Int32)) x (fun r_2 u_1 => ((¬ r_2 = 0 → X_RD_take (some 11) u_1 (fun r_4 u_3 => ((r_4 = 0 → (((0 : Int32) = 0 ∨ (0 : Int32) = 1) ∧ K (0 : Int32) u_3)) ∧ (¬ r_4 = 0 → X_RD_takeNumber (xi u_1 207) ((xi u_3 400) - (1 : Int32)) u_3 (fun r_6 u_5 => ((¬ r_6 = 0 → K' (xi u_1 207) (xi u_5 207) u_5) ∧ (r_6 = 0 → (((0 : Int32) = 0 ∨ (0 : Int32) = 1) ∧ K (0 : Int32) u_5)))))))) ∧ (r_2 = 0 → (((0 : Int32) = 0 ∨ (0 : Int32) = 1) ∧ K (0 : Int32) u_1)))) := by
  rw [h400]
  refine sx_num (lo := 0) (hi := (n : Int) - 1) hA hc (by decide) (n_1 hn.2) (fun q v ev hv _ hhi u1 f1 c1 e207 => ⟨fun _ => ?_, fun g => absurd g (by decide)⟩) (fun q y yf => ⟨fun g => absurd rfl g, fun _ => ⟨n010, h0 y 1 k (by unfold spC; rw [if_pos q]) (by omega) (xh_w yf.1 (by decide) (by decide) (by decide)) yf.2.1 yf.2.2⟩⟩) (fun q v ev hv hno y yf => ⟨fun g => absurd rfl g, fun _ => ⟨n010, h0 y 2 k ?_ (by omega) (xh_w yf.1 (by decide) (by decide) (by decide)) yf.2.1 yf.2.2⟩⟩)
  · have ev1 := vN_e ev hv
    refine sx_take (w := 11) hA c1 (by decide) (fun q2 u3 f3 c3 => ⟨fun g => absurd g (by decide), fun _ => ?_⟩) (fun q2 y yf => ⟨fun _ => ⟨n010, h0 y 1 (k + 1) (by unfold spC; rw [if_neg (by omega), if_neg (by omega), if_pos q2]) (by omega) (xh_t (xh_w f1 (by decide) (by decide) (by decide)) (xh_w yf.1 (by decide) (by decide) (by decide))) yf.2.1 yf.2.2⟩, fun g => absurd rfl g⟩)
    have c3 : cX t u3 (k + 2) := c3
    have e400 : xi u3 400 = nI n := by rw [f3.1 400 (by decide), f1.1 400 (by decide)]; exact h400
    have f13 : xh [205, 207] [] [] x u3 := xh_t f1 (xh_w f3 (by decide) (by decide) (by decide))
    rw [e207, e400]
    refine sx_num (lo := (v : Int)) (hi := (n : Int) - 1) hA c3 (ti_nI (by omega)) (n_1 hn.2) (fun q3 v2 ev2 hv2 hlo hhi2 u5 f5 c5 e207' => ⟨fun _ => ?_, fun g => absurd g (by decide)⟩) (fun q3 y yf => ⟨fun g => absurd rfl g, fun _ => ⟨n010, h0 y 1 (k + 2) (by unfold spC; rw [if_neg (by omega), if_neg (by omega), if_neg (by omega), if_pos q3]) (by omega) (xh_t (xh_w f13 (by decide) (by decide) (by decide)) (xh_w yf.1 (by decide) (by decide) (by decide))) yf.2.1 yf.2.2⟩⟩) (fun q3 v2 ev2 hv2 hno y yf => ⟨fun g => absurd rfl g, fun _ => ⟨n010, h0 y 2 (k + 2) ?_ (by omega) (xh_t (xh_w f13 (by decide) (by decide) (by decide)) (xh_w yf.1 (by decide) (by decide) (by decide))) yf.2.1 yf.2.2⟩⟩)
    · have ev2' := vN_e ev2 hv2
      rw [e207', ← ev1, ← ev2']
      exact h1 (by unfold spC; rw [if_neg (by omega), if_neg (by omega), if_neg (by omega), if_neg (by omega), if_neg (by omega)]) u5 (xh_t f13 f5) c5
    · have ev2' := vN_e ev2 hv2
      unfold spC; rw [if_neg (by omega), if_neg (by omega), if_neg (by omega), if_neg (by omega), if_pos (by omega)]
  · have ev1 := vN_e ev hv
    unfold spC; rw [if_neg (by omega), if_pos (by omega)]
theorem mx_118 {t : TK} {x : xs_St} {u0 u : th_St} {k o S n A : Nat} {c h : Int32} {K : Int32 → th_St → Prop} (hA : kA t) (hk : k ≤ kT t) (hn : 4 ≤ n ∧ n ≤ 48) (hB : lB t x u0 u k o S n A)
    (h1 : spC t k n = (0, 0) → ∀ u7, lB t x u0 u7 (k + 3) o S n A → u7.1 33 = nI (vN t (k + 2)) → ∃ j, M_line_172_lp K j c h (nI (vN t k)) u7)
    (h0 : ∀ z kd kp, spC t k n = (kd, kp) → 1 ≤ kd → gB u0 z kd (kP t kp) → K 0 z) : M_line_118 K c h u := by
  have e11 : ∀ w : th_St, w.2.2.1 11 1 = nI n → ∀ y : Int32, y = w.2.2.1 11 ((1 : Int32)).toNatClampNeg → y = nI n := fun w hw y e => by rw [e]; exact hw
  unfold M_line_118 M_line_167
  refine ⟨vp_in_nI (n := 1) (by omega) (by omega), fun y1 e1 => ?_⟩
  have e1 := e11 u hB.2.2.2.2.1 y1 e1
  subst e1
  refine mx_tks (lo := 0) (hi := (n : Int) - 1) hA hk hB.2.1 (by decide) (n_1 hn.2) (fun q v ev hv _ hhi u1 f1 c1 e33 => ⟨fun _ => ?_, fun g => absurd g (by decide)⟩) (fun q z hz => ⟨fun g => absurd rfl g, fun _ => ⟨n010, h0 z 1 k (by unfold spC; rw [if_pos q]) (by omega) (gB_f hB.1 hz)⟩⟩) (fun q v ev hv hno z hz => ⟨fun g => absurd rfl g, fun _ => ⟨n010, h0 z 2 k ?_ (by omega) (gB_f hB.1 hz)⟩⟩)
  · have ev1 := vN_e ev hv
    have hlt := kA_l hA hk (by omega)
    have B1 := lB_n (y := x) hB (xh_r (I := []) x) (by decide) f1 c1
    refine mx_tkW hA (show k + 1 ≤ kT t by omega) c1 (w := 11) (by decide) (by decide) (by decide) (fun q2 u4 f4 c4 => ⟨fun g => absurd g (by decide), fun _ => ?_⟩) (fun q2 z hz => ⟨fun _ => ⟨n010, h0 z 1 (k + 1) (by unfold spC; rw [if_neg (by omega), if_neg (by omega), if_pos q2]) (by omega) (gB_f B1.1 hz)⟩, fun g => absurd rfl g⟩)
    have hlt2 := kA_l hA (show k + 1 ≤ kT t by omega) (by omega)
    have c4 : cM t u4 (k + 2) := c4
    have B4 := lB_n (y := x) B1 (xh_r (I := []) x) (by decide) (mf_w f4 (by decide) (by decide) (by decide)) c4
    refine ⟨vp_in_nI (n := 1) (by omega) (by omega), fun y6 e6 => ?_⟩
    have e6 := e11 u4 B4.2.2.2.2.1 y6 e6
    subst e6
    rw [e33]
    refine mx_tks (lo := (v : Int)) (hi := (n : Int) - 1) hA (show k + 2 ≤ kT t by omega) c4 (ti_nI (by omega)) (n_1 hn.2) (fun q3 v2 ev2 hv2 hlo hhi2 u7 f7 c7 e33' => ⟨fun _ => ?_, fun g => absurd g (by decide)⟩) (fun q3 z hz => ⟨fun g => absurd rfl g, fun _ => ⟨n010, h0 z 1 (k + 2) (by unfold spC; rw [if_neg (by omega), if_neg (by omega), if_neg (by omega), if_pos q3]) (by omega) (gB_f B4.1 hz)⟩⟩) (fun q3 v2 ev2 hv2 hno z hz => ⟨fun g => absurd rfl g, fun _ => ⟨n010, h0 z 2 (k + 2) ?_ (by omega) (gB_f B4.1 hz)⟩⟩)
    · have ev2' := vN_e ev2 hv2
      have B7 := lB_n (y := x) B4 (xh_r (I := []) x) (by decide) f7 c7
      rw [← ev1]
      exact h1 (by unfold spC; rw [if_neg (by omega), if_neg (by omega), if_neg (by omega), if_neg (by omega), if_neg (by omega)]) u7 B7 (by rw [e33', ev2'])
    · have ev2' := vN_e ev2 hv2
      unfold spC; rw [if_neg (by omega), if_neg (by omega), if_neg (by omega), if_neg (by omega), if_pos (by omega)]
  · have ev1 := vN_e ev hv
    unfold spC; rw [if_neg (by omega), if_pos (by omega)]
theorem sx_hasFB {x : xs_St} {n i : Nat} {K : Int32 → xs_St → Prop} (h400 : xi x 400 = nI n) (hn : n ≤ 48) (hi : i < n) (h : K 1 x) : X_T_hasFoot_B (nI i) x K := by
  unfold X_T_hasFoot_B X_T_hasFoot_B_16 X_T_hasFoot_B_17
  have c0 : (nI i < (0 : Int32)) = (i < 0) := ni_lt (b := 0) (by omega) (by omega)
  rw [c0, h400, ni_le (by omega) (by omega)]
  exact ⟨fun g => by omega, fun _ => ⟨fun g => by omega, fun _ => ⟨n011, h⟩⟩⟩
theorem sx_fixB {x : xs_St} {n a b : Nat} {K : xs_St → Prop} (h400 : xi x 400 = nI n) (hn : n ≤ 48) (hab : a ≤ b) (hb : b < n) (h : ∀ y, xh [] [407] [] x y → y.2.1 = x.2.1 → (∀ i, xa y 407 i = if a ≤ i ∧ i ≤ b then 1 else xa x 407 i) → K y) : X_T_fix_B (nI a) (nI b) x K := by
  unfold X_T_fix_B
  refine lqe3 (F := X_T_fix_B_2_lp K) (G := X_T_fix_B_2 K) (fun _ _ _ _ => rfl) (fun d a1 a2 u => a1 = nI b ∧ xh [] [407] [] x u ∧ u.2.1 = x.2.1 ∧ ∃ i, a2 = nI i ∧ a ≤ i ∧ i + d = b + 1 ∧ (∀ j, xa u 407 j = if a ≤ j ∧ j < i then 1 else xa x 407 j)) ?_ (b + 1 - a) _ _ _ ⟨rfl, xh_r x, rfl, a, rfl, Nat.le_refl _, by omega, fun j => by rw [if_neg (by omega)]⟩
  rintro kk d a1 a2 u ⟨rfl, uf, ur, i, rfl, hai, hid, hV⟩ ih
  unfold X_T_fix_B_2 X_T_fix_B_28
  rw [ni_lt (by omega) (by omega)]
  refine br1 (fun q => h u uf ur (fun j => ?_)) (fun q => ?_)
  · rw [hV j]
    by_cases e : a ≤ j ∧ j ≤ b
    · rw [if_pos e, if_pos (by omega)]
    · rw [if_neg e, if_neg (by omega)]
  · refine sx_hasFB (by rw [uf.1 400 (by decide)]; exact h400) hn (by omega) ⟨fun g => absurd g (by decide), fun _ => ⟨vp_in_nI (by omega) (by omega), fun u3 e3 x3 ex3 => ?_⟩⟩
    rw [ni_cl (by omega)] at e3
    subst ex3
    refine ih (d - 1) _ _ _ (by omega) ⟨rfl, by rw [e3]; exact xh_a (by decide) uf, by rw [e3]; exact ur, i + 1, nI_1 i, by omega, by omega, fun j => ?_⟩
    rw [e3, xq_sa, if_pos rfl]
    by_cases e : j = i
    · subst e; rw [pk_us, if_pos (by omega)]; rfl
    · rw [pk_un e, hV j]
      by_cases e2 : a ≤ j ∧ j < i
      · rw [if_pos e2, if_pos (by omega)]
      · rw [if_neg e2, if_neg (by omega)]
theorem sx_hldB {x : xs_St} {n a b : Nat} {m : Int32} {K : xs_St → Prop} (h400 : xi x 400 = nI n) (hn : n ≤ 48) (hab : a ≤ b) (hb : b < n) (h : ∀ y, xh [] [408] [] x y → y.2.1 = x.2.1 → (∀ i, xa y 408 i = if a ≤ i ∧ i ≤ b then m else xa x 408 i) → K y) : X_T_holdBy_B m (nI a) (nI b) x K := by
  unfold X_T_holdBy_B
  refine lqe4 (F := X_T_holdBy_B_3_lp K) (G := X_T_holdBy_B_3 K) (fun _ _ _ _ _ => rfl) (fun d a0 a1 a2 u => a0 = m ∧ a1 = nI b ∧ xh [] [408] [] x u ∧ u.2.1 = x.2.1 ∧ ∃ i, a2 = nI i ∧ a ≤ i ∧ i + d = b + 1 ∧ (∀ j, xa u 408 j = if a ≤ j ∧ j < i then m else xa x 408 j)) ?_ (b + 1 - a) _ _ _ _ ⟨rfl, rfl, xh_r x, rfl, a, rfl, Nat.le_refl _, by omega, fun j => by rw [if_neg (by omega)]⟩
  rintro kk d a0 a1 a2 u ⟨rfl, rfl, uf, ur, i, rfl, hai, hid, hV⟩ ih
  unfold X_T_holdBy_B_3 X_T_holdBy_B_32
  rw [ni_lt (by omega) (by omega)]
  refine br1 (fun q => h u uf ur (fun j => ?_)) (fun q => ?_)
  · rw [hV j]
    by_cases e : a ≤ j ∧ j ≤ b
    · rw [if_pos e, if_pos (by omega)]
    · rw [if_neg e, if_neg (by omega)]
  · refine sx_hasFB (by rw [uf.1 400 (by decide)]; exact h400) hn (by omega) ⟨fun g => absurd g (by decide), fun _ => ⟨vp_in_nI (by omega) (by omega), fun u3 e3 x3 ex3 => ?_⟩⟩
    rw [ni_cl (by omega)] at e3
    subst ex3
    refine ih (d - 1) _ _ _ _ (by omega) ⟨rfl, rfl, by rw [e3]; exact xh_a (by decide) uf, by rw [e3]; exact ur, i + 1, nI_1 i, by omega, by omega, fun j => ?_⟩
    rw [e3, xq_sa, if_pos rfl]
    by_cases e : j = i
    · subst e; rw [pk_us, if_pos (by omega)]
    · rw [pk_un e, hV j]
      by_cases e2 : a ≤ j ∧ j < i
      · rw [if_pos e2, if_pos (by omega)]
      · rw [if_neg e2, if_neg (by omega)]
/-- the loop over the feet; g: 6 for fixed, 7 for holds -/
theorem mx_172 {u : th_St} {a b c g : Nat} {m : Int32} {K : Int32 → th_St → Prop} (h33 : u.1 33 = nI b) (hab : a ≤ b) (hb : b < 48) (hg : (c = 3 ∧ g = 6) ∨ (c = 4 ∧ g = 7)) (h : ∀ y, mf [] [g] [] u y → y.2.1 = u.2.1 → (∀ i, y.2.2.1 g i = if 48 + a ≤ i ∧ i ≤ 48 + b then (if c = 3 then 1 else m) else u.2.2.1 g i) → K 1 y) : ∃ j, M_line_172_lp K j (nI c) m (nI a) u := by
  refine lqe4 (F := M_line_172_lp K) (G := M_line_172 K) (fun _ _ _ _ _ => rfl) (fun d a0 a1 a2 v => a0 = nI c ∧ a1 = m ∧ mf [] [g] [] u v ∧ v.2.1 = u.2.1 ∧ ∃ i, a2 = nI i ∧ a ≤ i ∧ i + d = b + 1 ∧ (∀ j, v.2.2.1 g j = if 48 + a ≤ j ∧ j < 48 + i then (if c = 3 then 1 else m) else u.2.2.1 g j)) ?_ (b + 1 - a) _ _ _ _ ⟨rfl, rfl, mf_r u, rfl, a, rfl, Nat.le_refl _, by omega, fun j => by rw [if_neg (by omega)]⟩
  rintro kk d a0 a1 a2 v ⟨rfl, rfl, vf, vr, i, rfl, hai, hid, hV⟩ ih
  have v33 : v.1 33 = nI b := (vf.1 33 (by decide)).trans h33
  unfold M_line_172 M_line_211
  have c3 : (nI c = (3 : Int32)) = (c = 3) := c_lit (z := 3) (by omega) (by omega)
  rw [v33, ni_lt (by omega) (by omega), c3, show (48 : Int32) = nI 48 from rfl, nI_add]
  refine br1 (fun q => ⟨n011, h v vf vr (fun j => ?_)⟩) (fun q => ?_)
  · rw [hV j]
    by_cases e : 48 + a ≤ j ∧ j ≤ 48 + b
    · rw [if_pos e, if_pos (by omega)]
    · rw [if_neg e, if_neg (by omega)]
  · have go : ∀ w : Int32, w = (if c = 3 then 1 else a1) → ∀ u1, u1 = th_sa v g (upd (v.2.2.1 g) (48 + i) w) → ∀ x4, x4 = nI i + (1 : Int32) → kk (nI c) a1 x4 u1 := by
      intro w hw u1 e1 x4 e4
      subst e4
      refine ih (d - 1) _ _ _ _ (by omega) ⟨rfl, rfl, by rw [e1]; exact mf_a (by simp) vf, by rw [e1]; exact vr, i + 1, nI_1 i, by omega, by omega, fun j => ?_⟩
      rw [e1, tha_s]
      by_cases e : j = 48 + i
      · subst e; rw [pk_us, if_pos (by omega)]; exact hw
      · rw [pk_un e, hV j]
        by_cases e2 : 48 + a ≤ j ∧ j < 48 + i
        · rw [if_pos e2, if_pos (show 48 + a ≤ j ∧ j < 48 + (i + 1) by omega)]
        · rw [if_neg e2, if_neg (by omega)]
    refine br2 (fun q3 => ⟨vp_in_nI (by omega) (by omega), fun u1 e1 x4 e4 => ?_⟩) (fun q3 => ⟨vp_in_nI (by omega) (by omega), fun u1 e1 x4 e4 => ?_⟩)
    · rw [ni_cl (by omega)] at e1
      have : g = 7 := by omega
      subst this
      exact go a1 (by rw [if_neg q3]) u1 e1 x4 e4
    · rw [ni_cl (by omega)] at e1
      have : g = 6 := by omega
      subst this
      exact go 1 (by rw [if_pos q3]) u1 e1 x4 e4
/-- an array of feet written on both sides -/
theorem lB_w {t : TK} {x y : xs_St} {u0 u v : th_St} {k o S n A a b c g f : Nat} {m : Int32} (hB : lB t x u0 u k o S n A) (hgf : (c = 3 ∧ g = 6 ∧ f = 407) ∨ (c = 4 ∧ g = 7 ∧ f = 408)) (yf : xh [] [f] [] x y) (hy : ∀ i, xa y f i = if a ≤ i ∧ i ≤ b then m else xa x f i) (vf : mf [] [g] [] u v) (vr : v.2.1 = u.2.1) (hv : ∀ i, v.2.2.1 g i = if 48 + a ≤ i ∧ i ≤ 48 + b then m else u.2.2.1 g i) : lB t y u0 v k o S n A := by
  obtain ⟨b1, b2, b3, b4, b5, b6, b7, b8, b9, b10, b11⟩ := hB
  have vn : ∀ j, j ≠ g → v.2.2.1 j = u.2.2.1 j := fun j hj => vf.2.1 j (by simp; exact hj)
  have yn : ∀ j, j ≠ f → xa y j = xa x j := fun j hj => yf.2.1 j (by simp; exact hj)
  have lz1 : lz u v := fun s _ => by rw [vn 16 (by omega), vn 17 (by omega), vn 18 (by omega), vn 19 (by omega)]; exact ⟨rfl, rfl, rfl, rfl⟩
  have lowg : ∀ i, i < 48 → v.2.2.1 g i = u.2.2.1 g i := fun i hi => by rw [hv i, if_neg (by omega)]
  have l1 : lL u v := by
    refine ⟨fun i hi => ?_, fun i _ => by rw [vn 8 (by omega), vn 9 (by omega), vn 10 (by omega)]; exact ⟨rfl, rfl, rfl⟩, by rw [vn 11 (by omega), vn 12 (by omega), vn 13 (by omega), vn 14 (by omega), vn 15 (by omega)]; exact ⟨rfl, rfl, rfl, rfl, rfl⟩, lz1⟩
    rcases hgf with ⟨-, rfl, -⟩ | ⟨-, rfl, -⟩
    · exact ⟨lowg i hi, by rw [vn 7 (by omega)]⟩
    · exact ⟨by rw [vn 6 (by omega)], lowg i hi⟩
  refine ⟨fL_t b1 vf l1 (by decide) (by simp; omega) (by decide), cM_f b2 vf vr (by decide) (by simp; omega), (vf.1 23 (by decide)).trans b3, (vf.1 21 (by decide)).trans b4, by rw [vn 11 (by omega)]; exact b5, prM_x (prM_u b6 (fun s _ => by rw [vn 16 (by omega), vn 17 (by omega), vn 18 (by omega), vn 19 (by omega)]; exact ⟨rfl, rfl, rfl, rfl⟩)) (exX_h yf (by simp; omega) (by decide)), ?_, fun i hi => ?_, ?_, ?_, ?_⟩
  · unfold alM alF enF at *
    rw [vn 15 (by omega), vn 10 (by omega), vn 9 (by omega), vn 8 (by omega), yn 409 (by omega), yn 410 (by omega)]; exact b7
  · have hh := b8 i hi
    have hgv : ∀ w : Int32, u.2.2.1 g (48 + i) = w → v.2.2.1 g (48 + i) = (if a ≤ i ∧ i ≤ b then m else w) := fun w hw => by
      rw [hv (48 + i)]
      by_cases e : a ≤ i ∧ i ≤ b
      · rw [if_pos e, if_pos (by omega)]
      · rw [if_neg e, if_neg (by omega)]; exact hw
    rcases hgf with ⟨-, rfl, rfl⟩ | ⟨-, rfl, rfl⟩
    · exact ⟨by rw [hgv _ hh.1, hy i], by rw [vn 7 (by omega), yn 408 (by omega)]; exact hh.2⟩
    · exact ⟨by rw [vn 6 (by omega), yn 407 (by omega)]; exact hh.1, by rw [hgv _ hh.2, hy i]⟩
  · rw [vn 12 (by omega), yf.1 401 (by decide)]; exact b9
  · rw [vn 13 (by omega), yf.1 402 (by decide)]; exact b10
  · rw [vn 14 (by omega), yf.1 403 (by decide)]; exact b11
theorem gL_w {t : TK} {x y : xs_St} {k o S n A f : Nat} (h : gL t x k o S n A) (hf : f = 407 ∨ f = 408) (yf : xh [] [f] [] x y) (yr : y.2.1 = x.2.1) (hv : vR y) : gL t y k o S n A := by
  obtain ⟨⟨g1, g2, g3, g4, g5, g6, g7, g8⟩, h2, h3, -⟩ := h
  have yn : ∀ j, j ≠ f → xa y j = xa x j := fun j hj => yf.2.1 j (by simp; exact hj)
  refine ⟨⟨cX_h g1 yf (by unfold xr; rw [yr]) (by decide) (by simp; omega) (by decide), (yf.1 208 (by decide)).trans g2, g3, (yf.1 406 (by decide)).trans g4, g5, (yf.1 400 (by decide)).trans g6, g7, vX_e g8 (exX_h yf (by simp; omega) (by decide))⟩, al_n h2 (yf.1 405 (by decide)) (yn 409 (by omega)) (yn 410 (by omega)) (yf.2.2.2.2.1 411 (by decide)), ?_, hv⟩
  unfold enF at *; rw [yn 410 (by omega)]; exact h3
theorem rd_fixed {t : TK} {x : xs_St} {k o S n A : Nat} {KX : Int32 → xs_St → Prop} (hA : kA t) (hg : gL t x k o S n A)
    (kok : ∀ y k', gL t y k' o S n A → xh [205, 207] [407, 408] [] x y → k < k' → siL t x y k o S A k' o S A n 3 → KX 1 y)
    (kbad : ∀ y kd pl, xT x y → (1 ≤ kd ∧ kd ≤ 4) → xi y 212 = nI kd → xi y 213 = nI pl → siLb t x k o S A n 3 kd pl → KX 0 y) : X_RD_readFixed x KX := by
  have gc := hg.1.1
  have hkT := gc.2.2.2
  have h400 := hg.1.2.2.2.2.2.1
  have g7 := hg.1.2.2.2.2.2.2.1
  have mline : ∀ (K : Int32 → th_St → Prop) u, M_line_118 K (nI 3) 0 u → M_line (nI 3) u K := fun K u h => by
    unfold M_line
    exact ⟨fun _ => ⟨fun _ => ⟨fun _ => h, fun g => absurd g (by decide)⟩, fun g => absurd g (by decide)⟩, fun g => absurd (by decide) g⟩
  unfold X_RD_readFixed X_RD_readFixed_51
  refine sx_span (K' := fun a b u => X_T_fix_B a b u (fun u_7 => (((1 : Int32) = 0 ∨ (1 : Int32) = 1) ∧ KX (1 : Int32) u_7))) hA gc h400 g7 (fun hsp y yf yc => ?_) (fun y kd kp hsp hkd yf y212 y213 => ?_)
  · obtain ⟨s1, s2, s3, s4, s5, s6⟩ := spC_0 hsp
    have gy := gL_n hg yf (by decide) yc
    refine sx_fixB gy.1.2.2.2.2.2.1 g7.2 s5 s6 (fun z zf zr zV => ⟨n011, ?_⟩)
    refine kok z (k + 3) (gL_w gy (Or.inl rfl) zf zr ⟨fun i hi => ?_, by rw [zf.1 403 (by decide)]; exact gy.2.2.2.2⟩) (xh_t (xh_w yf (by decide) (by decide) (by decide)) (xh_w zf (by decide) (by decide) (by decide))) (by omega) ?_
    · have hv := gy.2.2.2.1 i hi
      rw [zf.2.1 408 (by decide), zV i]
      refine ⟨?_, hv.2⟩
      by_cases e : vN t k ≤ i ∧ i ≤ vN t (k + 2)
      · rw [if_pos e]; exact Or.inr rfl
      · rw [if_neg e]; exact hv.1
    · intro K u0 u hB hK
      refine mline K u (mx_118 hA hkT g7 hB (fun _ u7 B7 e33 => ?_) (fun z kd kp hsp2 hkd => ?_))
      · refine mx_172 (g := 6) (c := 3) e33 s5 (by omega) (Or.inl ⟨rfl, rfl⟩) (fun v vf vr vV => hK v ?_)
        have B7' : lB t y u0 u7 (k + 3) o S n A := lB_n B7 yf (by decide) (mf_r u7) B7.2.1
        exact lB_w (m := 1) (c := 3) B7' (Or.inl ⟨rfl, rfl, rfl⟩) zf zV vf vr vV
      · rw [hsp] at hsp2
        injection hsp2 with e1 e2
        omega
  · refine kbad y kd (kP t kp) (xh_w yf (by decide) (by decide) (by decide)) hkd y212 y213 ?_
    intro K u0 u hB hK
    refine mline K u (mx_118 hA hkT g7 hB (fun hsp2 => ?_) (fun z kd' kp' hsp2 hkd' hz => hK z ?_))
    · rw [hsp] at hsp2
      injection hsp2 with e1 e2
      omega
    · rw [hsp] at hsp2
      injection hsp2 with e1 e2
      rw [e1, e2]; exact hz
theorem rd_holds {t : TK} {x : xs_St} {k o S n A : Nat} {KX : Int32 → xs_St → Prop} (hA : kA t) (hg : gL t x k o S n A)
    (kok : ∀ y k', gL t y k' o S n A → xh [205, 207] [407, 408] [] x y → k < k' → siL t x y k o S A k' o S A n 4 → KX 1 y)
    (kbad : ∀ y kd pl, xT x y → (1 ≤ kd ∧ kd ≤ 4) → xi y 212 = nI kd → xi y 213 = nI pl → siLb t x k o S A n 4 kd pl → KX 0 y) : X_RD_readHolds x KX := by
  have gc := hg.1.1
  have hkT := gc.2.2.2
  have g7 := hg.1.2.2.2.2.2.2.1
  have mline : ∀ (K : Int32 → th_St → Prop) u, M_takes (1 : Int32) (99 : Int32) u (fun r_2 u_1 => ((¬ r_2 = 0 → M_takesWord (1718775661 : Int64) u_1 (fun r_4 u_3 => ((¬ r_4 = 0 → M_line_118 K (nI 4) (u_1.1 33) u_3) ∧ (r_4 = 0 → (((0 : Int32) = 0 ∨ (0 : Int32) = 1) ∧ K (0 : Int32) u_3))))) ∧ (r_2 = 0 → (((0 : Int32) = 0 ∨ (0 : Int32) = 1) ∧ K (0 : Int32) u_1)))) → M_line (nI 4) u K := fun K u h => by
    unfold M_line
    exact ⟨fun _ => ⟨fun _ => ⟨fun g => absurd (by decide) g, fun _ => h⟩, fun g => absurd g (by decide)⟩, fun g => absurd (by decide) g⟩
  unfold X_RD_readHolds X_RD_readHolds_44 X_RD_readHolds_78
  refine sx_num (lo := 1) (hi := 99) hA gc (by decide) (by decide) (fun q v ev hv hlo hhi x1 f1 c1 e207 => ⟨fun _ => ?_, fun g => absurd g (by decide)⟩) (fun q y yf => ⟨fun g => absurd rfl g, fun _ => ⟨n010, ?_⟩⟩) (fun q v ev hv hno y yf => ⟨fun g => absurd rfl g, fun _ => ⟨n010, ?_⟩⟩)
  · have hlt := kA_l hA hkT (by omega)
    have first : ∀ (K : Int32 → th_St → Prop) u0 u, lB t x u0 u k o S n A → (∀ u1, lB t x1 u0 u1 (k + 1) o S n A → M_takesWord (1718775661 : Int64) u1 (fun r_4 u_3 => ((¬ r_4 = 0 → M_line_118 K (nI 4) (nI v) u_3) ∧ (r_4 = 0 → (((0 : Int32) = 0 ∨ (0 : Int32) = 1) ∧ K (0 : Int32) u_3))))) → M_line (nI 4) u K := by
      intro K u0 u hB h
      refine mline K u (mx_tks (lo := 1) (hi := 99) hA hkT hB.2.1 (by decide) (by decide) (fun _ v' ev' hv' _ _ u1 g1 d1 e33 => ⟨fun _ => ?_, fun g => absurd g (by decide)⟩) (fun q' => absurd q q') (fun _ v' ev' hv' hno' => ?_))
      · have evv := nI_inj (by omega) (by omega) (ev'.symm.trans ev)
        subst evv
        rw [e33]
        exact h u1 (lB_n hB f1 (by decide) g1 d1)
      · have evv := nI_inj (by omega) (by omega) (ev'.symm.trans ev)
        subst evv
        exact absurd ⟨hlo, hhi⟩ hno'
    refine sx_take (w := 13) hA c1 (by decide) (fun q2 x3 f3 c3 => ⟨fun g => absurd g (by decide), fun _ => ?_⟩) (fun q2 y yf => ⟨fun _ => ⟨n010, ?_⟩, fun g => absurd rfl g⟩)
    · have hlt2 := kA_l hA (show k + 1 ≤ kT t by omega) (by omega)
      have c3 : cX t x3 (k + 2) := c3
      have f13 : xh [205, 207] [] [] x x3 := xh_t f1 (xh_w f3 (by decide) (by decide) (by decide))
      have g3 := gL_n hg f13 (by decide) c3
      have second : ∀ (K : Int32 → th_St → Prop) u0 u, lB t x u0 u k o S n A → (∀ u3, lB t x3 u0 u3 (k + 2) o S n A → M_line_118 K (nI 4) (nI v) u3) → M_line (nI 4) u K := by
        intro K u0 u hB h
        refine first K u0 u hB (fun u1 B1 => ?_)
        refine mx_tkW hA (show k + 1 ≤ kT t by omega) B1.2.1 (w := 13) (by decide) (by decide) (by decide) (fun _ u3 g3' d3 => ⟨fun _ => ?_, fun g => absurd g (by decide)⟩) (fun q' => absurd q2 q')
        exact h u3 (lB_n B1 f3 (by decide) (mf_w g3' (by decide) (by decide) (by decide)) d3)
      rw [e207]
      refine sx_span (k := k + 2) (K' := fun a b u => X_T_holdBy_B (nI v) a b u (fun u_11 => (((1 : Int32) = 0 ∨ (1 : Int32) = 1) ∧ KX (1 : Int32) u_11))) hA c3 g3.1.2.2.2.2.2.1 g7 (fun hsp y yf yc => ?_) (fun y kd kp hsp hkd yf y212 y213 => ?_)
      · obtain ⟨s1, s2, s3, s4, s5, s6⟩ := spC_0 hsp
        have gy := gL_n g3 yf (by decide) yc
        refine sx_hldB gy.1.2.2.2.2.2.1 g7.2 s5 s6 (fun z zf zr zV => ⟨n011, ?_⟩)
        refine kok z (k + 5) (gL_w gy (Or.inr rfl) zf zr ⟨fun i hi => ?_, by rw [zf.1 403 (by decide)]; exact gy.2.2.2.2⟩) (xh_t (xh_w f13 (by decide) (by decide) (by decide)) (xh_t (xh_w yf (by decide) (by decide) (by decide)) (xh_w zf (by decide) (by decide) (by decide)))) (by omega) ?_
        · have hv' := gy.2.2.2.1 i hi
          rw [zf.2.1 407 (by decide), zV i]
          refine ⟨hv'.1, ?_⟩
          by_cases e : vN t (k + 2) ≤ i ∧ i ≤ vN t (k + 2 + 2)
          · rw [if_pos e, ti_nI (by omega)]; omega
          · rw [if_neg e]; exact hv'.2
        · intro K u0 u hB hK
          refine second K u0 u hB (fun u3 B3 => ?_)
          refine mx_118 hA c3.2.2.2 g7 B3 (fun _ u7 B7 e33 => ?_) (fun z kd kp hsp2 hkd => ?_)
          · refine mx_172 (g := 7) (c := 4) e33 s5 (by omega) (Or.inr ⟨rfl, rfl⟩) (fun w wf wr wV => hK w ?_)
            have B7' : lB t y u0 u7 (k + 2 + 3) o S n A := lB_n B7 yf (by decide) (mf_r u7) B7.2.1
            exact lB_w (m := nI v) (c := 4) B7' (Or.inr ⟨rfl, rfl, rfl⟩) zf zV wf wr wV
          · rw [hsp] at hsp2
            injection hsp2 with e1 e2
            omega
      · refine kbad y kd (kP t kp) (xh_t (xh_w f13 (by decide) (by decide) (by decide)) (xh_w yf (by decide) (by decide) (by decide))) hkd y212 y213 ?_
        intro K u0 u hB hK
        refine second K u0 u hB (fun u3 B3 => ?_)
        refine mx_118 hA c3.2.2.2 g7 B3 (fun hsp2 => ?_) (fun z kd' kp' hsp2 hkd' hz => hK z ?_)
        · rw [hsp] at hsp2
          injection hsp2 with e1 e2
          omega
        · rw [hsp] at hsp2
          injection hsp2 with e1 e2
          rw [e1, e2]; exact hz
    · refine kbad y 1 (kP t (k + 1)) (xh_t (xh_w f1 (by decide) (by decide) (by decide)) (xh_w yf.1 (by decide) (by decide) (by decide))) (by omega) yf.2.1 yf.2.2 ?_
      intro K u0 u hB hK
      refine first K u0 u hB (fun u1 B1 => ?_)
      exact mx_tkW hA (show k + 1 ≤ kT t by omega) B1.2.1 (w := 13) (by decide) (by decide) (by decide) (fun q' => absurd q' q2) (fun _ z hz => ⟨fun g => absurd rfl g, fun _ => ⟨n010, hK z (gB_f B1.1 hz)⟩⟩)
  · refine kbad y 1 (kP t k) (xh_w yf.1 (by decide) (by decide) (by decide)) (by omega) yf.2.1 yf.2.2 ?_
    intro K u0 u hB hK
    exact mline K u (mx_tks (lo := 1) (hi := 99) hA hkT hB.2.1 (by decide) (by decide) (fun q' => absurd q' q) (fun _ z hz => ⟨fun g => absurd rfl g, fun _ => ⟨n010, hK z (gB_f hB.1 hz)⟩⟩) (fun q' => absurd q' q))
  · refine kbad y 2 (kP t k) (xh_w yf.1 (by decide) (by decide) (by decide)) (by omega) yf.2.1 yf.2.2 ?_
    intro K u0 u hB hK
    refine mline K u (mx_tks (lo := 1) (hi := 99) hA hkT hB.2.1 (by decide) (by decide) (fun _ v' ev' hv' h1 h2 => ?_) (fun q' => absurd q q') (fun _ v' ev' hv' _ z hz => ⟨fun g => absurd rfl g, fun _ => ⟨n010, hK z (gB_f hB.1 hz)⟩⟩))
    have evv := nI_inj (by omega) (by omega) (ev'.symm.trans ev)
    subst evv
    exact absurd ⟨h1, h2⟩ hno

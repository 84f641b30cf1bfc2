/-! alarms: the class -/
section
variable {x : xs_St} {n : Nat} {fx : Nat → Bool} {hd : Nat → Int} {N : Nat} {eh ed er ea : Nat → Nat} {rd wd : Nat → Nat → Int} {P : Nat → List Nat} {pg sg nb ft al en : Nat → Nat} {c j s S : Nat} {js : List Nat}
theorem msr_b (hh : ∀ i, i < n → 1 ≤ hd i) (hr : ∀ j i, -99 ≤ rd j i ∧ rd j i ≤ 99) (hn : n ≤ 48) (hl : js.length ≤ 40) (hft : pg s = 4 → ft s < n) (hk : pg s ≤ 4) : msr n fx hd rd pg ft js s ≤ 1000000 := by
  have hb : ∀ i, i < n → flL n fx hd rd js i ≤ 16000 := fun i hi => flL_b hh hr hl hi
  have h1 := mxT_b n hb
  have h2 := fsT_bd n hb
  have h3 : n * 16000 ≤ 48 * 16000 := Nat.mul_le_mul_right _ hn
  have h4 := flG_c (n := n) (fx := fx) (hd := hd) (rd := rd) js
  unfold msr
  by_cases e0 : pg s = 0
  · rw [if_pos e0]; omega
  rw [if_neg e0]
  by_cases e1 : pg s = 1
  · rw [if_pos e1]; omega
  rw [if_neg e1]
  by_cases e2 : pg s = 2
  · rw [if_pos e2]; omega
  rw [if_neg e2]
  by_cases e3 : pg s = 3
  · rw [if_pos e3]; omega
  rw [if_neg e3]
  have := hb (ft s) (hft (by omega))
  omega
theorem sx_meas {K : Int32 → xs_St → Prop} (hlg : lgX x n N eh ed er ea rd wd) (htr : trX x n fx hd N eh er rd P) (hc : xd_is x c 3) (hP : P c = j :: js) (hpg : pgX x 0 n S pg sg nb ft) (hs : s < S) (hk : pg s ≤ 4) (hn : n ≤ 48) (hh : ∀ i, i < n → 1 ≤ hd i) (h : K (nI (msr n fx hd rd pg ft (j :: js) s)) x) : X_T_measure_A (nI s) (some c) x K := by
  have h80 := hpg.1
  have hv : vp_in (nI s) 80 := vp_in_nI (by omega) (by omega)
  have hcl : (nI s).toNatClampNeg = s := ni_cl (by omega)
  obtain ⟨-, q311, q⟩ := hpg.2 s hs
  have q := (q hk).2.2.2.2.2
  have hlen := ndX_l hlg (htr.2 c hc)
  rw [hP, List.length_cons] at hlen
  rcases (htr.2 c hc).2 with ⟨g1, -⟩ | ⟨j0, js0, a, arr, g1, g2, g3, g4, g5, g6, g7, g8, g9, g10, g11⟩
  · rw [hP] at g1; cases g1
  rw [hP] at g1
  injection g1 with g1a g1b
  subst g1a; subst g1b
  have step : ∀ (z : Nat) (y : Option Nat), tkK (pg s) = z → y = xo x 311 (nI s).toNatClampNeg → y = some z := fun z y ez e => by
    rw [e, hcl]
    exact q311.trans (by rw [ez])
  unfold X_T_measure_A X_T_measure_A_83
  unfold msr at h
  rcases (show pg s = 0 ∨ pg s = 1 ∨ pg s = 2 ∨ pg s = 3 ∨ pg s = 4 by omega) with e | e | e | e | e
  · have tk : tkK (pg s) = 22 := by rw [e]; rfl
    rw [if_pos e] at h
    refine ⟨hv, fun y1 e1 => ?_⟩
    have e1 := step 22 y1 tk e1
    subst e1
    exact ⟨fun g => absurd rfl g, fun _ => ⟨c, rfl, hc, by rw [g10]; exact h⟩⟩
  · have tk : tkK (pg s) = 23 := by rw [e]; rfl
    rw [if_neg (by omega), if_pos e] at h
    refine ⟨hv, fun y1 e1 => ?_⟩
    have e1 := step 23 y1 tk e1
    subst e1
    refine ⟨fun _ => ⟨hv, fun y2 e2 => ?_⟩, fun g => absurd g (by decide)⟩
    have e2 := step 23 y2 tk e2
    subst e2
    exact ⟨fun g => absurd rfl g, fun _ => ⟨c, rfl, hc, by rw [g11]; exact h⟩⟩
  · have tk : tkK (pg s) = 24 := by rw [e]; rfl
    rw [if_neg (by omega), if_neg (by omega), if_pos e] at h
    refine ⟨hv, fun y1 e1 => ?_⟩
    have e1 := step 24 y1 tk e1
    subst e1
    refine ⟨fun _ => ⟨hv, fun y2 e2 => ?_⟩, fun g => absurd g (by decide)⟩
    have e2 := step 24 y2 tk e2
    subst e2
    refine ⟨fun _ => ⟨hv, fun y3 e3 => ?_⟩, fun g => absurd g (by decide)⟩
    have e3 := step 24 y3 tk e3
    subst e3
    exact ⟨fun g => absurd rfl g, fun _ => ⟨c, rfl, hc, by rw [g9]; exact h⟩⟩
  · have tk : tkK (pg s) = 25 := by rw [e]; rfl
    rw [if_neg (by omega), if_neg (by omega), if_neg (by omega), if_pos e] at h
    refine ⟨hv, fun y1 e1 => ?_⟩
    have e1 := step 25 y1 tk e1
    subst e1
    refine ⟨fun _ => ⟨hv, fun y2 e2 => ?_⟩, fun g => absurd g (by decide)⟩
    have e2 := step 25 y2 tk e2
    subst e2
    refine ⟨fun _ => ⟨hv, fun y3 e3 => ?_⟩, fun g => absurd g (by decide)⟩
    have e3 := step 25 y3 tk e3
    subst e3
    refine ⟨fun _ => ⟨hv, fun y4 e4 => ?_⟩, fun g => absurd g (by decide)⟩
    have e4 := step 25 y4 tk e4
    subst e4
    have hl := hlg.2.2.1 j g2
    refine ⟨fun g => absurd rfl g, fun _ => ⟨c, rfl, hc, er j, g7, hl.2.1.1, ?_⟩⟩
    rw [hl.2.2.1, g3]
    rw [List.length_cons, Nat.add_sub_cancel] at h
    exact h
  · have tk : tkK (pg s) = 26 := by rw [e]; rfl
    rw [if_neg (by omega), if_neg (by omega), if_neg (by omega), if_neg (by omega)] at h
    refine ⟨hv, fun y1 e1 => ?_⟩
    have e1 := step 26 y1 tk e1
    subst e1
    refine ⟨fun _ => ⟨hv, fun y2 e2 => ?_⟩, fun g => absurd g (by decide)⟩
    have e2 := step 26 y2 tk e2
    subst e2
    refine ⟨fun _ => ⟨hv, fun y3 e3 => ?_⟩, fun g => absurd g (by decide)⟩
    have e3 := step 26 y3 tk e3
    subst e3
    refine ⟨fun _ => ⟨hv, fun y4 e4 => ?_⟩, fun g => absurd g (by decide)⟩
    have e4 := step 26 y4 tk e4
    subst e4
    refine ⟨fun _ => ⟨hv, fun y5 e5 => ?_⟩, fun g => absurd g (by decide)⟩
    obtain ⟨q1, q2⟩ := q e
    have q1 : xa x 313 s = nI (ft s) := q1
    rw [hcl, q1] at e5
    subst e5
    refine ⟨c, rfl, hc, ?_⟩
    obtain ⟨arr2, hA2⟩ := ndX_A (htr.2 a g5)
    rw [g6] at hA2
    have bb1 := flG_b (fx := fx) hh hlg.2.2.2.2.1 (j :: js) (ft s) q2
    have bb2 := flG_b (fx := fx) hh hlg.2.2.2.2.1 js (ft s) q2
    rw [List.length_cons] at bb1
    exact sx_loud hc g5 g4 g8 hA2 hn q2 (by omega) (by omega) h
theorem sx_isSo {K : Int32 → xs_St → Prop} (hlg : lgX x n N eh ed er ea rd wd) (htr : trX x n fx hd N eh er rd P) (hc : xd_is x c 3) (hP : P c = j :: js) (hpg : pgX x 0 n S pg sg nb ft) (hs : s < S) (hk : pg s ≤ 4) (hn : n ≤ 48) (hh : ∀ i, i < n → 1 ≤ hd i) (h : K (bI (evS n fx hd rd pg sg nb ft (j :: js) s)) x) : X_T_isSo_A (nI s) (some c) x K := by
  have h80 := hpg.1
  have hv : vp_in (nI s) 80 := vp_in_nI (by omega) (by omega)
  have hcl : (nI s).toNatClampNeg = s := ni_cl (by omega)
  have hlen := ndX_l hlg (htr.2 c hc)
  rw [hP] at hlen
  obtain ⟨-, -, q⟩ := hpg.2 s hs
  obtain ⟨q312, s1, s2, q314, hnb, hft⟩ := q hk
  have q312 : xo x 312 s = some (sg s - 54) := q312
  have q314 : xa x 314 s = nI (nb s) := q314
  have hmb := msr_b (fx := fx) (s := s) hh hlg.2.2.2.2.1 hn hlen (fun e => (hft e).2) hk
  unfold X_T_isSo_A
  refine sx_meas hlg htr hc hP hpg hs hk hn hh ?_
  generalize hm : msr n fx hd rd pg ft (j :: js) s = mm at *
  unfold evS at h
  rw [hm] at h
  unfold X_T_isSo_A_34 X_T_isSo_A_80
  refine ⟨hv, fun y3 e3 => ?_⟩
  rw [hcl, q312] at e3
  rcases (show sg s = 60 ∨ sg s = 61 ∨ sg s = 62 by omega) with e | e | e
  · rw [if_pos e] at h
    rw [e] at e3
    subst e3
    refine ⟨fun g => absurd rfl g, fun _ => ⟨hv, fun y7 e7 => ?_⟩⟩
    rw [hcl, q314] at e7
    subst e7
    rw [ni_le (by omega) (by omega)]
    refine br1 (fun q => ⟨n010, ?_⟩) (fun q => ⟨n011, ?_⟩)
    · rw [decide_eq_false (by omega)] at h; exact h
    · rw [decide_eq_true (by omega)] at h; exact h
  · rw [if_neg (by omega), if_pos e] at h
    have e3' := e3
    rw [e] at e3
    subst e3
    refine ⟨fun _ => ⟨hv, fun y4 e4 => ?_⟩, fun g => absurd g (by decide)⟩
    rw [hcl, q312, e] at e4
    subst e4
    refine ⟨fun g => absurd rfl g, fun _ => ⟨hv, fun y7 e7 => ?_⟩⟩
    rw [hcl, q314] at e7
    subst e7
    rw [ni_eq (by omega) (by omega)]
    refine br2 (fun q => ⟨n010, ?_⟩) (fun q => ⟨n011, ?_⟩)
    · rw [decide_eq_false (by omega)] at h; exact h
    · rw [decide_eq_true (by omega)] at h; exact h
  · rw [if_neg (by omega), if_neg (by omega)] at h
    rw [e] at e3
    subst e3
    refine ⟨fun _ => ⟨hv, fun y4 e4 => ?_⟩, fun g => absurd g (by decide)⟩
    rw [hcl, q312, e] at e4
    subst e4
    refine ⟨fun _ => ⟨hv, fun y7 e7 => ?_⟩, fun g => absurd g (by decide)⟩
    rw [hcl, q314] at e7
    subst e7
    rw [ni_le (by omega) (by omega)]
    refine br1 (fun q => ⟨n010, ?_⟩) (fun q => ⟨n011, ?_⟩)
    · rw [decide_eq_false (by omega)] at h; exact h
    · rw [decide_eq_true (by omega)] at h; exact h
theorem sx_holds {K : Int32 → xs_St → Prop} {A k : Nat} (hlg : lgX x n N eh ed er ea rd wd) (htr : trX x n fx hd N eh er rd P) (hc : xd_is x c 3) (hP : P c = j :: js) (hpg : pgX x 0 n S pg sg nb ft) (hal : alX x 0 A S pg al en) (hk : k < A) (hn : n ≤ 48) (hh : ∀ i, i < n → 1 ≤ hd i) (h : K (bI (hol n fx hd rd pg sg nb ft (en k) (en (k + 1)) (j :: js))) x) : X_T_holds_A (nI k) (some c) x K := by
  have h80 := hpg.1
  obtain ⟨hA6, -, en0, hal⟩ := hal
  obtain ⟨-, -, q310, k1, k2, hwf⟩ := hal k hk
  have q310 : xa x 310 k = nI (en (k + 1)) := q310
  have hlp : X_T_holds_A_18 K (nI k) (some c) (0 : Int64) (nI (en k)) x := by
    unfold X_T_holds_A_18
    refine lqe5 (F := X_T_holds_A_20_lp K) (G := X_T_holds_A_20 K) (fun _ _ _ _ _ _ => rfl) (fun d a1 a2 a3 a4 u => a1 = nI k ∧ a2 = some c ∧ u = x ∧ ∃ s l, a4 = nI s ∧ s + d = en (k + 1) ∧ eB a3 l ∧ pwf pg d s l.length ∧ pev (evS n fx hd rd pg sg nb ft (j :: js)) pg d s l = hol n fx hd rd pg sg nb ft (en k) (en (k + 1)) (j :: js)) ?_ (en (k + 1) - en k) _ _ _ _ _ ⟨rfl, rfl, rfl, en k, [], rfl, by omega, eB_0, hwf, rfl⟩
    rintro kk d a1 a2 a3 a4 u ⟨rfl, rfl, rfl, s, l, rfl, hsd, hE, hw, hev⟩ ih
    unfold X_T_holds_A_20 X_T_holds_A_143
    refine ⟨vp_in_nI (by omega) (by omega), fun y1 e1 => ?_⟩
    rw [ni_cl (by omega), q310] at e1
    subst e1
    rw [ni_le (by omega) (by omega)]
    cases d with
    | zero =>
      refine ⟨fun _ => ?_, fun q => by omega⟩
      rw [pwf] at hw
      rw [pev] at hev
      cases l with
      | nil => cases hw
      | cons b l =>
        have e1 : (lg_cmp (a3 &&& (1 : Int64)) (1 : Int64) = (0 : Int32)) = (b = true) := by
          rw [show (0 : Int32) = nI 0 from rfl, lgn_eq, eB_top hE]
          cases b <;> simp
        rw [e1]
        rw [List.headD_cons] at hev
        rw [← hev] at h
        refine br2 (fun q => ⟨n010, ?_⟩) (fun q => ⟨n011, ?_⟩)
        · rw [show b = false by cases b with | false => rfl | true => exact absurd rfl q] at h; exact h
        · rw [q] at h; exact h
    | succ d =>
      refine ⟨fun q => by omega, fun _ => ?_⟩
      have hsS : s < S := by omega
      have hv : vp_in (nI s) 80 := vp_in_nI (by omega) (by omega)
      have hcl : (nI s).toNatClampNeg = s := ni_cl (by omega)
      obtain ⟨hkd, q311, -⟩ := hpg.2 s hsS
      have q311 : xo u 311 s = some (tkK (pg s)) := q311
      rw [pwf] at hw
      rw [pev] at hev
      have nxt : ∀ (w : Int64) (l' : List Bool), eB w l' → pwf pg d (s + 1) l'.length → pst (pg s) (evS n fx hd rd pg sg nb ft (j :: js) s) l = l' → X_T_holds_A_124 K kk (nI k) (some c) w (nI s) u := by
        intro w l' h1 h2 h3
        unfold X_T_holds_A_124
        intro x5 e5
        subst e5
        exact ih d _ _ _ _ _ (by omega) ⟨rfl, rfl, rfl, s + 1, l', nI_1 s, by omega, h1, h2, by rw [← h3]; exact hev⟩
      refine ⟨hv, fun y2 e2 => ?_⟩
      rw [hcl, q311] at e2
      rcases hkd with hm | hm
      · have t1 : tkK (pg s) = 22 + pg s := by unfold tkK; rw [if_pos hm]
        rw [if_neg (by omega), if_neg (by omega)] at hw
        have ne : ∀ z, z < 22 → ¬ some (tkK (pg s)) = some z := fun z hz q => by injection q with q; omega
        subst e2
        refine ⟨fun _ => ⟨hv, fun y3 e3 => ?_⟩, fun q => absurd q (ne 21 (by omega))⟩
        rw [hcl, q311] at e3
        subst e3
        refine ⟨fun _ => ⟨hv, fun y4 e4 => ?_⟩, fun q => absurd q (ne 20 (by omega))⟩
        rw [hcl, q311] at e4
        subst e4
        refine ⟨fun _ => ?_, fun q => absurd q (ne 19 (by omega))⟩
        refine sx_isSo hlg htr hc hP hpg hsS hm hn hh ?_
        have hps : pst (pg s) (evS n fx hd rd pg sg nb ft (j :: js) s) l = evS n fx hd rd pg sg nb ft (j :: js) s :: l := by unfold pst; rw [if_neg (by omega), if_neg (by omega), if_neg (by omega)]
        have hgo := nxt _ _ (eB_push (evS n fx hd rd pg sg nb ft (j :: js) s) hE (by omega)) (by rw [List.length_cons]; exact hw.2.2) hps
        generalize evS n fx hd rd pg sg nb ft (j :: js) s = bb at hgo ⊢
        unfold X_T_holds_A_121
        cases bb with
        | false => exact ⟨fun _ y e => by subst e; exact hgo, fun g => absurd rfl g⟩
        | true => exact ⟨fun g => absurd g (by decide), fun _ y e => by subst e; exact hgo⟩
      · have t1 : tkK (pg s) = 31 - pg s := by unfold tkK; rw [if_neg (by omega)]
        rw [t1] at q311 e2
        subst e2
        rcases (show pg s = 10 ∨ pg s = 11 ∨ pg s = 12 by omega) with e | e | e
        · rw [if_pos e] at hw
          rw [e] at q311 ⊢
          refine ⟨fun g => absurd rfl g, fun _ y9 e9 => ?_⟩
          subst e9
          cases l with
          | nil => exact absurd hw.1 (by simp)
          | cons b l => exact nxt _ _ (eB_not hE) (by simpa using hw.2) (by unfold pst; rw [if_pos e]; rfl)
        · rw [if_neg (by omega), if_pos (Or.inl e)] at hw
          rw [e] at q311 ⊢
          refine ⟨fun _ => ⟨hv, fun y3 e3 => ?_⟩, fun g => absurd g (by decide)⟩
          rw [hcl, q311] at e3
          subst e3
          refine ⟨fun g => absurd rfl g, fun _ y9 e9 => ?_⟩
          subst e9
          cases l with
          | nil => exact absurd hw.1 (by simp)
          | cons b l =>
            cases l with
            | nil => exact absurd hw.1 (by simp)
            | cons b2 l => exact nxt _ _ (eB_and hE) (by simpa using hw.2) (by unfold pst; rw [if_neg (by omega), if_pos e]; rfl)
        · rw [if_neg (by omega), if_pos (Or.inr e)] at hw
          rw [e] at q311 ⊢
          refine ⟨fun _ => ⟨hv, fun y3 e3 => ?_⟩, fun g => absurd g (by decide)⟩
          rw [hcl, q311] at e3
          subst e3
          refine ⟨fun _ => ⟨hv, fun y4 e4 => ?_⟩, fun g => absurd g (by decide)⟩
          rw [hcl, q311] at e4
          subst e4
          refine ⟨fun g => absurd rfl g, fun _ y9 e9 => ?_⟩
          subst e9
          cases l with
          | nil => exact absurd hw.1 (by simp)
          | cons b l =>
            cases l with
            | nil => exact absurd hw.1 (by simp)
            | cons b2 l => exact nxt _ _ (eB_or hE) (by simpa using hw.2) (by unfold pst; rw [if_neg (by omega), if_neg (by omega), if_pos e]; rfl)
  unfold X_T_holds_A
  have c0 : (nI k = (0 : Int32)) = (k = 0) := ni_eq (b := 0) (by omega) (by omega)
  rw [c0]
  refine br2 (fun q => ?_) (fun q => ?_)
  · rw [show nI k - (1 : Int32) = nI (k - 1) from pk_sub (a := k) (b := 1) (by omega)]
    refine ⟨vp_in_nI (by omega) (by omega), fun y1 e1 => ?_⟩
    have q310' : xa x 310 (k - 1) = nI (en (k - 1 + 1)) := (hal (k - 1) (by omega)).2.2.1
    rw [ni_cl (by omega), q310', show k - 1 + 1 = k by omega] at e1
    subst e1
    exact hlp
  · subst q
    rw [en0] at hlp
    exact hlp
theorem sx_alAt {K : Int32 → xs_St → Prop} {A k : Nat} (hlg : lgX x n N eh ed er ea rd wd) (htr : trX x n fx hd N eh er rd P) (hc : xd_is x c 3) (hpg : pgX x 0 n S pg sg nb ft) (hal : alX x 0 A S pg al en) (hk : k < A) (hn : n ≤ 48) (hh : ∀ i, i < n → 1 ≤ hd i) (h : K (bI (alm n fx hd rd pg sg nb ft (en k) (en (k + 1)) (al k) (P c))) x) : X_T_alarmIsAt_A (nI k) (some c) x K := by
  have hA6 := hal.1
  have h305 : xi x 305 = nI A := hal.2.1
  obtain ⟨q309, h9, -⟩ := hal.2.2.2 k hk
  have q309 : xa x 309 k = nI (al k) := q309
  unfold X_T_alarmIsAt_A
  have c0 : (nI k < (0 : Int32)) = (k < 0) := ni_lt (b := 0) (by omega) (by omega)
  rw [c0, h305, ni_lt (by omega) (by omega)]
  refine ⟨fun q => by omega, fun _ => ⟨fun _ => ?_, fun q => absurd hk q⟩⟩
  refine lqe4 (F := X_T_alarmIsAt_A_19_lp K) (G := X_T_alarmIsAt_A_19 K) (fun _ _ _ _ _ => rfl) (fun d a1 a2 a3 u => a1 = nI k ∧ u = x ∧ ∃ hr c', a2 = some c' ∧ xd_is x c' 3 ∧ a3 = nI hr ∧ hr + d = al k ∧ alm n fx hd rd pg sg nb ft (en k) (en (k + 1)) d (P c') = alm n fx hd rd pg sg nb ft (en k) (en (k + 1)) (al k) (P c)) ?_ (al k) _ _ _ _ ⟨rfl, rfl, 0, c, rfl, hc, rfl, by omega, rfl⟩
  rintro kk d a1 a2 a3 u ⟨rfl, rfl, hr, c', rfl, hc', rfl, hsd, hev⟩ ih
  unfold X_T_alarmIsAt_A_19 X_T_alarmIsAt_A_50
  refine ⟨vp_in_nI (by omega) (by omega), fun y1 e1 => ?_⟩
  rw [ni_cl (by omega), q309] at e1
  subst e1
  rw [ni_le (by omega) (by omega)]
  rw [← hev] at h
  cases d with
  | zero =>
    rw [alm] at h
    exact ⟨fun _ => ⟨n011, h⟩, fun q => by omega⟩
  | succ d =>
    refine ⟨fun q => by omega, fun _ => ⟨fun q => (by cases q), fun _ => ⟨c', rfl, hc', ?_⟩⟩⟩
    rcases (htr.2 c' hc').2 with ⟨g1, g2, -⟩ | ⟨j0, js0, a, arr, g1, g2, g3, g4, g5, g6, -⟩
    · rw [g1, alm] at h
      exact ⟨fun _ => ⟨n010, h⟩, fun q => absurd g2 q⟩
    · refine ⟨fun q => (by rw [g4] at q; cases q), fun _ => ?_⟩
      refine sx_holds hlg htr hc' g1 hpg hal hk hn hh ?_
      rw [g1, alm] at h
      rw [g1, alm] at hev
      rw [bI_z]
      cases e : hol n fx hd rd pg sg nb ft (en k) (en (k + 1)) (j0 :: js0) with
      | false =>
        rw [e, Bool.false_and] at h
        exact ⟨fun q => absurd rfl q, fun _ => ⟨n010, h⟩⟩
      | true =>
        refine ⟨fun _ => ⟨c', rfl, hc', ?_⟩, fun q => (by cases q)⟩
        intro x4 e4
        subst e4
        rw [g4]
        rw [e, Bool.true_and] at hev
        exact ih d _ _ _ _ (by omega) ⟨rfl, rfl, hr + 1, a, rfl, g5, nI_1 hr, by omega, by rw [g6]; exact hev⟩
end

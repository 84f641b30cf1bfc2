/-! look, isThere -/
def ckM (m : th_St) (n : Nat) (fx : Nat → Bool) (hd : Nat → Int) (N : Nat) (eh ed : Nat → Nat) (rd : Nat → Nat → Int) (t : Int) : Prop := m.1 42 = nI (thr eh ed t N) ∧ (∀ c i, c ≤ thr eh ed t N → i < n → m.2.2.1 38 (48 * c + i) = iI ((flG n fx hd rd (pthc (fun h => qF eh ed t h N) c)).1 i)) ∧ ∀ h, h < thr eh ed t N → m.2.2.1 39 h = nI (flG n fx hd rd (pthc (fun h => qF eh ed t h N) (h + 1))).2
def chM (m : th_St) (n : Nat) (fx : Nat → Bool) (hd : Nat → Int) (N : Nat) (eh ed : Nat → Nat) (rd : Nat → Nat → Int) : Prop := (∀ i, i < 48 → m.2.2.1 38 i = 0) ∧ (¬ m.1 40 = 0 → ckM m n fx hd N eh ed rd (m.1 41).toInt)
theorem ckM_f {m m' : th_St} {n : Nat} {fx : Nat → Bool} {hd : Nat → Int} {N : Nat} {eh ed : Nat → Nat} {rd : Nat → Nat → Int} {t : Int} {I A L : List Nat} (h : ckM m n fx hd N eh ed rd t) (hf : mf I A L m m') (h42 : 42 ∉ I) (h38 : 38 ∉ A) (h39 : 39 ∉ A) : ckM m' n fx hd N eh ed rd t := by
  refine ⟨(hf.1 42 h42).trans h.1, fun c i h1 h2 => ?_, fun k hk => ?_⟩
  · rw [hf.2.1 38 h38]; exact h.2.1 c i h1 h2
  · rw [hf.2.1 39 h39]; exact h.2.2 k hk
theorem chM_f {m m' : th_St} {n : Nat} {fx : Nat → Bool} {hd : Nat → Int} {N : Nat} {eh ed : Nat → Nat} {rd : Nat → Nat → Int} {I A L : List Nat} (h : chM m n fx hd N eh ed rd) (hf : mf I A L m m') (h40 : 40 ∉ I) (h41 : 41 ∉ I) (h42 : 42 ∉ I) (h38 : 38 ∉ A) (h39 : 39 ∉ A) : chM m' n fx hd N eh ed rd := by
  refine ⟨fun i hi => by rw [hf.2.1 38 h38]; exact h.1 i hi, fun q => ?_⟩
  rw [hf.1 40 h40] at q
  rw [hf.1 41 h41]
  exact ckM_f (h.2 q) hf h42 h38 h39
theorem mx_look {m : th_St} {n : Nat} {fx : Nat → Bool} {hd : Nat → Int} {N : Nat} {eh ed : Nat → Nat} {rd wd : Nat → Nat → Int} {a : Int32} {K : th_St → Prop} (hT : txM m n fx hd) (hlg : lgM m n N eh ed rd wd) (hok : lgOk eh ed N) (hch : chM m n fx hd N eh ed rd) (hr : ∀ j i, -99 ≤ rd j i ∧ rd j i ≤ 99)
    (h : ∀ y, mf [40, 41, 42] [38, 39] [] m y → chM y n fx hd N eh ed rd → ckM y n fx hd N eh ed rd a.toInt → K y) : M_look a m K := by
  have hn := hT.1
  have hh1 : ∀ i, i < n → 1 ≤ hd i := fun i hi => (hT.2.2 i (by omega)).2.2.1
  have hra := ti_r a
  have full : M_look_16 K a m := by
    unfold M_look_16
    refine ⟨n011, ?_⟩
    intro u1 e1 u2 e2 u3 e3
    have f3 : mf [40, 41, 42] [38, 39] [] m u3 := by rw [e3, e2, e1]; exact mf_i (by decide) (mf_i (by decide) (mf_i (by decide) (mf_r m)))
    have g40 : u3.1 40 = 1 := by rw [e3, e2, e1]; rfl
    have g41 : u3.1 41 = a := by rw [e3, e2]; rfl
    have g42 : u3.1 42 = nI 0 := by rw [e3]; rfl
    have g38 : u3.2.2.1 38 = m.2.2.1 38 := by rw [e3, e2, e1]; rfl
    clear e1 e2 e3
    have hle := thr_le (eh := eh) (ed := ed) (t := a.toInt) N
    have h40 := hlg.1
    refine lqe2 (F := M_look_31_lp K) (G := M_look_31 K) (fun _ _ _ => rfl) (fun d a1 u => a1 = a ∧ mf [40, 41, 42] [38, 39] [] m u ∧ u.1 40 = 1 ∧ u.1 41 = a ∧ u.2.2.1 38 = m.2.2.1 38 ∧ ∃ p, u.1 42 = nI p ∧ p + d = thr eh ed a.toInt N) ?_ (thr eh ed a.toInt N) _ _ ⟨rfl, f3, g40, g41, g38, 0, g42, by omega⟩
    rintro k d a1 u ⟨rfl, uf, u40, u41, u38, p, u42, hpd⟩ ih
    have ulg := lgM_f hlg uf (by decide) (by decide) (by decide) (by decide) (by decide)
    have done : p = thr eh ed a1.toInt N → M_look_68 K a1 u := by
      intro hp
      unfold M_look_68
      refine lqe3 (F := M_look_70_lp K) (G := M_look_70 K) (fun _ _ _ _ => rfl) (fun d2 b1 b2 v => b1 = a1 ∧ mf [40, 41, 42] [38, 39] [] m v ∧ v.1 40 = 1 ∧ v.1 41 = a1 ∧ v.1 42 = nI (thr eh ed a1.toInt N) ∧ (∀ i, i < 48 → v.2.2.1 38 i = 0) ∧ ∃ c, b2 = nI c ∧ c + d2 = thr eh ed a1.toInt N ∧ (∀ c' i, c' ≤ c → i < n → v.2.2.1 38 (48 * c' + i) = iI ((flG n fx hd rd (pthc (fun h => qF eh ed a1.toInt h N) c')).1 i)) ∧ ∀ h, h < c → v.2.2.1 39 h = nI (flG n fx hd rd (pthc (fun h => qF eh ed a1.toInt h N) (h + 1))).2) ?_ (thr eh ed a1.toInt N) _ _ _ ⟨rfl, uf, u40, u41, by rw [u42, hp], fun i hi => by rw [u38]; exact hch.1 i hi, 0, rfl, by omega, fun c' i h1 h2 => ?_, fun h hh => by omega⟩
      case refine_2 =>
        have : c' = 0 := by omega
        subst this
        rw [pthc, flG, u38, show 48 * 0 + i = i by omega, hch.1 i (by omega)]; rfl
      rintro k2 d2 b1 b2 v ⟨rfl, vf, v40, v41, v42, v0, c, rfl, hc, vV, vS⟩ ih2
      have vlg := lgM_f hlg vf (by decide) (by decide) (by decide) (by decide) (by decide)
      have vT := txM_f hT vf (by decide) (by decide) (by decide)
      unfold M_look_70
      rw [v42, ni_le (by omega) (by omega)]
      refine br1 (fun q => ?_) (fun q => ?_)
      · have : c = thr eh ed b1.toInt N := by omega
        have ck : ckM v n fx hd N eh ed rd b1.toInt := ⟨v42, fun c' i h1 h2 => vV c' i (by omega) h2, fun h hh => vS h (by omega)⟩
        exact h v vf ⟨v0, fun _ => by rw [v41]; exact ck⟩ ck
      · have qc := qF_ok (eh := eh) (ed := ed) (t := b1.toInt) (h := c) hok (by omega)
        have em1 := emr_l vlg hok qc.1
        refine mx_rowOf vlg hok (by omega) ?_
        have gbd := flG_b (fx := fx) (rd := rd) hh1 hr (pthc (fun h => qF eh ed b1.toInt h N) c)
        rw [pthc_l] at gbd
        have fin : ∀ (x3 : Int32) (s0 : Nat → Int), s0 = rd0 rd (pthc (fun h => qF eh ed b1.toInt h N) c) → ((x3 = iI (-1) ∧ ∀ i, s0 i = 0) ∨ ∃ r0, x3 = nI r0 ∧ r0 < 100 ∧ ∀ i, i < n → v.2.2.1 35 (96 * r0 + i) = iI (s0 i)) → M_look_102 K k2 b1 (nI c) x3 (nI (emr eh (qF eh ed b1.toInt c N))) (nI c) v := by
          intro x3 s0 es0 hs0
          unfold M_look_102
          refine mx_stretch (fx := fx) (hd := hd) (ga := (flG n fx hd rd (pthc (fun h => qF eh ed b1.toInt h N) c)).1) (s := rd (qF eh ed b1.toInt c N)) (s0 := s0) vT (by omega) em1 (fun i hi => vV c i (Nat.le_refl c) hi) (fun i hi => ((vlg.2.2.2 _ qc.1).2.2.2 i hi).1) hs0 (fun i hi => by have := gbd i hi; omega) (hr _) (fun i => ?_) (fun y yf yV yo yS ys => ?_)
          · rw [es0]
            cases e : pthc (fun h => qF eh ed b1.toInt h N) c with
            | nil => rw [rd0]; omega
            | cons j' js' => rw [rd0]; exact hr j' i
          · have yF : mf [40, 41, 42] [38, 39] [] m y := mf_t vf (mf_w yf (by decide) (by decide) (by decide))
            have efl : flG n fx hd rd (pthc (fun h => qF eh ed b1.toInt h N) (c + 1)) = slF n fx hd (fun i => (flG n fx hd rd (pthc (fun h => qF eh ed b1.toInt h N) c)).1 i + rd (qF eh ed b1.toInt c N) i - s0 i) := by
              rw [es0]; rfl
            rw [← efl] at yV yS
            intro x2 e2
            subst e2
            refine ih2 (d2 - 1) _ _ _ (by omega) ⟨rfl, yF, (yf.1 40 (by decide)).trans v40, (yf.1 41 (by decide)).trans v41, (yf.1 42 (by decide)).trans v42, fun i hi => ?_, c + 1, nI_1 c, by omega, fun c' i h1 h2 => ?_, fun h hh => ?_⟩
            · rw [yo i (Or.inl (by omega))]; exact v0 i hi
            · by_cases e : c' = c + 1
              · subst e; exact yV i h2
              · rw [yo _ (Or.inl (by omega))]; exact vV c' i (by omega) h2
            · by_cases e : h = c
              · subst e; exact yS
              · rw [ys h e]; exact vS h (by omega)
        rw [show (0 : Int32) = nI 0 from rfl, ni_eq (by omega) (by omega)]
        refine br2 (fun q2 => ?_) (fun q2 => ?_)
        · obtain ⟨c, rfl⟩ : ∃ c', c = c' + 1 := ⟨c - 1, by omega⟩
          rw [show nI (c + 1) - (1 : Int32) = nI c from by rw [show (1 : Int32) = nI 1 from rfl, ni_sub (by omega)]; rfl]
          have qc0 := qF_ok (eh := eh) (ed := ed) (t := b1.toInt) (h := c) hok (by omega)
          refine mx_rowOf vlg hok (by omega) ?_
          refine fin _ (rd (qF eh ed b1.toInt c N)) ?_ (Or.inr ⟨_, rfl, emr_l vlg hok qc0.1, fun i hi => ((vlg.2.2.2 _ qc0.1).2.2.2 i hi).1⟩)
          funext i
          rfl
        · subst q2
          exact fin _ (fun _ => 0) (by funext i; rfl) (Or.inl ⟨rfl, fun _ => rfl⟩)
    unfold M_look_31
    rw [u42, ulg.2.1, ni_le (by omega) (by omega)]
    refine br1 (fun q => done (by omega)) (fun q => ⟨vp_in_nI (by omega) (by omega), ?_⟩)
    intro y1 e1
    obtain ⟨j, j1, j2, j3⟩ := hcn_at N hok.1 p (by omega)
    have hlj := ulg.2.2.2 j j1
    have hem : emr eh j = p := by unfold emr; rw [if_pos (by omega)]; exact j2
    rw [hem] at hlj
    rw [ni_cl (by omega), hlj.2.1] at e1
    subst e1
    have hiff := thr_iff (t := a1.toInt) hok j1 j2 j3
    rw [ti_lt, ti_nI (show ed j < 2147483648 by have := hlj.2.2.1; omega)]
    refine br1 (fun q2 => done ?_) (fun q2 => ?_)
    · have : ¬ p < thr eh ed a1.toInt N := fun q3 => by have := hiff.mp q3; omega
      omega
    · have hp := hiff.mpr (by omega)
      intro u2 e2
      rw [show nI p + (1 : Int32) = nI (p + 1) from nI_1 p] at e2
      subst e2
      exact ih (d - 1) _ _ (by omega) ⟨rfl, mf_i (by decide) uf, u40, u41, u38, p + 1, rfl, by omega⟩
  unfold M_look
  refine br1 (fun _ => full) (fun q => br2 (fun _ => full) (fun q2 => ?_))
  have ck := hch.2 q
  rw [q2] at ck
  exact h m (mf_r m) hch ck
theorem mx_there {m : th_St} {n : Nat} {fx : Nat → Bool} {hd : Nat → Int} {N : Nat} {eh ed : Nat → Nat} {rd wd : Nat → Nat → Int} {a1 a2 a3 : Int32} {K : Int32 → th_St → Prop} (hT : txM m n fx hd) (hlg : lgM m n N eh ed rd wd) (hok : lgOk eh ed N) (hch : chM m n fx hd N eh ed rd) (hr : ∀ j i, -99 ≤ rd j i ∧ rd j i ≤ 99)
    (h0 : ¬ ((0 ≤ a1.toInt ∧ a1.toInt < n) ∧ 0 ≤ a2.toInt ∧ a2.toInt < thr eh ed a3.toInt N) → ∀ y, mf [40, 41, 42] [38, 39] [] m y → chM y n fx hd N eh ed rd → K 0 y)
    (h1 : ∀ i c : Nat, a1 = nI i → i < n → a2 = nI c → c < thr eh ed a3.toInt N → ∀ y, mf [40, 41, 42] [38, 39] [] m y → chM y n fx hd N eh ed rd → ckM y n fx hd N eh ed rd a3.toInt → K 1 y) : M_isThere a1 a2 a3 m K := by
  have hn := hT.1
  have hle := thr_le (eh := eh) (ed := ed) (t := a3.toInt) N
  have h40 := hlg.1
  unfold M_isThere
  refine mx_look hT hlg hok hch hr (fun y yf ych yck => ?_)
  refine ⟨vp_in_nI (n := 0) (by omega) (by omega), ?_⟩
  intro y3 e3
  have e3 : y3 = nI n := by rw [e3]; exact (txM_f hT yf (by decide) (by decide) (by decide)).2.1
  subst e3
  unfold M_isThere_39 M_isThere_40
  refine mx_in1 (by omega) (fun q => ⟨fun _ => ⟨n010, h0 (fun g => q g.1) y yf ych⟩, fun g => absurd rfl g⟩) (fun i hi ei => ⟨fun g => absurd g (by decide), fun _ => ?_⟩)
  rw [yck.1]
  refine mx_in1 (by omega) (fun q => ⟨fun _ => ⟨n010, h0 (fun g => q g.2) y yf ych⟩, fun g => absurd rfl g⟩) (fun c hc ec => ⟨fun g => absurd g (by decide), fun _ => ⟨n011, ?_⟩⟩)
  exact h1 i c ei hi ec hc y yf ych yck

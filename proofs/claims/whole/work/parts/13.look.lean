/-! the questions that only look -/
theorem mx_in0 {a : Int32} {n : Nat} {u : th_St} {K : Int32 → th_St → Prop} (hn : n < 2147483648) (h0 : (a < 0 ∨ nI n ≤ a) → K 0 u) (h1 : ∀ j : Nat, j < n → a = nI j → K 1 u) : M_isIn a (0 : Int32) (nI n - (1 : Int32)) u K := by
  have cn : (nI n).toInt = n := ti_nI hn
  have es : (nI n - (1 : Int32)).toInt = n - 1 := by rw [ti_sub] <;> rw [cn, tt_1] <;> omega
  refine mx_isIn ?_
  rw [es, tt_0]
  rcases pk_ix a (n := n) (by omega) with ha | ha | ⟨j, hj, e⟩
  · have ha' := ha
    rw [ti_lt, tt_0] at ha'
    rw [if_neg (by omega)]
    exact h0 (Or.inl ha)
  · have ha' := ha
    rw [ti_le, cn] at ha'
    rw [if_neg (by omega)]
    exact h0 (Or.inr ha)
  · have ej : a.toInt = j := by rw [e, ti_nI (by omega)]
    rw [if_pos (by omega)]
    exact h1 j hj e
/-- a row of at most N numbers that both hold alike -/
def sList (N ci ca mi ma : Nat) (x : xs_St) (m : th_St) : Prop := ∃ n : Nat, n ≤ N ∧ xi x ci = nI n ∧ m.1 mi = nI n ∧ ∀ k, k < n → xa x ca k = m.2.2.1 ma k
theorem sx_gauge {x : xs_St} {m : th_St} (h : sList 40 8 7 66 64 x m) {a : Int32} {K : Int32 → xs_St → Int32 → th_St → Prop} (k0 : ∀ r : Int32, K r x r (th_si m 0 0)) : X_TH_gauge a x (fun r x' => M_gauge a m (fun r' m' => K r x' r' m')) := by
  obtain ⟨n, hn, h1, h2, h3⟩ := h
  have e2 : (th_si m 0 0).1 66 = nI n := h2
  unfold X_TH_gauge X_TH_gauge_21 X_TH_gauge_22 M_gauge M_gauge_29
  simp only [forall_eq, h1, e2]
  have hneg : (a < 0 ∨ nI n ≤ a) → M_isIn a (0 : Int32) (nI n - (1 : Int32)) (th_si m 0 0) (fun r_3 u_2 => ((r_3 = 0 → K (-1) x (-1) u_2) ∧ (¬ r_3 = 0 → (vp_in a 40 ∧ K (-1) x (u_2.2.2.1 64 (a).toNatClampNeg) u_2)))) := fun ha => mx_in0 (by omega) (fun _ => ⟨fun _ => k0 _, fun q => absurd rfl q⟩) (fun j hj e => by
    subst e
    rcases ha with ha | ha
    · exact absurd ha (nI_pos (by omega))
    · exact absurd ha (nI_ge hj (by omega)))
  refine ⟨fun ha => hneg (Or.inl ha), fun ha => ⟨fun hb => hneg (Or.inr hb), fun hb => ?_⟩⟩
  obtain ⟨j, hj, rfl⟩ := (pk_ix a (n := n) (by omega)).resolve_left ha |>.resolve_left hb
  refine ⟨vp_in_nI (by omega) (by omega), mx_in0 (by omega) (fun q => q.elim (fun q => absurd q ha) (fun q => absurd q hb)) (fun _ _ _ => ⟨fun q => absurd q (by decide), fun _ => ⟨vp_in_nI (by omega) (by omega), ?_⟩⟩)⟩
  rw [nI_clamp (by omega), h3 j hj]
  exact k0 _
theorem sx_walked {x : xs_St} {m : th_St} (h : sList 40 801 800 59 58 x m) {a : Int32} {K : Int32 → xs_St → Int32 → th_St → Prop} (k0 : ∀ r : Int32, K r x r (th_si m 0 0)) : X_TH_walked a x (fun r x' => M_walked a m (fun r' m' => K r x' r' m')) := by
  obtain ⟨n, hn, h1, h2, h3⟩ := h
  have e2 : (th_si m 0 0).1 59 = nI n := h2
  unfold X_TH_walked X_TH_walked_27 X_TH_walked_28 M_walked M_walked_29
  simp only [forall_eq, h1, e2]
  have hneg : (a < 0 ∨ nI n ≤ a) → M_isIn a (0 : Int32) (nI n - (1 : Int32)) (th_si m 0 0) (fun r_3 u_2 => ((r_3 = 0 → K (-1) x (-1) u_2) ∧ (¬ r_3 = 0 → (vp_in a 40 ∧ K (-1) x (u_2.2.2.1 58 (a).toNatClampNeg) u_2)))) := fun ha => mx_in0 (by omega) (fun _ => ⟨fun _ => k0 _, fun q => absurd rfl q⟩) (fun j hj e => by
    subst e
    rcases ha with ha | ha
    · exact absurd ha (nI_pos (by omega))
    · exact absurd ha (nI_ge hj (by omega)))
  refine ⟨fun ha => hneg (Or.inl ha), fun ha => ⟨fun hb => hneg (Or.inr hb), fun hb => ?_⟩⟩
  obtain ⟨j, hj, rfl⟩ := (pk_ix a (n := n) (by omega)).resolve_left ha |>.resolve_left hb
  refine ⟨vp_in_nI (by omega) (by omega), mx_in0 (by omega) (fun q => q.elim (fun q => absurd q ha) (fun q => absurd q hb)) (fun _ _ _ => ⟨fun q => absurd q (by decide), fun _ => ⟨vp_in_nI (by omega) (by omega), ?_⟩⟩)⟩
  rw [nI_clamp (by omega), h3 j hj]
  exact k0 _
theorem sx_paired {x : xs_St} {m : th_St} (h : sList 48 901 900 62 61 x m) {a : Int32} {K : Int32 → xs_St → Int32 → th_St → Prop} (k0 : ∀ r : Int32, K r x r (th_si m 0 0)) : X_TH_paired a x (fun r x' => M_paired a m (fun r' m' => K r x' r' m')) := by
  obtain ⟨n, hn, h1, h2, h3⟩ := h
  have e2 : (th_si m 0 0).1 62 = nI n := h2
  unfold X_TH_paired X_TH_paired_27 X_TH_paired_28 M_paired M_paired_29
  simp only [forall_eq, h1, e2]
  have hneg : (a < 0 ∨ nI n ≤ a) → M_isIn a (0 : Int32) (nI n - (1 : Int32)) (th_si m 0 0) (fun r_3 u_2 => ((r_3 = 0 → K (-1) x (-1) u_2) ∧ (¬ r_3 = 0 → (vp_in a 48 ∧ K (-1) x (u_2.2.2.1 61 (a).toNatClampNeg) u_2)))) := fun ha => mx_in0 (by omega) (fun _ => ⟨fun _ => k0 _, fun q => absurd rfl q⟩) (fun j hj e => by
    subst e
    rcases ha with ha | ha
    · exact absurd ha (nI_pos (by omega))
    · exact absurd ha (nI_ge hj (by omega)))
  refine ⟨fun ha => hneg (Or.inl ha), fun ha => ⟨fun hb => hneg (Or.inr hb), fun hb => ?_⟩⟩
  obtain ⟨j, hj, rfl⟩ := (pk_ix a (n := n) (by omega)).resolve_left ha |>.resolve_left hb
  refine ⟨vp_in_nI (by omega) (by omega), mx_in0 (by omega) (fun q => q.elim (fun q => absurd q ha) (fun q => absurd q hb)) (fun _ _ _ => ⟨fun q => absurd q (by decide), fun _ => ⟨vp_in_nI (by omega) (by omega), ?_⟩⟩)⟩
  rw [nI_clamp (by omega), h3 j hj]
  exact k0 _
def sEv (x : xs_St) (m : th_St) : Prop := ∃ n : Nat, n ≤ 48 ∧ xi x 708 = nI n ∧ m.1 56 = nI n ∧ ∀ k, k < n → xa x 705 k = m.2.2.1 53 k ∧ xa x 706 k = m.2.2.1 54 k ∧ xa x 707 k = m.2.2.1 55 k
theorem sx_event {x : xs_St} {m : th_St} (h : sEv x m) {a b : Int32} {K : Int32 → xs_St → Int32 → th_St → Prop} (k0 : ∀ r : Int32, K r x r (th_si m 0 0)) : X_TH_event a b x (fun r x' => M_event a b m (fun r' m' => K r x' r' m')) := by
  obtain ⟨n, hn, h1, h2, h3⟩ := h
  have e2 : (th_si m 0 0).1 56 = nI n := h2
  unfold X_TH_event X_TH_event_15 M_event M_event_63
  simp only [forall_eq, h1, e2]
  have hneg : ∀ P : th_St → Prop, (a < 0 ∨ nI n ≤ a) → M_isIn a (0 : Int32) (nI n - (1 : Int32)) (th_si m 0 0) (fun r_3 u_2 => ((¬ r_3 = 0 → P u_2) ∧ (r_3 = 0 → K (-1) x (-1) u_2))) := fun P ha => mx_in0 (by omega) (fun _ => ⟨fun q => absurd rfl q, fun _ => k0 _⟩) (fun j hj e => by
    subst e
    rcases ha with ha | ha
    · exact absurd ha (nI_pos (by omega))
    · exact absurd ha (nI_ge hj (by omega)))
  refine ⟨fun ha => hneg _ (Or.inl ha), fun ha => ⟨fun hb => ?_, fun hb => hneg _ (Or.inr ?_)⟩⟩
  · have hb' : ¬ nI n ≤ a := by rw [ti_le]; rw [ti_lt] at hb; omega
    obtain ⟨j, hj, rfl⟩ := (pk_ix a (n := n) (by omega)).resolve_left ha |>.resolve_left hb'
    have hc : (nI j).toNatClampNeg = j := nI_clamp (by omega)
    have hv : vp_in (nI j) 48 := vp_in_nI (by omega) (by omega)
    obtain ⟨q1, q2, q3⟩ := h3 j hj
    have hin : ∀ P : Int32 → th_St → Prop, P 1 (th_si m 0 0) → M_isIn (nI j) (0 : Int32) (nI n - (1 : Int32)) (th_si m 0 0) P := fun P hP => mx_in0 (by omega) (fun q => q.elim (fun q => absurd q ha) (fun q => absurd q hb')) (fun _ _ _ => hP)
    have c10 : ¬ (1 : Int32) = 0 := by decide
    have c20 : ¬ (2 : Int32) = 0 := by decide
    have c21 : ¬ (2 : Int32) = 1 := by decide
    refine ⟨fun e => ⟨hv, hin _ ?_⟩, fun e => ⟨hv, hin _ ?_⟩, fun e => ⟨hv, hin _ ?_⟩, fun e => hin _ ?_⟩
    · subst e
      exact ⟨fun _ => ⟨fun q => absurd rfl q, fun _ => ⟨hv, by rw [hc, q1]; exact k0 _⟩⟩, fun q => absurd q c10⟩
    · subst e
      exact ⟨fun _ => ⟨fun _ => ⟨fun q => absurd rfl q, fun _ => ⟨hv, by rw [hc, q2]; exact k0 _⟩⟩, fun q => absurd q c10⟩, fun q => absurd q c10⟩
    · subst e
      exact ⟨fun _ => ⟨fun _ => ⟨fun _ => ⟨fun q => absurd rfl q, fun _ => ⟨hv, by rw [hc, q3]; exact k0 _⟩⟩, fun q => absurd q c21⟩, fun q => absurd q c20⟩, fun q => absurd q c10⟩
    · exact ⟨fun _ => ⟨fun _ => ⟨fun _ => ⟨fun _ => k0 _, fun q => absurd (Or.inr (Or.inr q)) e⟩, fun q => absurd (Or.inr (Or.inl q)) e⟩, fun q => absurd (Or.inl q) e⟩, fun q => absurd q c10⟩
  · rw [ti_le]; rw [ti_lt] at hb; omega
def sFeet (x : xs_St) (m : th_St) : Prop := ∃ f : Nat, 4 ≤ f ∧ f ≤ 48 ∧ xi x 300 = nI f ∧ m.2.2.1 11 0 = nI f
def sHold (x : xs_St) (m : th_St) : Prop := ∀ i, i < 48 → xa x 307 i = m.2.2.1 6 i ∧ (xa x 307 i = 0 ∨ xa x 307 i = 1) ∧ xa x 308 i = m.2.2.1 7 i ∧ 1 ≤ (xa x 308 i).toInt ∧ (xa x 308 i).toInt ≤ 99
theorem sx_foot {x : xs_St} {m : th_St} (hF : sFeet x m) (hH : sHold x m) {a b : Int32} {K : Int32 → xs_St → Int32 → th_St → Prop} (k0 : ∀ r : Int32, K r x r (th_si m 0 0)) : X_TH_foot a b x (fun r x' => M_foot a b m (fun r' m' => K r x' r' m')) := by
  obtain ⟨f, hf1, hf2, h1, h2⟩ := hF
  have z0 : ((0 : Int32)).toNatClampNeg = 0 := by decide
  have e2 : (th_si m 0 0).2.2.1 11 0 = nI f := h2
  have v0 : vp_in (0 : Int32) 2 := by unfold vp_in; decide
  have c10 : ¬ (1 : Int32) = 0 := by decide
  unfold X_TH_foot X_TH_foot_34 X_TH_foot_53 X_T_hasFoot_A X_T_hasFoot_A_16 X_T_hasFoot_A_17 M_foot M_foot_30 M_foot_60
  simp only [forall_eq, h1, z0, e2]
  have hneg : ∀ P : th_St → Prop, (a < 0 ∨ nI f ≤ a) → M_isIn a (0 : Int32) (nI f - (1 : Int32)) (th_si m 0 0) (fun r_3 u_2 => ((r_3 = 0 → K (-1) x (-1) u_2) ∧ (¬ r_3 = 0 → P u_2))) := fun P ha => mx_in0 (by omega) (fun _ => ⟨fun _ => k0 _, fun q => absurd rfl q⟩) (fun j hj e => by
    subst e
    rcases ha with ha | ha
    · exact absurd ha (nI_pos (by omega))
    · exact absurd ha (nI_ge hj (by omega)))
  refine ⟨fun ha => ⟨by decide, fun q => absurd (by decide) q, fun _ => ⟨v0, hneg _ (Or.inl ha)⟩⟩, fun ha => ⟨fun hb => ⟨by decide, fun q => absurd (by decide) q, fun _ => ⟨v0, hneg _ (Or.inr hb)⟩⟩, fun hb => ⟨by decide, fun _ => ?_, fun q => absurd q (by decide)⟩⟩⟩
  obtain ⟨j, hj, rfl⟩ := (pk_ix a (n := f) (by omega)).resolve_left ha |>.resolve_left hb
  have hc : (nI j).toNatClampNeg = j := nI_clamp (by omega)
  have hv : vp_in (nI j) 48 := vp_in_nI (by omega) (by omega)
  have hv2 : vp_in (nI j) 96 := vp_in_nI (by omega) (by omega)
  obtain ⟨q1, q2, q3, -⟩ := hH j (by omega)
  have hin : ∀ P : Int32 → th_St → Prop, P 1 (th_si m 0 0) → M_isIn (nI j) (0 : Int32) (nI f - (1 : Int32)) (th_si m 0 0) P := fun P hP => mx_in0 (by omega) (fun q => q.elim (fun q => absurd q ha) (fun q => absurd q hb)) (fun _ _ _ => hP)
  rw [hc]
  have hM1 : ∀ P : Int32 → th_St → Prop, (b = 0 ∨ b = 1 → P 1 (th_si m 0 0)) → (¬ (b = 0 ∨ b = 1) → P 0 (th_si m 0 0)) → M_isIn b 0 1 (th_si m 0 0) P := by
    intro P hp hq
    refine mx_isIn ?_
    by_cases hbb : b = 0 ∨ b = 1
    · rw [if_pos (by rcases hbb with rfl | rfl <;> decide)]; exact hp hbb
    · rw [if_neg]
      · exact hq hbb
      · intro hr
        rw [tt_0, tt_1] at hr
        rcases (show b.toInt = 0 ∨ b.toInt = 1 by omega) with e | e
        · exact hbb (Or.inl (by rw [ti_eq, e, tt_0]))
        · exact hbb (Or.inr (by rw [ti_eq, e, tt_1]))
  refine ⟨fun hb0 => ⟨fun hb1 => ⟨v0, hin _ ⟨fun q => absurd q c10, fun _ => hM1 _ (fun q => absurd q (by simp [hb0, hb1])) (fun _ => ⟨fun q => absurd rfl q, fun _ => k0 _⟩)⟩⟩, fun hb1 => ⟨hv, v0, hin _ ⟨fun q => absurd q c10, fun _ => hM1 _ (fun _ => ⟨fun _ => ⟨fun q => absurd hb1 q, fun _ => ⟨hv2, ?_⟩⟩, fun q => absurd q c10⟩) (fun q => absurd (Or.inr hb1) q)⟩⟩⟩, fun hb0 => ⟨hv, ?_⟩⟩
  · show K (xa x 308 j) x (m.2.2.1 7 j) _
    rw [q3]; exact k0 _
  · have hM2 : ∀ r : Int32, ((m.2.2.1 6 j = 0 → K r x 0 (th_si m 0 0)) ∧ (¬ m.2.2.1 6 j = 0 → K r x 1 (th_si m 0 0))) → (vp_in (0 : Int32) 2 ∧ M_isIn (nI j) (0 : Int32) (nI f - (1 : Int32)) (th_si m 0 0) (fun r_4 u_3 => ((r_4 = 0 → K r x (-1) u_3) ∧ (¬ r_4 = 0 → M_isIn b 0 1 u_3 (fun r_6 u_5 => ((¬ r_6 = 0 → ((¬ b = 1 → (vp_in (nI j) 96 ∧ ((u_5.2.2.1 6 j = 0 → K r x 0 u_5) ∧ (¬ u_5.2.2.1 6 j = 0 → K r x 1 u_5)))) ∧ (b = 1 → (vp_in (nI j) 96 ∧ K r x (u_5.2.2.1 7 j) u_5)))) ∧ (r_6 = 0 → K r x (-1) u_5))))))) := fun r hr => ⟨v0, hin _ ⟨fun q => absurd q c10, fun _ => hM1 _ (fun _ => ⟨fun _ => ⟨fun _ => ⟨hv2, hr⟩, fun q => absurd q (by rw [hb0]; decide)⟩, fun q => absurd q c10⟩) (fun q => absurd (Or.inl hb0) q)⟩⟩
    refine ⟨fun hy => hM2 0 ⟨fun _ => k0 _, fun q => absurd (by rw [← q1]; exact hy) q⟩, fun hy => hM2 1 ⟨fun q => absurd (by rw [q1]; exact q) hy, fun _ => k0 _⟩⟩
theorem sx_fault {x : xs_St} {m : th_St} (h : xi x 212 = m.1 28) {K : Int32 → xs_St → Int32 → th_St → Prop} (k0 : ∀ r : Int32, K r x r (th_si m 0 0)) : X_TH_fault x (fun r x' => M_fault m (fun r' m' => K r x' r' m')) := by
  unfold X_TH_fault M_fault
  intro u e
  subst e
  show K (xi x 212) x (m.1 28) _
  rw [h]; exact k0 _
theorem sx_count {x : xs_St} {m : th_St} (h5 : xi x 101 = m.1 2) (h0 : xi x 12 = m.1 5) (h1 : xi x 300 = m.2.2.1 11 0) (h2 : xi x 504 = m.1 30) (h3 : xi x 305 = m.2.2.1 15 0) (h4 : xi x 505 = m.1 31) {a : Int32} {K : Int32 → xs_St → Int32 → th_St → Prop} (k0 : ∀ r : Int32, K r x r (th_si m 0 0)) : X_TH_count a x (fun r x' => M_count a m (fun r' m' => K r x' r' m')) := by
  have z0 : ((0 : Int32)).toNatClampNeg = 0 := by decide
  have v0 : vp_in (0 : Int32) 2 := by unfold vp_in; decide
  have hM : ∀ r : Int32, (a = 0 → r = m.1 5) → (a = 1 → r = m.2.2.1 11 0) → (a = 2 → r = m.1 30) → (a = 3 → r = m.2.2.1 15 0) → (a = 4 → r = m.1 31) → (a = 5 → r = m.1 2) → (¬ (a = 0 ∨ a = 1 ∨ a = 2 ∨ a = 3 ∨ a = 4 ∨ a = 5) → r = -1) → M_count a m (fun r' m' => K r x r' m') := by
    intro r p0 p1 p2 p3 p4 p5 p6
    unfold M_count
    intro u e
    subst e
    refine ⟨fun e => ?_, fun e => ⟨v0, fun y ey => ?_⟩, fun e => ?_, fun e => ⟨v0, fun y ey => ?_⟩, fun e => ?_, fun e => ?_, fun e => ?_⟩
    · rw [p0 e]; exact k0 _
    · rw [ey, z0, p1 e]; exact k0 _
    · rw [p2 e]; exact k0 _
    · rw [ey, z0, p3 e]; exact k0 _
    · rw [p4 e]; exact k0 _
    · rw [p5 e]; exact k0 _
    · rw [p6 e]; exact k0 _
  have dd : ∀ i j : Int32, ¬ i = j → a = i → a = j → False := fun i j h p q => h (p.symm.trans q)
  unfold X_TH_count
  refine ⟨fun e => hM _ (fun _ => h0) ?_ ?_ ?_ ?_ ?_ ?_, fun e => hM _ ?_ (fun _ => h1) ?_ ?_ ?_ ?_ ?_, fun e => hM _ ?_ ?_ (fun _ => h2) ?_ ?_ ?_ ?_, fun e => hM _ ?_ ?_ ?_ (fun _ => h3) ?_ ?_ ?_, fun e => hM _ ?_ ?_ ?_ ?_ (fun _ => h4) ?_ ?_, fun e => hM _ ?_ ?_ ?_ ?_ ?_ (fun _ => h5) ?_, fun e => hM _ ?_ ?_ ?_ ?_ ?_ ?_ (fun _ => rfl)⟩ <;> intro e' <;> first | exact absurd (e.symm.trans e') (by decide) | exact absurd (by simp [e]) e' | exact absurd (by simp [e']) e

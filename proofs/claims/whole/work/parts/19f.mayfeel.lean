/-! mayFeel -/
theorem mx_in1 {a : Int32} {n : Nat} {u : th_St} {K : Int32 → th_St → Prop} (hn : n < 2147483648) (h0 : ¬ (0 ≤ a.toInt ∧ a.toInt < n) → K 0 u) (h1 : ∀ j : Nat, j < n → a = nI j → K 1 u) : M_isIn a (0 : Int32) (nI n - (1 : Int32)) u K := by
  refine mx_in0 hn (fun q => h0 (fun q2 => ?_)) h1
  rcases q with q | q
  · rw [ti_lt, tt_0] at q; omega
  · rw [ti_le, ti_nI hn] at q; omega
theorem sx_may {x : xs_St} {m : th_St} (h : sMay x m) {a b : Int32} {KT : xs_St → Int32 → th_St → Prop} {K : Int32 → xs_St → Int32 → th_St → Prop} (k0 : ∀ r, KT x r (th_si m 0 1)) (k1 : ∀ r, K r x r (th_si m 0 0)) : X_TH_mayFeel (fun x' => M_mayFeel a b m (fun r' m' => KT x' r' m')) a b x (fun r x' => M_mayFeel a b m (fun r' m' => K r x' r' m')) := by
  obtain ⟨n, hn, h602, h48, hk⟩ := h
  have c1 : (1 : Int32).toInt = 1 := by decide
  have bad : ∀ (L : Int32 → th_St → Prop), ¬ ((0 ≤ a.toInt ∧ a.toInt < n) ∧ 0 ≤ b.toInt ∧ b.toInt ≤ 1) → L 0 (th_si m 0 1) → M_mayFeel a b m L := by
    intro L hno hL
    have t1 : M_mayFeel_24 L a b m := by
      unfold M_mayFeel_24 M_mayFeel_29
      refine mx_throws (b := 1) (by omega) ?_
      exact ⟨fun q => absurd q (by decide), fun _ => hL⟩
    unfold M_mayFeel
    rw [h48]
    refine mx_in1 (by omega) (fun q => ⟨fun _ => t1, fun g => absurd rfl g⟩) (fun j hj ej => ⟨fun g => absurd g (by decide), fun _ => ?_⟩)
    refine mx_is2 (lo := 0) (hi := 1) tt_0 c1 (fun q1 q2 => ?_) (fun q => ⟨fun g => absurd rfl g, fun _ => t1⟩)
    exfalso
    subst ej
    rw [ti_nI (by omega)] at hno
    omega
  have good : ∀ (L : Int32 → th_St → Prop) (j : Nat), j < n → a = nI j → 0 ≤ b.toInt → b.toInt ≤ 1 → (b = 0 → L (m.2.2.1 46 j) (th_si m 0 0)) → (¬ b = 0 → L (m.2.2.1 47 j) (th_si m 0 0)) → M_mayFeel a b m L := by
    intro L j hj ej q1 q2 hL1 hL2
    subst ej
    unfold M_mayFeel
    rw [h48]
    refine mx_in1 (by omega) (fun q => absurd (by rw [ti_nI (by omega)]; omega) q) (fun j2 hj2 ej2 => ⟨fun g => absurd g (by decide), fun _ => ?_⟩)
    refine mx_is2 (lo := 0) (hi := 1) tt_0 c1 (fun q1 q2 => ⟨fun _ => ?_, fun g => absurd g (by decide)⟩) (fun q => absurd ⟨q1, q2⟩ q)
    unfold M_mayFeel_29 M_mayFeel_56
    refine mx_throws (b := 0) (by omega) ?_
    refine ⟨fun _ => ⟨fun g => ?_, fun g => ?_⟩, fun g => absurd rfl g⟩
    · refine And.intro (vp_in_nI (by omega) (by omega)) ?_
      intro y e
      rw [ni_cl (by omega)] at e
      subst e
      exact hL2 g
    · refine And.intro (vp_in_nI (by omega) (by omega)) ?_
      intro y e
      rw [ni_cl (by omega)] at e
      subst e
      exact hL1 g
  unfold X_TH_mayFeel X_TH_mayFeel_24 X_TH_mayFeel_59
  have hlow : ∀ {z : Int32}, z < 0 → z.toInt < 0 := fun {z} q => by rw [ti_lt, tt_0] at q; exact q
  have hlow' : ∀ {z : Int32}, ¬ z < 0 → 0 ≤ z.toInt := fun {z} q => by rw [ti_lt, tt_0] at q; omega
  refine br1 (fun g => bad _ (fun q => by have := hlow g; omega) (k0 _)) (fun g => ?_)
  rw [h602]
  refine br1 (fun g1 => bad _ (fun q => by rw [ti_le, ti_nI (by omega)] at g1; omega) (k0 _)) (fun g1 => ?_)
  refine br1 (fun g2 => bad _ (fun q => by have := hlow g2; omega) (k0 _)) (fun g2 => ?_)
  refine br1 (fun g3 => ?_) (fun g3 => bad _ (fun q => by rw [ti_le, c1] at g3; omega) (k0 _))
  rw [ti_le, c1] at g3
  rw [ti_le, ti_nI (by omega)] at g1
  have g0 := hlow' g
  have g20 := hlow' g2
  obtain ⟨j, hj⟩ := Int.eq_ofNat_of_zero_le g0
  have ej := ti_of hj
  subst ej
  have hkj := hk j (by omega)
  refine br2 (fun g4 => ?_) (fun g4 => ?_)
  · refine And.intro (vp_in_nI (by omega) (by omega)) ?_
    intro y e
    rw [ni_cl (by omega), hkj.2] at e
    subst e
    exact good _ j (by omega) rfl g20 g3 (fun q => absurd q g4) (fun _ => k1 _)
  · refine And.intro (vp_in_nI (by omega) (by omega)) ?_
    intro y e
    rw [ni_cl (by omega), hkj.1] at e
    subst e
    exact good _ j (by omega) rfl g20 g3 (fun _ => k1 _) (fun q => absurd g4 q)

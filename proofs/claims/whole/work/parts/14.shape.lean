/-! reading the tape; shape -/
theorem th_saa (x : th_St) (k : Nat) (f g : Nat → Int32) : th_sa (th_sa x k f) k g = th_sa x k g := by simp [th_sa, bx_uu]
theorem xs_saa (x : xs_St) (k : Nat) (f g : Nat → Int32) : xs_sa (xs_sa x k f) k g = xs_sa x k g := by simp [xs_sa, th_sa, bx_uu]
theorem sx_sgn {x : xs_St} {K : Int32 → xs_St → Prop} {n j : Nat} (hn : n ≤ 440) (h1 : xi x 101 = nI n) (hj : j < n) (h : K (xa x 100 j) x) : X_TP_signed (nI j) x K := by
  unfold X_TP_signed X_TP_signed_21 X_TP_signed_22
  refine ⟨fun q => absurd q (nI_pos (by omega)), fun _ => ⟨fun q => absurd q (by rw [h1]; exact nI_ge hj (by omega)), fun _ => ⟨vp_in_nI (by omega) (by omega), fun y e => ?_⟩⟩⟩
  rw [e, nI_clamp (by omega)]; exact h
theorem sx_usg {x : xs_St} {K : Int32 → xs_St → Prop} {n j : Nat} (hn : n ≤ 440) (h1 : xi x 101 = nI n) (hj : j < n) (h : K (xa x 100 j &&& (255 : Int32)) x) : X_TP_unsigned (nI j) x K := by
  unfold X_TP_unsigned
  exact sx_sgn hn h1 hj h
theorem sx_sgnE {x : xs_St} {K : Int32 → xs_St → Prop} {n : Nat} {a : Int32} (j : Nat) (ha : a = nI j) (hn : n ≤ 440) (h1 : xi x 101 = nI n) (hj : j < n) (h : K (xa x 100 j) x) : X_TP_signed a x K := by subst ha; exact sx_sgn hn h1 hj h
theorem sx_usgE {x : xs_St} {K : Int32 → xs_St → Prop} {n : Nat} {a : Int32} (j : Nat) (ha : a = nI j) (hn : n ≤ 440) (h1 : xi x 101 = nI n) (hj : j < n) (h : K (xa x 100 j &&& (255 : Int32)) x) : X_TP_unsigned a x K := by subst ha; exact sx_usg hn h1 hj h
def s_wi (c : Nat) (b : Int32) : Prop := -(c : Int) ≤ b.toInt ∧ b.toInt ≤ c
theorem sx_allW {x : xs_St} {K : Int32 → xs_St → Prop} {n a b c : Nat} (hn : n ≤ 440) (h1 : xi x 101 = nI n) (hab : a ≤ b) (hb : b ≤ n) (hc : c ≤ 1000) (hall : (∀ i, a ≤ i → i < b → s_wi c (xa x 100 i)) → K 1 x) (hno : (∃ i, a ≤ i ∧ i < b ∧ ¬ s_wi c (xa x 100 i)) → K 0 x) : X_TP_allWithin (nI a) (nI b) (nI c) x K := by
  have cc : (nI c).toInt = c := ti_nI (by omega)
  have cm : (-(nI c)).toInt = -c := by rw [ti_neg] <;> rw [cc] ; omega
  have go : ∀ d i, i + d = b → a ≤ i → (∀ j, a ≤ j → j < i → s_wi c (xa x 100 j)) → X_TP_allWithin_3_lp K (d + 1) (nI b) (nI c) (nI i) x := by
    intro d
    induction d with
    | zero =>
      intro i hi ha hj
      show X_TP_allWithin_3 K _ (nI b) (nI c) (nI i) x
      unfold X_TP_allWithin_3
      have e : i = b := by omega
      subst e
      exact ⟨fun _ => ⟨by decide, hall hj⟩, fun q => absurd (Int32.le_refl _) q⟩
    | succ d ih =>
      intro i hi ha hj
      show X_TP_allWithin_3 K (X_TP_allWithin_3_lp K (d + 1)) (nI b) (nI c) (nI i) x
      unfold X_TP_allWithin_3 X_TP_allWithin_30
      refine ⟨fun q => absurd q (nI_ge (by omega) (by omega)), fun _ => sx_sgn hn h1 (by omega) ⟨fun q => ⟨by decide, hno ⟨i, ha, by omega, fun w => ?_⟩⟩, fun q1 => sx_sgn hn h1 (by omega) ⟨fun q2 z e => ?_, fun q2 => ⟨by decide, hno ⟨i, ha, by omega, fun w => ?_⟩⟩⟩⟩⟩
      · rw [ti_lt, cm] at q
        have := w.1; omega
      · rw [e, nI_1]
        refine ih (i + 1) (by omega) (by omega) (fun j h2 h3 => ?_)
        rcases Nat.lt_or_ge j i with h4 | h4
        · exact hj j h2 h4
        · have : j = i := by omega
          subst this
          rw [ti_lt, cm] at q1
          rw [ti_le, cc] at q2
          exact ⟨by omega, q2⟩
      · rw [ti_le, cc] at q2
        exact q2 w.2
  exact ⟨_, go (b - a) a (by omega) (Nat.le_refl _) (fun j h2 h3 => by omega)⟩
theorem sx_allWE {x : xs_St} {K : Int32 → xs_St → Prop} {n : Nat} {a' b' c' : Int32} (a b c : Nat) (ea : a' = nI a) (eb : b' = nI b) (ec : c' = nI c) (hn : n ≤ 440) (h1 : xi x 101 = nI n) (hab : a ≤ b) (hb : b ≤ n) (hc : c ≤ 1000) (hall : (∀ i, a ≤ i → i < b → s_wi c (xa x 100 i)) → K 1 x) (hno : (∃ i, a ≤ i ∧ i < b ∧ ¬ s_wi c (xa x 100 i)) → K 0 x) : X_TP_allWithin a' b' c' x K := by subst ea; subst eb; subst ec; exact sx_allW hn h1 hab hb hc hall hno
/-- thrown := 0, then taken(): the tape's bytes stand in the reference's array, its size in field 3 -/
abbrev mT (m : th_St) : th_St := th_si (th_si (th_si (th_si m 0 0) 3 (m.1 2)) 2 0) 4 0
theorem mx_taken {m : th_St} {K : th_St → Prop} (h : K (mT m)) : M_taken (th_si m 0 0) K := by
  unfold M_taken
  intro u1 e1 u2 e2 u3 e3
  subst e1; subst e2; subst e3
  exact h
/-- shapes: sizes alike, and as many numbers -/
def sShape (x : xs_St) (m : th_St) : Prop := ∀ k, k < 6 → ∃ L : Nat, L ≤ 9 ∧ xa x 700 k = nI L ∧ m.2.2.1 50 k = nI L ∧ ∀ j, j < L → xa x 701 (9 * k + j) = m.2.2.1 49 (9 * k + j) ∧ s_wi 99 (xa x 701 (9 * k + j))
theorem mx_is2 {a b c : Int32} {lo hi : Int} {u : th_St} {K : Int32 → th_St → Prop} (hb : b.toInt = lo) (hc : c.toInt = hi) (h1 : lo ≤ a.toInt → a.toInt ≤ hi → K 1 u) (h0 : ¬ (lo ≤ a.toInt ∧ a.toInt ≤ hi) → K 0 u) : M_isIn a b c u K := by
  subst hb; subst hc
  refine mx_isIn ?_
  by_cases h : b.toInt ≤ a.toInt ∧ a.toInt ≤ c.toInt
  · rw [if_pos h]; exact h1 h.1 h.2
  · rw [if_neg h]; exact h0 h
/-- what may be a SHAPE: its number, how many numbers, the numbers -/
def s_acc (a : Int32) (n : Nat) (f : Nat → Int32) : Prop := (0 ≤ a.toInt ∧ a.toInt ≤ 5) ∧ (1 ≤ n ∧ n ≤ 9) ∧ ¬ f 0 = 0 ∧ ∀ i, i < n → s_wi 99 (f i)
theorem mx_shape {m : th_St} {n : Nat} (hn : n ≤ 440) (h2 : m.1 2 = nI n) {a : Int32} {K : Int32 → th_St → Prop} (k0 : ¬ s_acc a n (m.2.2.1 1) → K 0 (mT m))
    (k1 : s_acc a n (m.2.2.1 1) → ∀ (k : Nat) (g : Nat → Int32), k < 6 → a = nI k → (∀ j, j < n → g (9 * k + j) = m.2.2.1 1 j) → (∀ p, p < 9 * k ∨ 9 * k + 9 ≤ p → g p = m.2.2.1 49 p) → K 1 (th_sa (th_sa (mT m) 49 g) 50 (upd (m.2.2.1 50) k (nI n)))) : M_shape a m K := by
  have e3 : (mT m).1 3 = nI n := h2
  have cn : (nI n).toInt = n := ti_nI (by omega)
  have c10 : ¬ (1 : Int32) = 0 := by decide
  have z0 : ((0 : Int32)).toNatClampNeg = 0 := by decide
  unfold M_shape M_shape_40
  intro u e
  subst e
  refine mx_taken (mx_is2 (lo := 0) (hi := 5) (by decide) (by decide) (fun ha1 ha2 => ⟨fun q => absurd q c10, fun _ => mx_is2 (lo := 1) (hi := 9) (by decide) (by decide) (fun hb1 hb2 => ⟨fun q => absurd q c10, fun _ => ⟨by unfold vp_in; decide, fun y ey => ⟨fun hy => ?_, fun hy => ⟨by decide, k0 (fun h => h.2.2.1 ?_)⟩⟩⟩⟩) (fun hb => ⟨fun _ => ⟨by decide, k0 (fun h => hb ?_)⟩, fun q => absurd rfl q⟩)⟩) (fun ha => ⟨fun _ => ⟨by decide, k0 (fun h => ha h.1)⟩, fun q => absurd rfl q⟩))
  · rw [z0] at ey
    have ey : y = m.2.2.1 1 0 := ey
    rw [e3, cn] at hb1 hb2
    obtain ⟨k, hk⟩ := Int.eq_ofNat_of_zero_le ha1
    have ek := ti_of hk
    subst ek
    have go2 : (∀ i, i < n → s_wi 99 (m.2.2.1 1 i)) → ∀ d i g, i + d = n → (∀ j, j < i → g (9 * k + j) = m.2.2.1 1 j) → (∀ p, p < 9 * k ∨ 9 * k + 9 ≤ p → g p = m.2.2.1 49 p) → M_shape_78_lp K (d + 1) (nI k) (nI i) (th_sa (mT m) 49 g) := by
      intro hall d
      induction d with
      | zero =>
        intro i g hi h1 h2'
        show M_shape_78 K _ (nI k) (nI i) (th_sa (mT m) 49 g)
        unfold M_shape_78
        have e : i = n := by omega
        subst e
        refine ⟨fun _ => ⟨vp_in_nI (by omega) (by omega), fun u1 e1 => ⟨by decide, ?_⟩⟩, fun q => absurd (by show (mT m).1 3 ≤ _; rw [e3]; exact Int32.le_refl _) q⟩
        subst e1
        have := k1 ⟨⟨ha1, ha2⟩, ⟨by omega, by omega⟩, fun h => hy (ey.trans h), hall⟩ k g (by omega) rfl h1 h2'
        rw [nI_clamp (by omega)]
        show K 1 (th_sa (th_sa (mT m) 49 g) 50 (upd (m.2.2.1 50) k (m.1 2)))
        rw [h2]; exact this
      | succ d ih =>
        intro i g hi h1 h2'
        show M_shape_78 K (M_shape_78_lp K (d + 1)) (nI k) (nI i) (th_sa (mT m) 49 g)
        unfold M_shape_78
        have ep : (9 : Int32) * nI k + nI i = nI (9 * k + i) := by rw [show (9 : Int32) = nI 9 by decide, pk_mul, nI_add]
        refine ⟨fun q => absurd q (by show ¬ (mT m).1 3 ≤ _; rw [e3]; exact nI_ge (by omega) (by omega)), fun _ => ⟨vp_in_nI (by omega) (by omega), fun y1 e1 => ⟨by rw [ep]; exact vp_in_nI (by omega) (by omega), fun u1 e2 x4 e4 => ?_⟩⟩⟩
        subst e2
        rw [e4, nI_1, ep, nI_clamp (by omega), th_saa]
        rw [nI_clamp (by omega)] at e1
        refine ih (i + 1) _ (by omega) (fun j hj => ?_) (fun p hp => ?_)
        · show upd g (9 * k + i) y1 (9 * k + j) = _
          rcases Nat.lt_or_ge j i with h4 | h4
          · rw [pk_un (by omega)]; exact h1 j h4
          · have : j = i := by omega
            subst this
            rw [pk_us]; exact e1
        · show upd g (9 * k + i) y1 p = _
          rw [pk_un (by omega)]; exact h2' p hp
    have go : ∀ d i, i + d = n → (∀ j, j < i → s_wi 99 (m.2.2.1 1 j)) → M_shape_44_lp K (d + 1) (nI k) (nI i) (mT m) := by
      intro d
      induction d with
      | zero =>
        intro i hi hj
        show M_shape_44 K _ (nI k) (nI i) (mT m)
        unfold M_shape_44
        have e : i = n := by omega
        subst e
        refine ⟨fun _ => ⟨i + 1, ?_⟩, fun q => absurd (by rw [e3]; exact Int32.le_refl _) q⟩
        have := go2 hj i 0 (m.2.2.1 49) (by omega) (fun j h => by omega) (fun p _ => rfl)
        have es : th_sa (mT m) 49 (m.2.2.1 49) = mT m := by
          simp [th_sa, th_si, mT]
          funext p
          by_cases hp : p = 49
          · subst hp; rw [va_up_self]
          · rw [va_up_ne _ _ hp]
        rw [es] at this
        exact this
      | succ d ih =>
        intro i hi hj
        show M_shape_44 K (M_shape_44_lp K (d + 1)) (nI k) (nI i) (mT m)
        unfold M_shape_44
        refine ⟨fun q => absurd q (by rw [e3]; exact nI_ge (by omega) (by omega)), fun _ => ⟨vp_in_nI (by omega) (by omega), fun y1 e1 => ?_⟩⟩
        rw [nI_clamp (by omega)] at e1
        have e1 : y1 = m.2.2.1 1 i := e1
        subst e1
        refine mx_is2 (lo := -99) (hi := 99) (by decide) (by decide) (fun w1 w2 => ⟨fun _ z ez => ?_, fun q => absurd q c10⟩) (fun hw => ⟨fun q => absurd rfl q, fun _ => ⟨by decide, k0 (fun h => hw (h.2.2.2 i (by omega)))⟩⟩)
        rw [ez, nI_1]
        refine ih (i + 1) (by omega) (fun j hj2 => ?_)
        rcases Nat.lt_or_ge j i with h4 | h4
        · exact hj j h4
        · have : j = i := by omega
          subst this; exact ⟨w1, w2⟩
    exact ⟨_, go n 0 (by omega) (fun j hj => by omega)⟩
  · rw [z0] at ey
    exact (show y = m.2.2.1 1 0 from ey).symm.trans hy
  · have := h.2.1
    rw [e3, cn]; omega
theorem sx_shapeX {x : xs_St} {n : Nat} (hn : n ≤ 440) (h1 : xi x 101 = nI n) {a : Int32} {K : Int32 → xs_St → Prop} (k0 : ¬ s_acc a n (xa x 100) → K 0 (xs_si x 101 0))
    (k1 : s_acc a n (xa x 100) → ∀ (k : Nat) (g : Nat → Int32), k < 6 → a = nI k → (∀ j, j < n → g (9 * k + j) = xa x 100 j) → (∀ p, p < 9 * k ∨ 9 * k + 9 ≤ p → g p = xa x 701 p) → K 1 (xs_si (xs_sa (xs_sa x 700 (upd (xa x 700) k (nI n))) 701 g) 101 0)) : X_TH_shape a x K := by
  have cn : (nI n).toInt = n := ti_nI (by omega)
  have c1 : (1 : Int32).toInt = 1 := by decide
  have c6 : (6 : Int32).toInt = 6 := by decide
  have c9 : (9 : Int32).toInt = 9 := by decide
  have c99 : (99 : Int32) = nI 99 := by decide
  have e00 : (0 : Int32) = nI 0 := by decide
  have hX0 : ¬ s_acc a n (xa x 100) → X_EX_takesShape_53 (fun r_2 u_1 => X_TP_clear u_1 (fun u_3 => ((r_2 = 0 ∨ r_2 = 1) ∧ K r_2 u_3))) a x := by
    intro hc
    unfold X_EX_takesShape_53 X_EX_takesShape_54 X_EX_takesShape_105 X_TP_clear
    exact ⟨fun _ => ⟨by decide, fun u e => ⟨by decide, by subst e; exact k0 hc⟩⟩, fun q => absurd rfl q⟩
  unfold X_TH_shape X_EX_takesShape
  simp only [h1, ti_lt, ti_le, tt_0, c6, cn, c1, c9]
  refine ⟨fun ha => hX0 (fun h => by have := h.1; omega), fun ha => ⟨fun hb => hX0 (fun h => by have := h.1; omega), fun hb => ⟨fun hd => hX0 (fun h => by have := h.2.1; omega), fun hd => ⟨fun he => hX0 (fun h => by have := h.2.1; omega), fun he => ?_⟩⟩⟩⟩
  refine sx_sgnE 0 e00 hn h1 (by omega) ⟨fun h0 => hX0 (fun h => h.2.2.1 h0), fun h0 => ?_⟩
  refine sx_allWE 0 n 99 e00 h1 c99 hn h1 (Nat.zero_le _) (Nat.le_refl _) (by omega) (fun hall => ⟨fun q => absurd q (by decide), fun _ => ?_⟩) (fun ⟨i, _, hi, hw⟩ => ⟨fun _ => hX0 (fun h => hw (h.2.2.2 i hi)), fun q => absurd (by decide) q⟩)
  obtain ⟨k, hk⟩ := Int.eq_ofNat_of_zero_le (show 0 ≤ a.toInt by omega)
  have ek := ti_of hk
  subst ek
  unfold X_EX_takesShape_54
  refine ⟨fun q => absurd q (by decide), fun _ => ⟨vp_in_nI (by omega) (by omega), fun u1 e1 => ?_⟩⟩
  subst e1
  rw [nI_clamp (by omega), h1]
  have go : ∀ d i g, i + d = n → (∀ j, j < i → g (9 * k + j) = xa x 100 j) → (∀ p, p < 9 * k ∨ 9 * k + 9 ≤ p → g p = xa x 701 p) → X_EX_takesShape_72_lp (fun r_2 u_1 => X_TP_clear u_1 (fun u_3 => ((r_2 = 0 ∨ r_2 = 1) ∧ K r_2 u_3))) (d + 1) (nI k) 1 (nI i) (xs_sa (xs_sa x 700 (upd (xa x 700) k (nI n))) 701 g) := by
    intro d
    induction d with
    | zero =>
      intro i g hi q1 q2
      show X_EX_takesShape_72 _ _ (nI k) 1 (nI i) _
      unfold X_EX_takesShape_72 X_EX_takesShape_105 X_TP_clear
      have e : i = n := by omega
      subst e
      refine ⟨fun _ => ⟨by decide, fun u e => ⟨by decide, ?_⟩⟩, fun q => absurd (by show xi x 101 ≤ _; rw [h1]; exact Int32.le_refl _) q⟩
      subst e
      exact k1 ⟨⟨by omega, by omega⟩, ⟨by omega, by omega⟩, fun h => h0 h, fun i hi => hall i (Nat.zero_le _) hi⟩ k g (by omega) rfl q1 q2
    | succ d ih =>
      intro i g hi q1 q2
      show X_EX_takesShape_72 _ (X_EX_takesShape_72_lp _ (d + 1)) (nI k) 1 (nI i) _
      unfold X_EX_takesShape_72
      have ep : nI k * (9 : Int32) + nI i = nI (9 * k + i) := by rw [show (9 : Int32) = nI 9 by decide, pk_mul, nI_add, Nat.mul_comm]
      refine ⟨fun q => absurd q (by show ¬ xi x 101 ≤ _; rw [h1]; exact nI_ge (by omega) (by omega)), fun _ => sx_sgn hn (by exact h1) (by omega) ⟨by rw [ep]; exact vp_in_nI (by omega) (by omega), fun u1 e1 x4 e4 => ?_⟩⟩
      subst e1
      rw [e4, nI_1, ep, nI_clamp (by omega), xs_saa]
      refine ih (i + 1) _ (by omega) (fun j hj => ?_) (fun p hp => ?_)
      · show upd g (9 * k + i) (xa x 100 i) (9 * k + j) = _
        rcases Nat.lt_or_ge j i with h4 | h4
        · rw [pk_un (by omega)]; exact q1 j h4
        · have : j = i := by omega
          subst this
          rw [pk_us]
      · show upd g (9 * k + i) (xa x 100 i) p = _
        rw [pk_un (by omega)]; exact q2 p hp
  refine ⟨n + 1, ?_⟩
  have := go n 0 (xa x 701) (by omega) (fun j h => by omega) (fun p _ => rfl)
  have es : xs_sa (xs_sa x 700 (upd (xa x 700) k (nI n))) 701 (xa x 701) = xs_sa x 700 (upd (xa x 700) k (nI n)) := by
    simp [xs_sa, th_sa]
    funext p
    by_cases hp : p = 701
    · subst hp; rw [va_up_self]; rfl
    · rw [va_up_ne _ _ hp]
  rw [es] at this
  exact this
theorem sx_shape {x : xs_St} {m : th_St} (hT : sTape x m) (hS : sShape x m) {a : Int32} {K : Int32 → xs_St → Int32 → th_St → Prop}
    (k0 : K 0 (xs_si x 101 0) 0 (mT m)) (k1 : ∀ (f1 f2 g1 g2 : Nat → Int32), sShape (xs_si (xs_sa (xs_sa x 700 f1) 701 f2) 101 0) (th_sa (th_sa (mT m) 49 g1) 50 g2) → K 1 (xs_si (xs_sa (xs_sa x 700 f1) 701 f2) 101 0) 1 (th_sa (th_sa (mT m) 49 g1) 50 g2)) :
    X_TH_shape a x (fun r x' => M_shape a m (fun r' m' => K r x' r' m')) := by
  obtain ⟨n, hn, h1, h2, h3⟩ := hT
  have hiff : s_acc a n (xa x 100) ↔ s_acc a n (m.2.2.1 1) := by
    unfold s_acc
    constructor
    · rintro ⟨p1, p2, p3, p4⟩
      exact ⟨p1, p2, by rw [← (h3 0 (by omega)).1]; exact p3, fun i hi => by rw [← (h3 i hi).1]; exact p4 i hi⟩
    · rintro ⟨p1, p2, p3, p4⟩
      exact ⟨p1, p2, by rw [(h3 0 (by omega)).1]; exact p3, fun i hi => by rw [(h3 i hi).1]; exact p4 i hi⟩
  refine sx_shapeX hn h1 (fun hno => mx_shape hn h2 (fun _ => k0) (fun h => absurd (hiff.mpr h) hno)) (fun hacc k f hk ek f1 f2 => mx_shape hn h2 (fun h => absurd (hiff.mp hacc) h) (fun _ k' g hk' ek' g1 g2 => k1 _ _ _ _ ?_))
  have ekk : k' = k := by
    have := ek.symm.trans ek'
    rw [nI_eq (by omega) (by omega)] at this
    exact this.symm
  subst ekk
  intro i hi
  by_cases e : i = k'
  · subst e
    refine ⟨n, hacc.2.1.2, ?_, ?_, fun j hj => ?_⟩
    · show upd (xa x 700) i (nI n) i = _
      rw [pk_us]
    · show upd (m.2.2.1 50) i (nI n) i = _
      rw [pk_us]
    · show f (9 * i + j) = g (9 * i + j) ∧ s_wi 99 (f (9 * i + j))
      rw [f1 j hj, g1 j hj]
      exact ⟨(h3 j hj).1, hacc.2.2.2 j hj⟩
  · obtain ⟨L, hL, l1, l2, l3⟩ := hS i hi
    refine ⟨L, hL, ?_, ?_, fun j hj => ?_⟩
    · show upd (xa x 700) k' (nI n) i = _
      rw [pk_un e]; exact l1
    · show upd (m.2.2.1 50) k' (nI n) i = _
      rw [pk_un e]; exact l2
    · show f (9 * i + j) = g (9 * i + j) ∧ s_wi 99 (f (9 * i + j))
      rw [f2 _ (by omega), g2 _ (by omega)]
      exact l3 j hj

/-! text: the class's descent and the reference's pile, side by side -/
def SG (pg : Nat → Nat) (S S' D : Nat) : Prop := ∀ pg' : Nat → Nat, (∀ s, S ≤ s → s < S' → pg' s = pg s) → ∀ c d, d + D ≤ 40 → pwf pg' c S' (d + 1) → pwf pg' (c + (S' - S)) S d
def rB (t : TK) (x : xs_St) (u0 u : th_St) (l : List Nat) (k o S n : Nat) : Prop := mS t u0 u k o S n l ∧ prM x u S
def rA_ (t : TK) (y : xs_St) (u0 u : th_St) (l : List Nat) (k o S n : Nat) : Prop := mS t u0 u k o (S + nts l) n (dpN l) ∧ prM y u S ∧ ∀ i, i < nts l → u.2.2.1 16 (200 + (S + i)) = nI 10
/-- the reference is behind by the joins r -/
def rC_ (t : TK) (y : xs_St) (u0 u : th_St) (r l : List Nat) (k o S n : Nat) : Prop := r.length ≤ S ∧ mS t u0 u k o (S - r.length) n (r ++ l) ∧ prM y u (S - r.length) ∧ ∀ i, i < r.length → pgF y (S - r.length + i) = r.getD i 0
def pC (w : Nat) (l : List Nat) : Prop := pK l ∧ opn l + 1 = w ∧ l.length ≤ 3 * (w - 1) + 2
def pD (w : Nat) (l : List Nat) : Prop := pK l ∧ opn l + 1 = w ∧ l.length ≤ 3 * (w - 1) ∧ (l = [] ∨ ∃ l', l = 13 :: l')
def okR (t : TK) (x y : xs_St) (k o S k' o' S' n : Nat) : Prop := gX t y k' o' S' n ∧ xF x y ∧ exX x y S ∧ o + 1 ≤ o' ∧ S ≤ S' ∧ S' + 1 ≤ S + 2 * (o' - o) ∧ SG (pgF y) S S' (o' - o) ∧ k < k' ∧ xi y 212 = xi x 212
def siO (t : TK) (x y : xs_St) (k o S k' o' S' n w : Nat) : Prop := ∀ K u0 l u, rB t x u0 u l k o S n → pC w l → (∀ u', rA_ t y u0 u' l k' o' S' n → AO t K u' k') → BO t K u k
def siF (t : TK) (x : xs_St) (k o S n w kd pl : Nat) : Prop := ∀ K u0 l u, rB t x u0 u l k o S n → pC w l → (∀ y, fB u0 y kd pl → K 0 y) → BO t K u k
def siC (t : TK) (x y : xs_St) (k o S k' o' S' n w : Nat) : Prop := ∀ K u0 l u, rB t x u0 u l k o S n → pD w l → (∀ u' r, opT r → rC_ t y u0 u' r l k' o' S' n → AO t K u' k') → BO t K u k
def siG (t : TK) (x : xs_St) (k o S n w kd pl : Nat) : Prop := ∀ K u0 l u, rB t x u0 u l k o S n → pD w l → (∀ y, fB u0 y kd pl → K 0 y) → BO t K u k
def tOne (t : TK) (RO : Int32 → xs_St → (Int32 → xs_St → Prop) → Prop) (w : Nat) : Prop := ∀ x k o S n KX, gX t x k o S n → (∀ y k' o' S', okR t x y k o S k' o' S' n → siO t x y k o S k' o' S' n w → KX 1 y) → (∀ y kd pl, xF x y → (1 ≤ kd ∧ kd ≤ 4) → xi y 212 = nI kd → xi y 213 = nI pl → siF t x k o S n w kd pl → KX 0 y) → RO (nI w) x KX
def tCond (t : TK) (RC : Int32 → xs_St → (Int32 → xs_St → Prop) → Prop) (w : Nat) : Prop := ∀ x k o S n KX, gX t x k o S n → (∀ y k' o' S', okR t x y k o S k' o' S' n → kK t k' ≠ 19 → kK t k' ≠ 20 → siC t x y k o S k' o' S' n w → KX 1 y) → (∀ y kd pl, xF x y → (1 ≤ kd ∧ kd ≤ 4) → xi y 212 = nI kd → xi y 213 = nI pl → siG t x k o S n w kd pl → KX 0 y) → RC (nI w) x KX
theorem sx_isMs {x : xs_St} {c : Nat} {K : Int32 → xs_St → Prop} (hc : c < 27) (h1 : 22 ≤ c → K 1 x) (h0 : c < 22 → K 0 x) : X_RD_isMeasure (some c) x K := by
  unfold X_RD_isMeasure X_RD_isMeasure_35 X_RD_isMeasure_40
  have e : ∀ w : Nat, (some c = some w) = (c = w) := fun w => by simp
  rw [e, e, e, e, e]
  exact br1 (fun q => ⟨n011, h1 (by omega)⟩) (fun q0 => br1 (fun q => ⟨n011, h1 (by omega)⟩) (fun q1 => br1 (fun q => ⟨n011, h1 (by omega)⟩) (fun q2 => br1 (fun q => ⟨n011, h1 (by omega)⟩) (fun q3 => br2 (fun q4 => ⟨n010, h0 (by omega)⟩) (fun q => ⟨n011, h1 (by omega)⟩)))))
theorem prM_r {x : xs_St} {u v : th_St} {S : Nat} {r : List Nat} (h : prM x u S) (lo : loS u v S) (hi : ∀ i, i < r.length → v.2.2.1 16 (200 + (S + i)) = nI (r.getD i 0)) (hp : ∀ i, i < r.length → pgF x (S + i) = r.getD i 0) (hr : ∀ w, w ∈ r → 10 ≤ w) : prM x v (S + r.length) := fun s hs => by
  by_cases e : s < S
  · exact prM_u h lo s e
  · have h1 := hi (s - S) (by omega)
    have h2 := hp (s - S) (by omega)
    rw [show S + (s - S) = s by omega] at h1 h2
    refine ⟨by rw [h1, h2], fun g => ?_⟩
    have hm : r.getD (s - S) 0 ∈ r := by
      rw [List.getD_eq_getElem?_getD, List.getElem?_eq_getElem (by omega)]
      exact List.getElem_mem _
    have := hr _ hm
    omega
theorem okR_f {t : TK} {x x1 y : xs_St} {k o S k1 o1 S1 k' o' S' n : Nat} (hx : xF x x1) (he : exX x x1 S) (h : okR t x1 y k1 o1 S1 k' o' S' n) (hk : k < k') (hS : S1 = S) (ho : o1 = o + 1) : gX t y k' o' S' n ∧ xF x y ∧ exX x y S ∧ o + 1 ≤ o' ∧ S ≤ S' ∧ S' + 1 ≤ S + 2 * (o' - o) ∧ k < k' := by
  obtain ⟨a1, a2, a3, a4, a5, a6, a7, a8, -⟩ := h
  subst hS; subst ho
  exact ⟨a1, xh_t hx a2, exX_t he a3 (Nat.le_refl _), by omega, a5, by omega, hk⟩
theorem SG_w {pg : Nat → Nat} {S S' D D' : Nat} (h : SG pg S S' D) (hD : D ≤ D') : SG pg S S' D' := fun pg' he c d hd hw => h pg' he c d (by omega) hw
theorem SG_k {pg pg2 : Nat → Nat} {S S' D : Nat} (h : SG pg S S' D) (he : ∀ s, S ≤ s → s < S' → pg2 s = pg s) : SG pg2 S S' D := fun pg' he' c d hd hw => h pg' (fun s h1 h2 => (he' s h1 h2).trans (he s h1 h2)) c d hd hw
/-- a step that turns -/
theorem SG_n {pg : Nat → Nat} {S S' D : Nat} (h : SG pg S S' D) (hS : S ≤ S') (h10 : pg S' = 10) : SG pg S (S' + 1) D := by
  intro pg' he c d hd hw
  have h1 : pwf pg' (c + 1) S' (d + 1) := by
    rw [pwf, if_pos (by rw [he S' hS (by omega)]; exact h10)]
    exact ⟨by omega, hw⟩
  have := h pg' (fun s h1 h2 => he s h1 (by omega)) (c + 1) d hd h1
  rw [show c + 1 + (S' - S) = c + (S' + 1 - S) by omega] at this
  exact this
/-- two parts and what joins them -/
theorem SG_j {pg : Nat → Nat} {S S1 S2 D1 D2 : Nat} (h1 : SG pg S S1 D1) (h2 : SG pg S1 S2 D2) (hS : S ≤ S1) (hS2 : S1 ≤ S2) (hD : 1 ≤ D1) (hj : pg S2 = 11 ∨ pg S2 = 12) : SG pg S (S2 + 1) (D1 + D2) := by
  intro pg' he c d hd hw
  have e1 : pwf pg' (c + 1) S2 (d + 1 + 1) := by
    rw [pwf, he S2 (by omega) (by omega), if_neg (by omega), if_pos hj]
    exact ⟨by omega, hw⟩
  have e2 := h2 pg' (fun s a1 a2 => he s (by omega) (by omega)) (c + 1) (d + 1) (by omega) e1
  have e3 := h1 pg' (fun s a1 a2 => he s (by omega) (by omega)) (c + 1 + (S2 - S1)) d (by omega) e2
  rw [show c + 1 + (S2 - S1) + (S1 - S) = c + (S2 + 1 - S) by omega] at e3
  exact e3
theorem SG_m {pg : Nat → Nat} {S : Nat} (h : pg S ≤ 4) : SG pg S (S + 1) 1 := by
  intro pg' he c d hd hw
  rw [show c + (S + 1 - S) = c + 1 by omega, pwf, he S (Nat.le_refl _) (by omega), if_neg (by omega), if_neg (by omega)]
  exact ⟨h, by omega, hw⟩
theorem nts_t {l : List Nat} (h : l = [] ∨ ∃ v l', l = v :: l' ∧ v ≠ 10) : nts l = 0 ∧ dpN l = l := by
  rcases h with rfl | ⟨v, l', rfl, hv⟩
  · exact ⟨rfl, rfl⟩
  · rw [nts, dpN, if_neg hv, if_neg hv]; exact ⟨rfl, rfl⟩
theorem rd_one {t : TK} {RO RC : Int32 → xs_St → (Int32 → xs_St → Prop) → Prop} {w : Nat} (hA : kA t) (hw : 1 ≤ w ∧ w ≤ 11) (hRO : w ≤ 10 → tOne t RO (w + 1)) (hRC : w ≤ 10 → tCond t RC (w + 1)) : tOne t (X_RD_readOne_B RO RC) w := by
  intro x k o S n KX hg kok kbad
  obtain ⟨g1, g2, g3, g4, g5, g6, g7, g8⟩ := id hg
  have hkT := g1.2.2.2
  have h27 := kA_27 hA hkT
  have hS79 := g5
  have go : (kK t k = 21 ∨ kK t k = 4 ∨ 22 ≤ kK t k) → X_RD_readOne_B_32 RO RC KX (nI w) (some (kK t k)) x := by
    intro hgood
    have hlt := kA_l hA hkT (by omega)
    have flt4 : (o = 40 ∨ w = 11) → X_RD_readOne_B_47 RO RC KX x := by
      intro hor
      unfold X_RD_readOne_B_47
      refine sx_flt (kd := 4) hA g1 (fun y yf => ⟨n010, ?_⟩)
      refine kbad y 4 (kP t k) (xh_w yf.1 (by decide) (by decide) (by decide)) (by omega) yf.2.1 yf.2.2 ?_
      intro K u0 l u hB hC hK
      obtain ⟨c1, c2, c3⟩ := hC
      exact BO_b4 hA hB.1 hkT hgood g3 (by omega) c1 (by omega) (by omega) hK
    unfold X_RD_readOne_B_32
    have c40 : ((40 : Int32) ≤ nI o) = (40 ≤ o) := ni_le (a := 40) (by omega) (by omega)
    have c10 : (nI w ≤ (10 : Int32)) = (w ≤ 10) := ni_le (b := 10) (by omega) (by omega)
    rw [g2, c40, c10]
    refine br1 (fun q => flt4 (by omega)) (fun q => br1 (fun q2 u1 e1 => ?_) (fun q2 => flt4 (by omega)))
    rw [show nI o + (1 : Int32) = nI (o + 1) from nI_1 o] at e1
    have f1 : xh [208] [] [] x u1 := by rw [e1]; exact xh_i (by decide) (xh_r x)
    have c1 : cX t u1 k := cX_h g1 f1 (by rw [e1]; rfl) (by decide) (by decide) (by decide)
    refine sx_adv hA c1 hlt (fun x2 f2 c2 => ?_)
    have F2 : xF x x2 := xh_t (xh_w f1 (by decide) (by decide) (by decide)) (xh_w f2 (by decide) (by decide) (by decide))
    have E2 : exX x x2 S := exX_t (exX_h (S := S) f1 (by decide) (by decide)) (exX_h (S := S) f2 (by decide) (by decide)) (Nat.le_refl _)
    have x212 : xi x2 212 = xi x 212 := (f2.1 212 (by decide)).trans (f1.1 212 (by decide))
    have G2 : gX t x2 (k + 1) (o + 1) S n := ⟨c2, by rw [f2.1 208 (by decide), e1]; exact xsi_s _ _ _, by omega, by rw [f2.1 406 (by decide), f1.1 406 (by decide)]; exact g4, by omega, by rw [f2.1 400 (by decide), f1.1 400 (by decide)]; exact g6, g7, vX_e g8 E2⟩
    rw [show nI w + (1 : Int32) = nI (w + 1) from nI_1 w]
    have es : ∀ v : Nat, (some (kK t k) = some v) = (kK t k = v) := fun v => by simp
    rw [es, es]
    refine br2 (fun q4 => br1 (fun q21 => ?_) (fun q21 => ?_)) (fun q4 => ?_)
    · refine hRO q2 x2 (k + 1) (o + 1) S n _ G2 (fun y1 k1 o1 S1 hok hsim => ⟨fun _ => ?_, fun g => absurd g (by decide)⟩) (fun y1 kd pl yF hkd y212 y213 hsim => ⟨fun g => absurd rfl g, fun _ => ⟨n010, ?_⟩⟩)
      · obtain ⟨a1, a2, a3, a4, a5, a6, a7, a8, a9⟩ := id hok
        have ao1 := a1.2.2.1
        refine sx_addJ (w := 21) a1 (by omega) (by omega) (fun y yg yF yE yp y212 => ⟨n011, ?_⟩)
        have yp : pgF y S1 = 10 := yp
        refine kok y k1 o1 (S1 + 1) ⟨yg, xh_t F2 (xh_t a2 yF), exX_t E2 (exX_t a3 yE a5) (Nat.le_refl _), by omega, by omega, by omega, ?_, by omega, y212.trans (a9.trans x212)⟩ ?_
        · exact SG_w (SG_n (SG_k a7 (fun s _ h2 => (exX_p yE h2).1)) a5 yp) (by omega)
        · intro K u0 l u hB hC hK
          obtain ⟨p1, p2, p3⟩ := hC
          refine BO_p (z := 10) hA hB.1 hkT (Or.inl ⟨q21, rfl⟩) (by omega) (by omega) p1 (by omega) (fun u' m' lo' => ?_)
          refine hsim K u0 (10 :: l) u' ⟨m', prM_x (prM_u hB.2 lo') E2⟩ ⟨fun v hv => ?_, ?_, ?_⟩ (fun u2 hA2 => hK u2 ?_)
          · rcases List.mem_cons.mp hv with e | e
            · omega
            · exact p1 v e
          · rw [opn, if_pos (Or.inl rfl)]; omega
          · rw [List.length_cons]; omega
          · obtain ⟨b1, b2, b3⟩ := hA2
            rw [nts, if_pos rfl, dpN, if_pos rfl] at b1
            rw [nts, if_pos rfl] at b3
            refine ⟨by rw [show S1 + 1 + nts l = S1 + (nts l + 1) by omega]; exact b1, ?_, fun i hi => ?_⟩
            · refine prM_s (prM_x b2 yE) ?_ (by omega)
              rw [yp]
              have := b3 0 (by omega)
              rw [Nat.add_zero] at this
              exact this
            · have := b3 (i + 1) (by omega)
              rw [show S1 + (i + 1) = S1 + 1 + i by omega] at this
              exact this
      · refine kbad y1 kd pl (xh_t F2 yF) hkd y212 y213 ?_
        intro K u0 l u hB hC hK
        obtain ⟨p1, p2, p3⟩ := hC
        refine BO_p (z := 10) hA hB.1 hkT (Or.inl ⟨q21, rfl⟩) (by omega) (by omega) p1 (by omega) (fun u' m' lo' => ?_)
        refine hsim K u0 (10 :: l) u' ⟨m', prM_x (prM_u hB.2 lo') E2⟩ ⟨fun v hv => ?_, ?_, ?_⟩ hK
        · rcases List.mem_cons.mp hv with e | e
          · omega
          · exact p1 v e
        · rw [opn, if_pos (Or.inl rfl)]; omega
        · rw [List.length_cons]; omega
    · obtain ⟨a, ha, ea⟩ : ∃ a, a ≤ 4 ∧ kK t k = 22 + a := ⟨kK t k - 22, by omega, by omega⟩
      rw [ea]
      refine sx_rdM hA G2 (by omega) ha (fun y k2 v nv hok yg yF yE yp ysg ynb yft y212 => ⟨n011, ?_⟩) (fun y kd kp hb hkd yF y212 y213 => ⟨n010, ?_⟩)
      · have hk2 : k + 1 ≤ k2 := by
          rcases Nat.lt_or_ge a 4 with g | g
          · have := (hok.2.1 (by omega)).1; omega
          · have := (hok.1 (by omega)).2.2.2; omega
        refine kok y (k2 + 2) (o + 1) (S + 1) ⟨yg, xh_t F2 yF, exX_t E2 yE (Nat.le_refl _), by omega, by omega, by omega, ?_, by omega, y212.trans x212⟩ ?_
        · rw [show o + 1 - o = 1 by omega]
          exact SG_m (by omega)
        · intro K u0 l u hB hC hK
          obtain ⟨p1, p2, p3⟩ := hC
          refine BO_m hA hB.1 hkT ha ea (by omega) (by omega) p1 (by omega) (by omega) g7 (fun u' k2' v' nv' hok' m' lo' h16 h17 h18 h19 hhi => ?_) (fun z kd kp hb hz => (mBd_o hok hb g7.2).elim)
          obtain ⟨i1, i2, i3⟩ := mOk_u hok hok' g7.2
          subst i1; subst i2; subst i3
          refine hK u' ⟨m', fun s hs => ?_, hhi⟩
          by_cases e : s = S
          · subst e
            rw [yp, ysg, ynb]
            exact ⟨h16, fun _ => ⟨h17, h18, fun e4 => by rw [yft e4]; exact h19 e4⟩⟩
          · exact prM_x (prM_u hB.2 lo') (exX_t E2 yE (Nat.le_refl _)) s (by omega)
      · refine kbad y kd (kP t kp) (xh_t F2 yF) hkd y212 y213 ?_
        intro K u0 l u hB hC hK
        obtain ⟨p1, p2, p3⟩ := hC
        refine BO_m hA hB.1 hkT ha ea (by omega) (by omega) p1 (by omega) (by omega) g7 (fun u' k2' v' nv' hok' => (mBd_o hok' hb g7.2).elim) (fun z kd' kp' hb' hz => hK z ?_)
        obtain ⟨i1, i2⟩ := mBd_u hb hb' g7.2
        subst i1; subst i2
        exact hz
    · refine hRC q2 x2 (k + 1) (o + 1) S n _ G2 (fun y1 k1 o1 S1 hok n19 n20 hsim => ⟨fun g => absurd g (by decide), fun _ => ?_⟩) (fun y1 kd pl yF hkd y212 y213 hsim => ⟨fun _ => ?_, fun g => absurd rfl g⟩)
      · obtain ⟨a1, a2, a3, a4, a5, a6, a7, a8, a9⟩ := id hok
        have hpl : ∀ l, pC w l → pD (w + 1) (13 :: l) := fun l hC => by
          obtain ⟨p1, p2, p3⟩ := hC
          refine ⟨fun v hv => ?_, ?_, ?_, Or.inr ⟨l, rfl⟩⟩
          · rcases List.mem_cons.mp hv with e | e
            · omega
            · exact p1 v e
          · rw [opn, if_pos (Or.inr rfl)]; omega
          · rw [List.length_cons]; omega
        refine sx_take (w := 5) hA a1.1 (by decide) (fun q5 y yf yc => ⟨fun g => absurd g (by decide), fun _ => ?_⟩) (fun q5 y yf => ⟨fun _ => ?_, fun g => absurd rfl g⟩)
        · have E3 : exX y1 y S1 := exX_h yf (by decide) (by decide)
          have hk1 := kA_l hA a1.1.2.2.2 (by omega)
          unfold X_RD_readOne_B_99
          refine ⟨n011, ?_⟩
          refine kok y (k1 + 1) o1 S1 ⟨⟨yc, by rw [yf.1 208 (by decide)]; exact a1.2.1, a1.2.2.1, by rw [yf.1 406 (by decide)]; exact a1.2.2.2.1, a1.2.2.2.2.1, by rw [yf.1 400 (by decide)]; exact a1.2.2.2.2.2.1, g7, vX_e a1.2.2.2.2.2.2.2 E3⟩, xh_t F2 (xh_t a2 (xh_w yf (by decide) (by decide) (by decide))), exX_t E2 (exX_t a3 E3 a5) (Nat.le_refl _), by omega, a5, by omega, ?_, by omega, (yf.1 212 (by decide)).trans (a9.trans x212)⟩ ?_
          · exact SG_w (SG_k a7 (fun s _ h2 => (exX_p E3 h2).1)) (by omega)
          · intro K u0 l u hB hC hK
            obtain ⟨p1, p2, p3⟩ := id hC
            refine BO_p (z := 13) hA hB.1 hkT (Or.inr ⟨q4, rfl⟩) (by omega) (by omega) p1 (by omega) (fun u' m' lo' => ?_)
            refine hsim K u0 (13 :: l) u' ⟨m', prM_x (prM_u hB.2 lo') E2⟩ (hpl l hC) (fun u2 r hr hC2 => ?_)
            obtain ⟨b0, b1, b2, b3⟩ := hC2
            have hS1 := a1.2.2.2.2.1
            have ho1 := a1.2.2.1
            have hrb := opT_b hr
            refine AO_c hA b1 a1.1.2.2.2 q5 hr p1 (by omega) (by omega) (by omega) (fun u3 m3 lo3 hi3 hn3 => hK u3 ⟨?_, ?_, fun i hi => ?_⟩)
            · rw [show S1 - r.length + r.length = S1 by omega] at m3; exact m3
            · have := prM_r b2 lo3 hi3 b3 (fun v hv => (hrb.2 v hv).1)
              rw [show S1 - r.length + r.length = S1 by omega] at this
              exact prM_x this E3
            · have := hn3 i hi
              rw [show S1 - r.length + r.length = S1 by omega] at this
              exact this
        · unfold X_RD_readOne_B_98 X_RD_readOne_B_99
          refine ⟨n010, ?_⟩
          refine kbad y 1 (kP t k1) (xh_t F2 (xh_t a2 (xh_w yf.1 (by decide) (by decide) (by decide)))) (by omega) yf.2.1 yf.2.2 ?_
          intro K u0 l u hB hC hK
          obtain ⟨p1, p2, p3⟩ := id hC
          refine BO_p (z := 13) hA hB.1 hkT (Or.inr ⟨q4, rfl⟩) (by omega) (by omega) p1 (by omega) (fun u' m' lo' => ?_)
          refine hsim K u0 (13 :: l) u' ⟨m', prM_x (prM_u hB.2 lo') E2⟩ (hpl l hC) (fun u2 r hr hC2 => ?_)
          obtain ⟨b0, b1, b2, b3⟩ := hC2
          have hrb := opT_b hr
          refine AO_b hA b1 a1.1.2.2.2 n19 n20 q5 (List.mem_append_right _ List.mem_cons_self) (fun v hv => ?_) (by rw [List.length_append, List.length_cons]; omega) hK
          rcases List.mem_append.mp hv with e | e
          · have := hrb.2 v e; omega
          · exact (hpl l hC).1 v e
      · unfold X_RD_readOne_B_98 X_RD_readOne_B_99
        refine ⟨n010, ?_⟩
        refine kbad y1 kd pl (xh_t F2 yF) hkd y212 y213 ?_
        intro K u0 l u hB hC hK
        obtain ⟨p1, p2, p3⟩ := id hC
        refine BO_p (z := 13) hA hB.1 hkT (Or.inr ⟨q4, rfl⟩) (by omega) (by omega) p1 (by omega) (fun u' m' lo' => ?_)
        refine hsim K u0 (13 :: l) u' ⟨m', prM_x (prM_u hB.2 lo') E2⟩ ⟨fun v hv => ?_, ?_, ?_, Or.inr ⟨l, rfl⟩⟩ hK
        · rcases List.mem_cons.mp hv with e | e
          · omega
          · exact p1 v e
        · rw [opn, if_pos (Or.inr rfl)]; omega
        · rw [List.length_cons]; omega
  unfold X_RD_readOne_B
  rw [g1.2.2.1]
  have es : ∀ v : Nat, (some (kK t k) = some v) = (kK t k = v) := fun v => by simp
  rw [es, es]
  refine br1 (fun q => go (Or.inl q)) (fun q21 => br1 (fun q => go (Or.inr (Or.inl q))) (fun q4 => ?_))
  refine sx_isMs h27 (fun q => ⟨fun _ => go (Or.inr (Or.inr q)), fun g => absurd g (by decide)⟩) (fun q => ⟨fun g => absurd rfl g, fun _ => ?_⟩)
  refine sx_flt (kd := 1) hA g1 (fun y yf => ⟨n010, ?_⟩)
  refine kbad y 1 (kP t k) (xh_w yf.1 (by decide) (by decide) (by decide)) (by omega) yf.2.1 yf.2.2 ?_
  intro K u0 l u hB hC hK
  exact BO_b1 hA hB.1 hkT q21 q4 q hK

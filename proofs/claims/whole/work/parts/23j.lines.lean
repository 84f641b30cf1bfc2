/-! text: lines -/
def enF (x : xs_St) (k : Nat) : Nat := if k = 0 then 0 else (xa x 410 (k - 1)).toNatClampNeg
def alF (x : xs_St) (k : Nat) : Nat := (xa x 409 k).toNatClampNeg
def vR (x : xs_St) : Prop := (∀ i, i < 48 → (xa x 407 i = 0 ∨ xa x 407 i = 1) ∧ 1 ≤ (xa x 408 i).toInt ∧ (xa x 408 i).toInt ≤ 99) ∧ ∃ v : Nat, v ≤ 9 ∧ xi x 403 = nI v
def gL (t : TK) (x : xs_St) (k o S n A : Nat) : Prop := gX t x k o S n ∧ alX x 100 A S (pgF x) (alF x) (enF x) ∧ enF x A = S ∧ vR x
def lL (u v : th_St) : Prop := (∀ i, i < 48 → v.2.2.1 6 i = u.2.2.1 6 i ∧ v.2.2.1 7 i = u.2.2.1 7 i) ∧ (∀ i, i < 6 → v.2.2.1 8 i = u.2.2.1 8 i ∧ v.2.2.1 9 i = u.2.2.1 9 i ∧ v.2.2.1 10 i = u.2.2.1 10 i) ∧ (v.2.2.1 11 0 = u.2.2.1 11 0 ∧ v.2.2.1 12 0 = u.2.2.1 12 0 ∧ v.2.2.1 13 0 = u.2.2.1 13 0 ∧ v.2.2.1 14 0 = u.2.2.1 14 0 ∧ v.2.2.1 15 0 = u.2.2.1 15 0) ∧ lz u v
theorem lL_r (u : th_St) : lL u u := ⟨fun _ _ => ⟨rfl, rfl⟩, fun _ _ => ⟨rfl, rfl, rfl⟩, ⟨rfl, rfl, rfl, rfl, rfl⟩, lz_r u⟩
theorem lL_t {u v w : th_St} (h : lL u v) (h2 : lL v w) : lL u w := by
  obtain ⟨a1, a2, ⟨a3, a4, a5, a6, a7⟩, a8⟩ := h
  obtain ⟨c1, c2, ⟨c3, c4, c5, c6, c7⟩, c8⟩ := h2
  exact ⟨fun i hi => ⟨(c1 i hi).1.trans (a1 i hi).1, (c1 i hi).2.trans (a1 i hi).2⟩, fun i hi => ⟨(c2 i hi).1.trans (a2 i hi).1, (c2 i hi).2.1.trans (a2 i hi).2.1, (c2 i hi).2.2.trans (a2 i hi).2.2⟩, ⟨c3.trans a3, c4.trans a4, c5.trans a5, c6.trans a6, c7.trans a7⟩, lz_t a8 c8⟩
theorem lL_f {u v : th_St} {I A J : List Nat} (h : mf I A J u v) (hA : (6 ∉ A ∧ 7 ∉ A ∧ 8 ∉ A ∧ 9 ∉ A ∧ 10 ∉ A) ∧ (11 ∉ A ∧ 12 ∉ A ∧ 13 ∉ A ∧ 14 ∉ A ∧ 15 ∉ A)) (hz : lz u v) : lL u v := by
  obtain ⟨⟨e6, e7, e8, e9, e10⟩, e11, e12, e13, e14, e15⟩ := hA
  unfold lL
  rw [h.2.1 6 e6, h.2.1 7 e7, h.2.1 8 e8, h.2.1 9 e9, h.2.1 10 e10, h.2.1 11 e11, h.2.1 12 e12, h.2.1 13 e13, h.2.1 14 e14, h.2.1 15 e15]
  exact ⟨fun _ _ => ⟨rfl, rfl⟩, fun _ _ => ⟨rfl, rfl, rfl⟩, ⟨rfl, rfl, rfl, rfl, rfl⟩, hz⟩
abbrev LI : List Nat := [4, 21, 22, 23, 24, 25, 26, 27, 33]
abbrev LJ : List Nat := [4, 21, 22, 23, 24, 25, 26, 27, 28, 29, 33]
abbrev LA : List Nat := [6, 7, 8, 9, 10, 11, 12, 13, 14, 15, 16, 17, 18, 19, 20]
def fL (u0 u : th_St) : Prop := mf LI LA [] u0 u ∧ lL u0 u
def gB (u0 y : th_St) (kd pl : Nat) : Prop := (mf LJ LA [] u0 y ∧ lL u0 y) ∧ y.1 28 = nI kd ∧ y.1 29 = nI pl
theorem fL_r (u : th_St) : fL u u := ⟨mf_r u, lL_r u⟩
theorem fL_t {u0 u y : th_St} {I A J : List Nat} (h : fL u0 u) (hy : mf I A J u y) (hl : lL u y) (hI : ∀ k, k ∈ I → k ∈ LI) (hA : ∀ k, k ∈ A → k ∈ LA) (hJ : ∀ k, k ∈ J → k ∈ ([] : List Nat)) : fL u0 y := ⟨mf_t h.1 (mf_w hy hI hA hJ), lL_t h.2 hl⟩
theorem gB_f {u0 u y : th_St} {kd pl : Nat} (h : fL u0 u) (hy : fM u y kd pl) : gB u0 y kd pl := ⟨⟨mf_t (mf_w h.1 (by decide) (by decide) (by decide)) (mf_w hy.1 (by decide) (by decide) (by decide)), lL_t h.2 (lL_f hy.1 (by decide) (lz_f hy.1 (by decide)))⟩, hy.2.1, hy.2.2⟩
theorem gB_b {u0 u y : th_St} {kd pl : Nat} (h : fL u0 u) (hy : fB u y kd pl) : gB u0 y kd pl := ⟨⟨mf_t (mf_w h.1 (by decide) (by decide) (by decide)) (mf_w hy.1.1 (by decide) (by decide) (by decide)), lL_t h.2 (lL_f hy.1.1 (by decide) hy.1.2)⟩, hy.2.1, hy.2.2⟩
def lB (t : TK) (x : xs_St) (u0 u : th_St) (k o S n A : Nat) : Prop := fL u0 u ∧ cM t u k ∧ u.1 23 = nI o ∧ u.1 21 = nI S ∧ u.2.2.1 11 1 = nI n ∧ prM x u S ∧ alM u 6 1 A (alF x) (enF x) ∧ (∀ i, i < 48 → u.2.2.1 6 (48 + i) = xa x 407 i ∧ u.2.2.1 7 (48 + i) = xa x 408 i) ∧ u.2.2.1 12 1 = xi x 401 ∧ u.2.2.1 13 1 = xi x 402 ∧ u.2.2.1 14 1 = xi x 403
/-- a token further on, both -/
theorem lB_n {t : TK} {x y : xs_St} {u0 u v : th_St} {k k' o S n A : Nat} {I : List Nat} (h : lB t x u0 u k o S n A) (hx : xh I [] [] x y) (hI : 401 ∉ I ∧ 402 ∉ I ∧ 403 ∉ I) (hv : mf [4, 24, 25, 26, 27, 33] [] [] u v) (hc : cM t v k') : lB t y u0 v k' o S n A := by
  obtain ⟨h1, h2, h3, h4, h5, h6, h7, h8, h9, h10, h11⟩ := h
  refine ⟨fL_t h1 hv (lL_f hv (by decide) (lz_f hv (by decide))) (by decide) (by decide) (by decide), hc, (hv.1 23 (by decide)).trans h3, (hv.1 21 (by decide)).trans h4, by rw [hv.2.1 11 (by decide)]; exact h5, prM_x (prM_u h6 (loS_f hv (by decide))) (exX_h hx (by decide) (by decide)), ?_, ?_, ?_, ?_, ?_⟩
  · unfold alM alF enF at *
    rw [hv.2.1 15 (by decide), hv.2.1 10 (by decide), hv.2.1 9 (by decide), hv.2.1 8 (by decide), hx.2.1 409 (by decide), hx.2.1 410 (by decide)]; exact h7
  · rw [hv.2.1 6 (by decide), hv.2.1 7 (by decide), hx.2.1 407 (by decide), hx.2.1 408 (by decide)]; exact h8
  · rw [hv.2.1 12 (by decide), hx.1 401 hI.1]; exact h9
  · rw [hv.2.1 13 (by decide), hx.1 402 hI.2.1]; exact h10
  · rw [hv.2.1 14 (by decide), hx.1 403 hI.2.2]; exact h11
abbrev TI : List Nat := [203, 205, 207, 208, 209, 210, 211, 212, 213, 400, 401, 402, 403, 404, 405, 406]
abbrev TA : List Nat := [201, 202, 407, 408, 409, 410, 413, 414]
abbrev TO : List Nat := [200, 411, 412]
def xT (x y : xs_St) : Prop := xh TI TA TO x y
theorem gX_n {t : TK} {x y : xs_St} {k k' o S n : Nat} {I : List Nat} (h : gX t x k o S n) (hx : xh I [] [] x y) (hI : 208 ∉ I ∧ 406 ∉ I ∧ 400 ∉ I) (hc : cX t y k') : gX t y k' o S n := by
  obtain ⟨g1, g2, g3, g4, g5, g6, g7, g8⟩ := h
  exact ⟨hc, (hx.1 208 hI.1).trans g2, g3, (hx.1 406 hI.2.1).trans g4, g5, (hx.1 400 hI.2.2).trans g6, g7, vX_e g8 (exX_h hx (by decide) (by decide))⟩
theorem al_n {x y : xs_St} {A S : Nat} (h : alX x 100 A S (pgF x) (alF x) (enF x)) (h405 : xi y 405 = xi x 405) (h409 : xa y 409 = xa x 409) (h410 : xa y 410 = xa x 410) (h411 : xo y 411 = xo x 411) : alX y 100 A S (pgF y) (alF y) (enF y) := by
  unfold alX pgF alF enF at *
  show _ ∧ xi y 405 = _ ∧ _ ∧ ∀ k, k < A → xa y 409 k = _ ∧ _ ∧ xa y 410 k = _ ∧ _
  rw [h405, h409, h410, h411]; exact h
theorem gL_n {t : TK} {x y : xs_St} {k k' o S n A : Nat} {I : List Nat} (h : gL t x k o S n A) (hx : xh I [] [] x y) (hI : 208 ∉ I ∧ 406 ∉ I ∧ 400 ∉ I ∧ 405 ∉ I ∧ 403 ∉ I) (hc : cX t y k') : gL t y k' o S n A := by
  obtain ⟨h1, h2, h3, h4⟩ := h
  refine ⟨gX_n h1 hx ⟨hI.1, hI.2.1, hI.2.2.1⟩ hc, al_n h2 (hx.1 405 hI.2.2.2.1) (hx.2.1 409 (by decide)) (hx.2.1 410 (by decide)) (hx.2.2.2.2.1 411 (by decide)), ?_, ?_⟩
  · unfold enF at *; rw [hx.2.1 410 (by decide)]; exact h3
  · unfold vR; rw [hx.2.1 407 (by decide), hx.2.1 408 (by decide), hx.1 403 hI.2.2.2.2]; exact h4
def siL (t : TK) (x y : xs_St) (k o S A k' o' S' A' n c : Nat) : Prop := ∀ K u0 u, lB t x u0 u k o S n A → (∀ u', lB t y u0 u' k' o' S' n A' → K 1 u') → M_line (nI c) u K
def siLb (t : TK) (x : xs_St) (k o S A n c kd pl : Nat) : Prop := ∀ K u0 u, lB t x u0 u k o S n A → (∀ z, gB u0 z kd pl → K 0 z) → M_line (nI c) u K
theorem c_lit {c z : Nat} (hc : c ≤ 9) (hz : z ≤ 9) : (nI c = nI z) = (c = z) := ni_eq (by omega) (by omega)
/-- pull, heat, noise -/
theorem rd_set {t : TK} {x : xs_St} {k o S n A c : Nat} {KX : Int32 → xs_St → Prop} (hA : kA t) (hg : gL t x k o S n A) (hc : c ≤ 2)
    (kok : ∀ y k', gL t y k' o S n A → xh [205, 207, 209 + c, 401 + c] [] [] x y → k < k' → xi y (209 + c) = 1 → siL t x y k o S A k' o S A n c → KX 1 y)
    (kbad : ∀ y kd pl, xT x y → (1 ≤ kd ∧ kd ≤ 4) → xi y 212 = nI kd → xi y 213 = nI pl → siLb t x k o S A n c kd pl → KX 0 y) : X_RD_readSetting (some (14 + c)) x KX := by
  have gc := hg.1.1
  have hkT := gc.2.2.2
  have lo : ∀ z0 : Int32, z0 = (if c = 2 then 0 else 1) → X_RD_readSetting_13 KX (some (14 + c)) z0 x := by
    intro z0 ez
    have ez' : z0.toInt = (if c = 2 then 0 else 1) := by
      rw [ez]
      by_cases e : c = 2
      · rw [if_pos e, if_pos e]; decide
      · rw [if_neg e, if_neg e]; decide
    unfold X_RD_readSetting_13
    have mline : ∀ (K : Int32 → th_St → Prop) u, M_line_16 K (nI c) z0 u → M_line (nI c) u K := by
      intro K u h
      unfold M_line
      have c3 : ((3 : Int32) ≤ nI c) = (3 ≤ c) := ni_le (a := 3) (by omega) (by omega)
      have c2 : (nI c = (2 : Int32)) = (c = 2) := c_lit (z := 2) (by omega) (by omega)
      rw [c3, c2]
      refine ⟨fun g => by omega, fun _ => br2 (fun q => ?_) (fun q => ?_)⟩
      · rw [ez, if_neg q] at h; exact h
      · rw [ez, if_pos q] at h; exact h
    refine sx_num (lo := if c = 2 then 0 else 1) (hi := 9) hA gc ez' (by decide) (fun q v ev hv hlo hhi y yf yc y207 => ⟨fun _ => ?_, fun g => absurd g (by decide)⟩) (fun q y yf => ⟨fun g => absurd rfl g, fun _ => ⟨n010, ?_⟩⟩) (fun q v ev hv hno y yf => ⟨fun g => absurd rfl g, fun _ => ⟨n010, ?_⟩⟩)
    · have hlt := kA_l hA hkT (by omega)
      have gy := gL_n hg yf (by decide) yc
      have es : ∀ w : Nat, (some (14 + c) = some w) = (14 + c = w) := fun w => by simp
      rw [es, es, y207]
      have fin : ∀ z, z = xs_si (xs_si y (401 + c) (nI v)) (209 + c) 1 → X_RD_readSetting_91 KX z := by
        intro z ez
        have zf : xh [209 + c, 401 + c] [] [] y z := by rw [ez]; exact xh_i (by simp) (xh_i (by simp) (xh_r y))
        have zr : z.2.1 = y.2.1 := by rw [ez]; rfl
        have zn : ∀ j, j ≠ 209 + c → j ≠ 401 + c → xi z j = xi y j := fun j h1 h2 => by rw [ez, xsi_n h1, xsi_n h2]
        have z401 : xi z (401 + c) = nI v := by rw [ez, xsi_n (by omega), xsi_s]
        have zc : cX t z (k + 1) := by
          obtain ⟨⟨d1, d2⟩, d3, d4, d5⟩ := yc
          exact ⟨⟨(zn 203 (by omega) (by omega)).trans d1, fun j hj => by rw [zf.2.2.2.2.1 200 (by decide), zf.2.1 201 (by decide), zf.2.1 202 (by decide)]; exact d2 j hj⟩, (zn 205 (by omega) (by omega)).trans d3, by unfold xr; rw [zr]; exact d4, d5⟩
        unfold X_RD_readSetting_91
        refine ⟨n011, ?_⟩
        refine kok z (k + 1) ⟨gX_n gy.1 zf ⟨by simp; omega, by simp; omega, by simp; omega⟩ zc, al_n gy.2.1 (zn 405 (by omega) (by omega)) (zf.2.1 409 (by decide)) (zf.2.1 410 (by decide)) (zf.2.2.2.2.1 411 (by decide)), ?_, ?_⟩ (xh_t (xh_w yf (by simp) (by decide) (by decide)) (xh_w zf (by simp) (by decide) (by decide))) (by omega) (by rw [ez]; exact xsi_s _ _ _) ?_
        · have := gy.2.2.1
          unfold enF at *; rw [zf.2.1 410 (by decide)]; exact this
        · obtain ⟨e1, v0, e2, e3⟩ := gy.2.2.2
          refine ⟨by rw [zf.2.1 407 (by decide), zf.2.1 408 (by decide)]; exact e1, ?_⟩
          by_cases e : c = 2
          · subst e; exact ⟨v, by omega, z401⟩
          · exact ⟨v0, e2, by rw [zn 403 (by omega) (by omega)]; exact e3⟩
        · intro K u0 u hB hK
          refine mline K u ?_
          unfold M_line_16 M_line_40 M_line_55 M_line_70
          refine mx_tks (lo := if c = 2 then 0 else 1) (hi := 9) hA hkT hB.2.1 ez' (by decide) (fun _ v' ev' hv' _ _ u1 f1 c1 e33 => ⟨fun _ => ?_, fun g => absurd g (by decide)⟩) (fun q' => absurd q q') (fun _ v' ev' hv' hno' => ?_)
          · have evv := nI_inj (by omega) (by omega) (ev'.symm.trans ev)
            subst evv
            have hB1 := lB_n hB yf (by decide) f1 c1
            have k1 : ∀ (a : Nat), a = 12 + c → (a = 12 ∨ a = 13 ∨ a = 14) → ∀ u2, u2 = th_sa u1 a (upd (u1.2.2.1 a) 1 (nI v')) → K 1 u2 := by
              intro a ea ha u2 e2
              obtain ⟨b1, b2, b3, b4, b5, b6, b7, b8, b9, b10, b11⟩ := hB1
              have f2 : mf [] [a] [] u1 u2 := by rw [e2]; exact mf_a (by simp) (mf_r u1)
              have an : ∀ j, j ≠ a → u2.2.2.1 j = u1.2.2.1 j := fun j hj => by rw [e2, tha_n hj]
              have as1 : u2.2.2.1 a = upd (u1.2.2.1 a) 1 (nI v') := by rw [e2, tha_s]
              have lz2 : lz u1 u2 := fun s _ => by rw [an 16 (by omega), an 17 (by omega), an 18 (by omega), an 19 (by omega)]; exact ⟨rfl, rfl, rfl, rfl⟩
              have at0 : ∀ j, u2.2.2.1 j 0 = u1.2.2.1 j 0 := fun j => by
                by_cases ej : j = a
                · subst ej; rw [as1, pk_un (by omega)]
                · rw [an j ej]
              have l2 : lL u1 u2 := by
                refine ⟨fun i _ => ?_, fun i _ => ?_, ⟨at0 11, at0 12, at0 13, at0 14, at0 15⟩, lz2⟩
                · rw [an 6 (by omega), an 7 (by omega)]; exact ⟨rfl, rfl⟩
                · rw [an 8 (by omega), an 9 (by omega), an 10 (by omega)]; exact ⟨rfl, rfl, rfl⟩
              have sv : ∀ j, 12 ≤ j → j ≤ 14 → ∀ w : Int32, u1.2.2.1 j 1 = w → u2.2.2.1 j 1 = (if j = a then nI v' else w) := fun j _ _ w hw => by
                by_cases ej : j = a
                · subst ej; rw [if_pos rfl, as1, pk_us]
                · rw [if_neg ej, an j ej]; exact hw
              have sx : ∀ j, j ≤ 2 → xi z (401 + j) = (if 12 + j = a then nI v' else xi y (401 + j)) := fun j _ => by
                by_cases ej : 12 + j = a
                · rw [if_pos ej, show j = c by omega]; exact z401
                · rw [if_neg ej]; exact zn _ (by omega) (by omega)
              refine hK u2 ⟨fL_t b1 f2 l2 (by decide) (by simp; omega) (by decide), cM_f b2 f2 (by rw [e2]; rfl) (by decide) (by simp; omega), (f2.1 23 (by decide)).trans b3, (f2.1 21 (by decide)).trans b4, by rw [an 11 (by omega)]; exact b5, prM_x (prM_u b6 (fun s _ => by rw [an 16 (by omega), an 17 (by omega), an 18 (by omega), an 19 (by omega)]; exact ⟨rfl, rfl, rfl, rfl⟩)) (exX_h zf (by decide) (by decide)), ?_, ?_, ?_, ?_, ?_⟩
              · unfold alM alF enF at *
                rw [an 15 (by omega), an 10 (by omega), an 9 (by omega), an 8 (by omega), zf.2.1 409 (by decide), zf.2.1 410 (by decide)]; exact b7
              · rw [an 6 (by omega), an 7 (by omega), zf.2.1 407 (by decide), zf.2.1 408 (by decide)]; exact b8
              · rw [sv 12 (by omega) (by omega) _ b9]; exact (sx 0 (by omega)).symm
              · rw [sv 13 (by omega) (by omega) _ b10]; exact (sx 1 (by omega)).symm
              · rw [sv 14 (by omega) (by omega) _ b11]; exact (sx 2 (by omega)).symm
            have c0 : (nI c = (0 : Int32)) = (c = 0) := c_lit (z := 0) (by omega) (by omega)
            have c1' : (nI c = (1 : Int32)) = (c = 1) := c_lit (z := 1) (by omega) (by omega)
            have c2' : (nI c = (2 : Int32)) = (c = 2) := c_lit (z := 2) (by omega) (by omega)
            have vp1 : vp_in (1 : Int32) 2 := vp_in_nI (n := 1) (by omega) (by omega)
            rw [c0, c1', c2', e33]
            refine br2 (fun q0 => br2 (fun q1 => br2 (fun q2 => by omega) (fun q2 => ⟨vp1, fun u2 e2 => ⟨n011, k1 14 (by omega) (by omega) u2 e2⟩⟩)) (fun q1 => ⟨vp1, fun u2 e2 => ⟨fun _ => ⟨n011, k1 13 (by omega) (by omega) u2 e2⟩, fun g => by omega⟩⟩)) (fun q0 => ⟨vp1, fun u2 e2 => ⟨fun _ => ⟨fun _ => ⟨n011, k1 12 (by omega) (by omega) u2 e2⟩, fun g => by omega⟩, fun g => by omega⟩⟩)
          · have evv := nI_inj (by omega) (by omega) (ev'.symm.trans ev)
            subst evv
            exact absurd ⟨hlo, hhi⟩ hno'
      refine br2 (fun q1 => br2 (fun q2 u3 e3 => ⟨n011, fun u4 e4 => ?_⟩) (fun q2 u3 e3 => ⟨n011, fun u4 e4 => ?_⟩)) (fun q1 u3 e3 => ⟨n011, fun u4 e4 => ?_⟩)
      · have : c = 2 := by omega
        subst this
        exact fin u4 (by rw [e4, e3])
      · have : c = 1 := by omega
        subst this
        exact fin u4 (by rw [e4, e3])
      · have : c = 0 := by omega
        subst this
        exact fin u4 (by rw [e4, e3])
    · refine kbad y 1 (kP t k) (xh_w yf.1 (by decide) (by decide) (by decide)) (by omega) yf.2.1 yf.2.2 ?_
      intro K u0 u hB hK
      refine mline K u ?_
      unfold M_line_16
      exact mx_tks (lo := if c = 2 then 0 else 1) (hi := 9) hA hkT hB.2.1 ez' (by decide) (fun q' => absurd q' q) (fun _ z hz => ⟨fun g => absurd rfl g, fun _ => ⟨n010, hK z (gB_f hB.1 hz)⟩⟩) (fun q' => absurd q' q)
    · refine kbad y 2 (kP t k) (xh_w yf.1 (by decide) (by decide) (by decide)) (by omega) yf.2.1 yf.2.2 ?_
      intro K u0 u hB hK
      refine mline K u ?_
      unfold M_line_16
      refine mx_tks (lo := if c = 2 then 0 else 1) (hi := 9) hA hkT hB.2.1 ez' (by decide) (fun _ v' ev' hv' h1 h2 => ?_) (fun q' => absurd q q') (fun _ v' ev' hv' _ z hz => ⟨fun g => absurd rfl g, fun _ => ⟨n010, hK z (gB_f hB.1 hz)⟩⟩)
      have evv := nI_inj (by omega) (by omega) (ev'.symm.trans ev)
      subst evv
      exact absurd ⟨h1, h2⟩ hno
  unfold X_RD_readSetting
  have es : (some (14 + c) = some 16) = (c = 2) := by
    apply propext
    constructor
    · intro h; injection h with h; omega
    · intro h; rw [h]
  rw [es]
  exact br2 (fun q => lo 1 (by rw [if_neg q])) (fun q => lo 0 (by rw [if_pos q]))

/-! text: an alarm's line -/
theorem pwf_k {pg pg' : Nat → Nat} : ∀ c s d, (∀ s', s ≤ s' → s' < s + c → pg' s' = pg s') → pwf pg c s d → pwf pg' c s d := by
  intro c
  induction c with
  | zero => intro s d _ h; exact h
  | succ c ih =>
    intro s d he h
    have e0 := he s (Nat.le_refl _) (by omega)
    rw [pwf] at h ⊢
    rw [e0]
    by_cases e1 : pg s = 10
    · rw [if_pos e1] at h ⊢
      exact ⟨h.1, ih (s + 1) d (fun s' h1 h2 => he s' (by omega) (by omega)) h.2⟩
    · rw [if_neg e1] at h ⊢
      by_cases e2 : pg s = 11 ∨ pg s = 12
      · rw [if_pos e2] at h ⊢
        exact ⟨h.1, ih (s + 1) (d - 1) (fun s' h1 h2 => he s' (by omega) (by omega)) h.2⟩
      · rw [if_neg e2] at h ⊢
        exact ⟨h.1, h.2.1, ih (s + 1) (d + 1) (fun s' h1 h2 => he s' (by omega) (by omega)) h.2.2⟩
/-- the reference within an alarm's line, its CONDS read -/
def aB (t : TK) (x y : xs_St) (u0 u : th_St) (k o S' n A S : Nat) : Prop := fL u0 u ∧ cM t u k ∧ u.1 23 = nI o ∧ u.1 21 = nI S' ∧ u.2.2.1 11 1 = nI n ∧ prM y u S' ∧ u.2.2.1 15 1 = nI A ∧ (∀ j, j < A → u.2.2.1 10 (6 + j) = nI (alF x j) ∧ u.2.2.1 9 (6 + j) = nI (enF x (j + 1)) ∧ u.2.2.1 8 (6 + j) = nI (enF x j)) ∧ (u.2.2.1 8 (6 + A) = nI S ∧ u.2.2.1 9 (6 + A) = nI S') ∧ (∀ i, i < 48 → u.2.2.1 6 (48 + i) = xa x 407 i ∧ u.2.2.1 7 (48 + i) = xa x 408 i) ∧ u.2.2.1 12 1 = xi x 401 ∧ u.2.2.1 13 1 = xi x 402 ∧ u.2.2.1 14 1 = xi x 403
theorem aB_n {t : TK} {x y z : xs_St} {u0 u v : th_St} {k k' o S' n A S : Nat} (h : aB t x y u0 u k o S' n A S) (hy : exX y z S') (hv : mf [4, 24, 25, 26, 27, 33] [] [] u v) (hc : cM t v k') : aB t x z u0 v k' o S' n A S := by
  obtain ⟨h1, h2, h3, h4, h5, h6, h7, h8, h9, h10, h11, h12, h13⟩ := h
  refine ⟨fL_t h1 hv (lL_f hv (by decide) (lz_f hv (by decide))) (by decide) (by decide) (by decide), hc, (hv.1 23 (by decide)).trans h3, (hv.1 21 (by decide)).trans h4, by rw [hv.2.1 11 (by decide)]; exact h5, prM_x (prM_u h6 (loS_f hv (by decide))) hy, ?_⟩
  rw [hv.2.1 15 (by decide), hv.2.1 10 (by decide), hv.2.1 9 (by decide), hv.2.1 8 (by decide), hv.2.1 6 (by decide), hv.2.1 7 (by decide), hv.2.1 12 (by decide), hv.2.1 13 (by decide), hv.2.1 14 (by decide)]
  exact ⟨h7, h8, h9, h10, h11, h12, h13⟩
theorem vp6 {A : Nat} (h : A < 6) : vp_in (nI (6 + A)) 12 := vp_in_nI (by omega) (by omega)
theorem rd_alarm {t : TK} {x : xs_St} {k o S n A : Nat} {KX : Int32 → xs_St → Prop} (hA : kA t) (hg : gL t x k o S n A) (hA6 : A < 6)
    (kok : ∀ y k' o' S', gL t y k' o' S' n (A + 1) → xh [205, 207, 208, 212, 213, 405, 406] [409, 410, 413, 414] [411, 412] x y → xi y 212 = xi x 212 → k < k' → siL t x y k o S A k' o' S' (A + 1) n 5 → KX 1 y)
    (kbad : ∀ y kd pl, xT x y → (1 ≤ kd ∧ kd ≤ 4) → xi y 212 = nI kd → xi y 213 = nI pl → siLb t x k o S A n 5 kd pl → KX 0 y) : X_RD_readCond (1 : Int32) x (fun r_9 u_8 => ((r_9 = 0 → (((0 : Int32) = 0 ∨ (0 : Int32) = 1) ∧ KX (0 : Int32) u_8)) ∧ (¬ r_9 = 0 → X_RD_take (some 18) u_8 (fun r_11 u_10 => ((r_11 = 0 → (((0 : Int32) = 0 ∨ (0 : Int32) = 1) ∧ KX (0 : Int32) u_10)) ∧ (¬ r_11 = 0 → X_RD_takeNumber (1 : Int32) (9 : Int32) u_10 (fun r_13 u_12 => ((¬ r_13 = 0 → X_T_addAlarm_B (xi u_12 207) u_12 (fun u_14 => (((1 : Int32) = 0 ∨ (1 : Int32) = 1) ∧ KX (1 : Int32) u_14))) ∧ (r_13 = 0 → (((0 : Int32) = 0 ∨ (0 : Int32) = 1) ∧ KX (0 : Int32) u_12)))))))))) := by
  have hkT := hg.1.1.2.2.2
  have g7 := hg.1.2.2.2.2.2.2.1
  have gS := hg.1.2.2.2.2.1
  have go' := hg.1.2.2.1
  have mline : ∀ (K : Int32 → th_St → Prop) u, M_alarmLine u (fun r_6 u_5 => ((r_6 = 0 ∨ r_6 = 1) ∧ K r_6 u_5)) → M_line (nI 5) u K := fun K u h => by
    unfold M_line
    exact ⟨fun _ => ⟨fun g => absurd (by decide) g, fun _ => h⟩, fun g => absurd (by decide) g⟩
  /- up to the CONDS -/
  have pre : ∀ (K : Int32 → th_St → Prop) u0 u, lB t x u0 u k o S n A → (∀ u3, fL u0 u3 → mf [] [8] [] u u3 → u3.2.1 = u.2.1 → u3.2.2.1 8 = upd (u.2.2.1 8) (6 + A) (nI S) → M_cond u3 (fun r_5 u_4 => ((¬ r_5 = 0 → (vp_in (nI (6 + A)) 12 ∧ ∀ u_6 : th_St, u_6 = th_sa u_4 9 (upd (u_4.2.2.1 9) ((nI (6 + A))).toNatClampNeg (u_4.1 21)) → M_takesWord (6713202 : Int64) u_6 (fun r_8 u_7 => ((r_8 = 0 → M_alarmLine_59 (fun r_6 u_5 => ((r_6 = 0 ∨ r_6 = 1) ∧ K r_6 u_5)) u_7) ∧ (¬ r_8 = 0 → M_takes (1 : Int32) (9 : Int32) u_7 (fun r_10 u_9 => ((¬ r_10 = 0 → (vp_in (nI (6 + A)) 12 ∧ ∀ u_11 : th_St, u_11 = th_sa u_9 10 (upd (u_9.2.2.1 10) ((nI (6 + A))).toNatClampNeg (u_9.1 33)) → (vp_in (1 : Int32) 2 ∧ ∀ y_12 : Int32, y_12 = u_11.2.2.1 15 ((1 : Int32)).toNatClampNeg → (vp_in (1 : Int32) 2 ∧ ∀ u_13 : th_St, u_13 = th_sa u_11 15 (upd (u_11.2.2.1 15) ((1 : Int32)).toNatClampNeg (y_12 + (1 : Int32))) → (((1 : Int32) = 0 ∨ (1 : Int32) = 1) ∧ ((1 : Int32) = 0 ∨ (1 : Int32) = 1) ∧ K (1 : Int32) u_13))))) ∧ (r_10 = 0 → M_alarmLine_59 (fun r_6 u_5 => ((r_6 = 0 ∨ r_6 = 1) ∧ K r_6 u_5)) u_9)))))))) ∧ (r_5 = 0 → (((0 : Int32) = 0 ∨ (0 : Int32) = 1) ∧ ((0 : Int32) = 0 ∨ (0 : Int32) = 1) ∧ K (0 : Int32) u_4))))) → M_line (nI 5) u K := by
    intro K u0 u hB h
    refine mline K u ?_
    obtain ⟨b1, b2, b3, b4, b5, b6, b7, b8, b9, b10, b11⟩ := hB
    unfold M_alarmLine
    refine ⟨vp_in_nI (n := 1) (by omega) (by omega), fun y1 e1 y2 e2 => ?_⟩
    have e1 : y1 = nI A := by rw [e1]; exact b7.1
    subst e1
    rw [show (6 : Int32) = nI 6 from rfl, nI_add] at e2
    subst e2
    refine ⟨vp6 hA6, fun u3 e3 => ?_⟩
    rw [ni_cl (by omega), b4] at e3
    have f3 : mf [] [8] [] u u3 := by rw [e3]; exact mf_a (by decide) (mf_r u)
    have a3 : u3.2.2.1 8 = upd (u.2.2.1 8) (6 + A) (nI S) := by rw [e3, tha_s]
    have l3 : lL u u3 := by
      refine ⟨fun i _ => by rw [f3.2.1 6 (by decide), f3.2.1 7 (by decide)]; exact ⟨rfl, rfl⟩, fun i hi => by rw [f3.2.1 9 (by decide), f3.2.1 10 (by decide), a3, pk_un (by omega)]; exact ⟨rfl, rfl, rfl⟩, by rw [f3.2.1 11 (by decide), f3.2.1 12 (by decide), f3.2.1 13 (by decide), f3.2.1 14 (by decide), f3.2.1 15 (by decide)]; exact ⟨rfl, rfl, rfl, rfl, rfl⟩, lz_f f3 (by decide)⟩
    exact h u3 (fL_t b1 f3 l3 (by decide) (by decide) (by decide)) f3 (by rw [e3]; rfl) a3
  have st9 : ∀ u0 u u3, lB t x u0 u k o S n A → fL u0 u3 → mf [] [8] [] u u3 → u3.2.1 = u.2.1 → fL u0 (th_si u3 22 0) ∧ rB t x (th_si u3 22 0) (th_si u3 22 0) [] k o S n ∧ (∀ j, (th_si u3 22 0).2.2.1 j = u3.2.2.1 j) := by
    intro u0 u u3 hB h3 f3 w3
    obtain ⟨b1, b2, b3, b4, b5, b6, b7, b8, b9, b10, b11⟩ := hB
    have f9 : mf [22] [] [] u3 (th_si u3 22 0) := mf_i (by decide) (mf_r u3)
    refine ⟨fL_t h3 f9 (lL_f f9 (by decide) (lz_f f9 (by decide))) (by decide) (by decide) (by decide), ⟨⟨fz_r _, cM_f (cM_f b2 f3 w3 (by decide) (by decide)) f9 rfl (by decide) (by decide), ?_, ?_, ?_, thi_s _ _ _, trivial⟩, ?_⟩, fun j => rfl⟩
    · rw [thi_n (by decide), f3.1 23 (by decide)]; exact b3
    · rw [thi_n (by decide), f3.1 21 (by decide)]; exact b4
    · show u3.2.2.1 11 1 = _
      rw [f3.2.1 11 (by decide)]; exact b5
    · exact prM_u (prM_u b6 (loS_f (j := S) f3 (by decide))) (loS_f (j := S) f9 (by decide))
  have pd1 : pD 1 [] := ⟨fun v hv => (by cases hv), rfl, by decide, Or.inl rfl⟩
  unfold X_RD_readCond
  refine ((rd_all hA 26 1 (by decide) (by decide)).2 (by decide)) x k o S n _ hg.1 (fun y1 k1 o1 S1 hok n19 n20 hsim => ⟨fun g => absurd g (by decide), fun _ => ?_⟩) (fun y1 kd pl y1F hkd y212 y213 hsim => ⟨fun _ => ⟨n010, ?_⟩, fun g => absurd rfl g⟩)
  · obtain ⟨a1, a2, a3, a4, a5, a6, a7, a8, a9⟩ := hok
    have k1T := a1.1.2.2.2
    have o1b := a1.2.2.1
    have S1b := a1.2.2.2.2.1
    have mid : ∀ (K : Int32 → th_St → Prop) u0 u, lB t x u0 u k o S n A → (∀ u6, aB t x y1 u0 u6 k1 o1 S1 n A S → M_takesWord (6713202 : Int64) u6 (fun r_8 u_7 => ((r_8 = 0 → M_alarmLine_59 (fun r_6 u_5 => ((r_6 = 0 ∨ r_6 = 1) ∧ K r_6 u_5)) u_7) ∧ (¬ r_8 = 0 → M_takes (1 : Int32) (9 : Int32) u_7 (fun r_10 u_9 => ((¬ r_10 = 0 → (vp_in (nI (6 + A)) 12 ∧ ∀ u_11 : th_St, u_11 = th_sa u_9 10 (upd (u_9.2.2.1 10) ((nI (6 + A))).toNatClampNeg (u_9.1 33)) → (vp_in (1 : Int32) 2 ∧ ∀ y_12 : Int32, y_12 = u_11.2.2.1 15 ((1 : Int32)).toNatClampNeg → (vp_in (1 : Int32) 2 ∧ ∀ u_13 : th_St, u_13 = th_sa u_11 15 (upd (u_11.2.2.1 15) ((1 : Int32)).toNatClampNeg (y_12 + (1 : Int32))) → (((1 : Int32) = 0 ∨ (1 : Int32) = 1) ∧ ((1 : Int32) = 0 ∨ (1 : Int32) = 1) ∧ K (1 : Int32) u_13))))) ∧ (r_10 = 0 → M_alarmLine_59 (fun r_6 u_5 => ((r_6 = 0 ∨ r_6 = 1) ∧ K r_6 u_5)) u_9))))))) → M_line (nI 5) u K := by
      intro K u0 u hB h
      refine pre K u0 u hB (fun u3 h3 f3 w3 e8 => ?_)
      obtain ⟨h9, hB9, e9⟩ := st9 u0 u u3 hB h3 f3 w3
      refine mx_condB (t := t) (k := k) (hsim _ _ [] _ hB9 pd1 (fun u' r hr hC => ?_))
      obtain ⟨c0, c1, c2, c3⟩ := hC
      rw [List.append_nil] at c1
      have hrb := opT_b hr
      refine AO_e hA c1 k1T n19 n20 hr (by omega) (fun u4 m4 lo4 hi4 => ⟨fun _ => ⟨vp6 hA6, fun u6 e6 => ?_⟩, fun g => absurd g (by decide)⟩)
      rw [show S1 - r.length + r.length = S1 by omega] at m4
      have p4 : prM y1 u4 S1 := by
        have := prM_r c2 lo4 hi4 c3 (fun v hv => (hrb.2 v hv).1)
        rw [show S1 - r.length + r.length = S1 by omega] at this
        exact this
      obtain ⟨d1, d2, d3, d4, d5, d6, d7⟩ := m4
      rw [ni_cl (by omega), d4] at e6
      have f6 : mf [] [9] [] u4 u6 := by rw [e6]; exact mf_a (by decide) (mf_r u4)
      have a9 : u6.2.2.1 9 = upd (u4.2.2.1 9) (6 + A) (nI S1) := by rw [e6, tha_s]
      have an : ∀ j, j ≠ 8 → j ≠ 9 → j ≠ 16 → j ≠ 17 → j ≠ 18 → j ≠ 19 → j ≠ 20 → u6.2.2.1 j = u.2.2.1 j := fun j q8 q9 q16 q17 q18 q19 q20 => by
        rw [f6.2.1 j (by simp [q9]), d1.1.2.1 j (by simp [q16, q17, q18, q19, q20]), e9 j, f3.2.1 j (by simp [q8])]
      have u8 : u6.2.2.1 8 = upd (u.2.2.1 8) (6 + A) (nI S) := by
        rw [f6.2.1 8 (by decide), d1.1.2.1 8 (by decide), e9 8, e8]
      have u9' : u6.2.2.1 9 = upd (u.2.2.1 9) (6 + A) (nI S1) := by
        rw [a9, d1.1.2.1 9 (by decide), e9 9, f3.2.1 9 (by decide)]
      obtain ⟨b1, b2, b3, b4, b5, b6, b7, b8, b9, b10, b11⟩ := hB
      have l6 : lL u4 u6 := by
        refine ⟨fun i _ => by rw [f6.2.1 6 (by decide), f6.2.1 7 (by decide)]; exact ⟨rfl, rfl⟩, fun i hi => by rw [f6.2.1 8 (by decide), f6.2.1 10 (by decide), a9, pk_un (by omega)]; exact ⟨rfl, rfl, rfl⟩, by rw [f6.2.1 11 (by decide), f6.2.1 12 (by decide), f6.2.1 13 (by decide), f6.2.1 14 (by decide), f6.2.1 15 (by decide)]; exact ⟨rfl, rfl, rfl, rfl, rfl⟩, lz_f f6 (by decide)⟩
      have l4 : lL (th_si u3 22 0) u4 := lL_f d1.1 (by decide) d1.2
      refine h u6 ⟨fL_t (fL_t h9 d1.1 l4 (by decide) (by decide) (by decide)) f6 l6 (by decide) (by decide) (by decide), cM_f d2 f6 (by rw [e6]; rfl) (by decide) (by decide), (f6.1 23 (by decide)).trans d3, (f6.1 21 (by decide)).trans d4, by rw [f6.2.1 11 (by decide)]; exact d5, prM_u p4 (loS_f (j := S1) f6 (by decide)), ?_, fun j hj => ?_, ⟨by rw [u8, pk_us], by rw [u9', pk_us]⟩, fun i hi => ?_, ?_, ?_, ?_⟩
      · rw [an 15 (by decide) (by decide) (by decide) (by decide) (by decide) (by decide) (by decide)]; exact b7.1
      · rw [an 10 (by decide) (by decide) (by decide) (by decide) (by decide) (by decide) (by decide), u8, u9', pk_un (by omega), pk_un (by omega)]; exact b7.2 j hj
      · rw [an 6 (by decide) (by decide) (by decide) (by decide) (by decide) (by decide) (by decide), an 7 (by decide) (by decide) (by decide) (by decide) (by decide) (by decide) (by decide)]; exact b8 i hi
      · rw [an 12 (by decide) (by decide) (by decide) (by decide) (by decide) (by decide) (by decide)]; exact b9
      · rw [an 13 (by decide) (by decide) (by decide) (by decide) (by decide) (by decide) (by decide)]; exact b10
      · rw [an 14 (by decide) (by decide) (by decide) (by decide) (by decide) (by decide) (by decide)]; exact b11
    refine sx_take (w := 18) hA a1.1 (by decide) (fun q2 y2 f2 c2 => ⟨fun g => absurd g (by decide), fun _ => ?_⟩) (fun q2 y yf => ⟨fun _ => ⟨n010, ?_⟩, fun g => absurd rfl g⟩)
    · have hlt := kA_l hA k1T (by omega)
      have E2 : exX y1 y2 S1 := exX_h f2 (by decide) (by decide)
      have mid2 : ∀ (K : Int32 → th_St → Prop) u0 u, lB t x u0 u k o S n A → (∀ u7, aB t x y2 u0 u7 (k1 + 1) o1 S1 n A S → M_takes (1 : Int32) (9 : Int32) u7 (fun r_10 u_9 => ((¬ r_10 = 0 → (vp_in (nI (6 + A)) 12 ∧ ∀ u_11 : th_St, u_11 = th_sa u_9 10 (upd (u_9.2.2.1 10) ((nI (6 + A))).toNatClampNeg (u_9.1 33)) → (vp_in (1 : Int32) 2 ∧ ∀ y_12 : Int32, y_12 = u_11.2.2.1 15 ((1 : Int32)).toNatClampNeg → (vp_in (1 : Int32) 2 ∧ ∀ u_13 : th_St, u_13 = th_sa u_11 15 (upd (u_11.2.2.1 15) ((1 : Int32)).toNatClampNeg (y_12 + (1 : Int32))) → (((1 : Int32) = 0 ∨ (1 : Int32) = 1) ∧ ((1 : Int32) = 0 ∨ (1 : Int32) = 1) ∧ K (1 : Int32) u_13))))) ∧ (r_10 = 0 → M_alarmLine_59 (fun r_6 u_5 => ((r_6 = 0 ∨ r_6 = 1) ∧ K r_6 u_5)) u_9)))) → M_line (nI 5) u K := by
        intro K u0 u hB h
        refine mid K u0 u hB (fun u6 B6 => ?_)
        exact mx_tkW hA k1T B6.2.1 (w := 18) (by decide) (by decide) (by decide) (fun _ u7 g7' d7 => ⟨fun g => absurd g (by decide), fun _ => h u7 (aB_n B6 E2 (mf_w g7' (by decide) (by decide) (by decide)) d7)⟩) (fun q' => absurd q2 q')
      have F2 : xh [205, 207, 208, 212, 213, 405, 406] [409, 410, 413, 414] [411, 412] x y2 := xh_t (xh_w a2 (by decide) (by decide) (by decide)) (xh_w f2 (by decide) (by decide) (by decide))
      refine sx_num (lo := 1) (hi := 9) hA c2 (by decide) (by decide) (fun q v ev hv hlo hhi y3 f3 c3 e207 => ⟨fun _ => ?_, fun g => absurd g (by decide)⟩) (fun q y yf => ⟨fun g => absurd rfl g, fun _ => ⟨n010, ?_⟩⟩) (fun q v ev hv hno y yf => ⟨fun g => absurd rfl g, fun _ => ⟨n010, ?_⟩⟩)
      · have hlt2 := kA_l hA c2.2.2.2 (by omega)
        have E3 : exX y1 y3 S1 := exX_t E2 (exX_h (S := S1) f3 (by decide) (by decide)) (Nat.le_refl _)
        have F3 : xh [205, 207, 208, 212, 213, 405, 406] [409, 410, 413, 414] [411, 412] x y3 := xh_t F2 (xh_w f3 (by decide) (by decide) (by decide))
        have y405 : xi y3 405 = nI A := by
          rw [f3.1 405 (by decide), f2.1 405 (by decide), a2.1 405 (by decide)]
          exact hg.2.1.2.1
        have y406 : xi y3 406 = nI S1 := by rw [f3.1 406 (by decide), f2.1 406 (by decide)]; exact a1.2.2.2.1
        unfold X_T_addAlarm_B X_T_addAlarm_B_42
        have c6 : ((6 : Int32) ≤ nI A) = (6 ≤ A) := ni_le (a := 6) (by omega) (by omega)
        rw [y405, c6, e207]
        refine ⟨fun g => by omega, fun _ => ⟨vp_in_nI (by omega) (by omega), fun w1 e1 => ?_⟩⟩
        rw [ni_cl (by omega)] at e1
        have w405 : xi w1 405 = nI A := by rw [e1]; exact y405
        have w406 : xi w1 406 = nI S1 := by rw [e1]; exact y406
        rw [w405, w406]
        refine ⟨vp_in_nI (by omega) (by omega), fun w2 e2 w3 e3 => ⟨n011, ?_⟩⟩
        rw [ni_cl (by omega)] at e2
        have w405' : xi w2 405 = nI A := by rw [e2]; exact w405
        rw [w405', show nI A + (1 : Int32) = nI (A + 1) from nI_1 A] at e3
        have wf : xh [405] [409, 410] [] y3 w3 := by rw [e3, e2, e1]; exact xh_i (by decide) (xh_a (by decide) (xh_a (by decide) (xh_r y3)))
        have wr : w3.2.1 = y3.2.1 := by rw [e3, e2, e1]; rfl
        have w409 : xa w3 409 = upd (xa y3 409) A (nI v) := by
          rw [e3, xq_si2, e2, xq_sa, if_neg (by decide), e1, xq_sa, if_pos rfl]
        have w410 : xa w3 410 = upd (xa y3 410) A (nI S1) := by
          rw [e3, xq_si2, e2, xq_sa, if_pos rfl, e1, xq_sa, if_neg (by decide)]
        have w405'' : xi w3 405 = nI (A + 1) := by rw [e3]; exact xsi_s _ _ _
        clear e1 e2 e3
        have x409 : xa y3 409 = xa x 409 := by rw [f3.2.1 409 (by decide), f2.2.1 409 (by decide), a2.2.1 409 (by decide)]
        have x410 : xa y3 410 = xa x 410 := by rw [f3.2.1 410 (by decide), f2.2.1 410 (by decide), a2.2.1 410 (by decide)]
        have EW : exX y1 w3 S1 := exX_t E3 (exX_h (S := S1) wf (by decide) (by decide)) (Nat.le_refl _)
        have EX : exX x w3 S := exX_t a3 EW a5
        have hal : ∀ j, j < A → alF w3 j = alF x j := fun j hj => by unfold alF; rw [w409, pk_un (by omega), x409]
        have halA : alF w3 A = v := by unfold alF; rw [w409, pk_us]; exact ni_cl (by omega)
        have hen : ∀ j, j ≤ A → enF w3 j = enF x j := fun j hj => by
          unfold enF
          by_cases e : j = 0
          · rw [if_pos e, if_pos e]
          · rw [if_neg e, if_neg e, w410, pk_un (by omega), x410]
        have henA : enF w3 (A + 1) = S1 := by
          unfold enF
          rw [if_neg (by omega), Nat.add_sub_cancel, w410, pk_us]; exact ni_cl (by omega)
        obtain ⟨l1, l2, l3, l4⟩ := hg.2.1
        have gw : gX t w3 (k1 + 1 + 1) o1 S1 n := ⟨cX_h c3 wf (by unfold xr; rw [wr]) (by decide) (by decide) (by decide), by rw [wf.1 208 (by decide), f3.1 208 (by decide), f2.1 208 (by decide)]; exact a1.2.1, o1b, by rw [wf.1 406 (by decide)]; exact y406, S1b, by rw [wf.1 400 (by decide), f3.1 400 (by decide), f2.1 400 (by decide)]; exact a1.2.2.2.2.2.1, g7, vX_e a1.2.2.2.2.2.2.2 EW⟩
        refine kok w3 (k1 + 1 + 1) o1 S1 ⟨gw, ⟨by omega, w405'', by rw [hen 0 (Nat.zero_le _)]; exact l3, fun j hj => ?_⟩, henA, ?_⟩ (xh_t F3 (xh_w wf (by decide) (by decide) (by decide))) (by rw [wf.1 212 (by decide), f3.1 212 (by decide), f2.1 212 (by decide)]; exact a9) (by omega) ?_
        · by_cases e : j = A
          · subst e
            rw [halA, henA, hen j (Nat.le_refl _), hg.2.2.1]
            refine ⟨by show xa w3 409 j = _; rw [w409, pk_us], by omega, by show xa w3 410 j = _; rw [w410, pk_us], a5, Nat.le_refl _, ?_⟩
            have := a7 (pgF w3) (fun s _ h2 => (exX_p EW h2).1) 0 0 (by omega) rfl
            rw [Nat.zero_add] at this
            exact this
          · have hj' : j < A := by omega
            obtain ⟨m1, m2, m3, m4, m5, m6⟩ := l4 j hj'
            rw [hal j hj', hen (j + 1) (by omega), hen j (by omega)]
            refine ⟨?_, m2, ?_, m4, by omega, ?_⟩
            · show xa w3 409 j = _
              rw [w409, pk_un e, x409]; exact m1
            · show xa w3 410 j = _
              rw [w410, pk_un e, x410]; exact m3
            · exact pwf_k _ _ _ (fun s' h1 h2 => (exX_p EX (by omega)).1) m6
        · unfold vR
          rw [wf.2.1 407 (by decide), wf.2.1 408 (by decide), wf.1 403 (by decide), F3.2.1 407 (by decide), F3.2.1 408 (by decide), F3.1 403 (by decide)]
          exact hg.2.2.2
        · intro K u0 u hB hK
          refine mid2 K u0 u hB (fun u7 B7 => ?_)
          refine mx_tks (lo := 1) (hi := 9) hA c2.2.2.2 B7.2.1 (by decide) (by decide) (fun _ v' ev' hv' _ _ u9 g9 d9 e33 => ⟨fun _ => ⟨vp6 hA6, fun u11 e11 => ?_⟩, fun g => absurd g (by decide)⟩) (fun q' => absurd q q') (fun _ v' ev' hv' hno' => ?_)
          · have evv := nI_inj (by omega) (by omega) (ev'.symm.trans ev)
            subst evv
            rw [ni_cl (by omega), e33] at e11
            have B9 := aB_n B7 (exX_h (S := S1) f3 (by decide) (by decide)) g9 d9
            obtain ⟨b1, b2, b3, b4, b5, b6, b7, b8, ⟨b9, b9'⟩, b10, b11, b12, b13⟩ := B9
            refine ⟨vp_in_nI (n := 1) (by omega) (by omega), fun y12 e12 => ⟨vp_in_nI (n := 1) (by omega) (by omega), fun u13 e13 => ⟨n011, n011, ?_⟩⟩⟩
            have e12 : y12 = nI A := by rw [e12, e11, tha_n (by decide)]; exact b7
            rw [e12, show nI A + (1 : Int32) = nI (A + 1) from nI_1 A] at e13
            have f13 : mf [] [10, 15] [] u9 u13 := by rw [e13, e11]; exact mf_a (by decide) (mf_a (by decide) (mf_r u9))
            have a10 : u13.2.2.1 10 = upd (u9.2.2.1 10) (6 + A) (nI v') := by rw [e13, tha_n (by decide), e11, tha_s]
            have a15 : u13.2.2.1 15 = upd (u9.2.2.1 15) 1 (nI (A + 1)) := by rw [e13, tha_s, e11, tha_n (by decide)]; rfl
            have l13 : lL u9 u13 := by
              refine ⟨fun i _ => by rw [f13.2.1 6 (by decide), f13.2.1 7 (by decide)]; exact ⟨rfl, rfl⟩, fun i hi => by rw [f13.2.1 8 (by decide), f13.2.1 9 (by decide), a10, pk_un (by omega)]; exact ⟨rfl, rfl, rfl⟩, by rw [f13.2.1 11 (by decide), f13.2.1 12 (by decide), f13.2.1 13 (by decide), f13.2.1 14 (by decide), a15, pk_un (by omega)]; exact ⟨rfl, rfl, rfl, rfl, rfl⟩, lz_f f13 (by decide)⟩
            refine hK u13 ⟨fL_t b1 f13 l13 (by decide) (by decide) (by decide), cM_f b2 f13 (by rw [e13, e11]; rfl) (by decide) (by decide), (f13.1 23 (by decide)).trans b3, (f13.1 21 (by decide)).trans b4, by rw [f13.2.1 11 (by decide)]; exact b5, prM_x (prM_u b6 (loS_f (j := S1) f13 (by decide))) (exX_h (S := S1) wf (by decide) (by decide)), ⟨by rw [a15, pk_us], fun j hj => ?_⟩, fun i hi => ?_, ?_, ?_, ?_⟩
            · rw [a10, f13.2.1 9 (by decide), f13.2.1 8 (by decide)]
              by_cases e : j = A
              · subst e
                rw [pk_us, halA, henA, hen j (Nat.le_refl _), hg.2.2.1]
                exact ⟨rfl, b9', b9⟩
              · have hj' : j < A := by omega
                rw [pk_un (by omega), hal j hj', hen (j + 1) (by omega), hen j (by omega)]
                exact b8 j hj'
            · rw [f13.2.1 6 (by decide), f13.2.1 7 (by decide), wf.2.1 407 (by decide), wf.2.1 408 (by decide), F3.2.1 407 (by decide), F3.2.1 408 (by decide)]; exact b10 i hi
            · rw [f13.2.1 12 (by decide), wf.1 401 (by decide), F3.1 401 (by decide)]; exact b11
            · rw [f13.2.1 13 (by decide), wf.1 402 (by decide), F3.1 402 (by decide)]; exact b12
            · rw [f13.2.1 14 (by decide), wf.1 403 (by decide), F3.1 403 (by decide)]; exact b13
          · have evv := nI_inj (by omega) (by omega) (ev'.symm.trans ev)
            subst evv
            exact absurd ⟨hlo, hhi⟩ hno'
      · refine kbad y 1 (kP t (k1 + 1)) (xh_t (xh_w F2 (by decide) (by decide) (by decide)) (xh_w yf.1 (by decide) (by decide) (by decide))) (by omega) yf.2.1 yf.2.2 ?_
        intro K u0 u hB hK
        refine mid2 K u0 u hB (fun u7 B7 => ?_)
        unfold M_alarmLine_59
        exact mx_tks (lo := 1) (hi := 9) hA c2.2.2.2 B7.2.1 (by decide) (by decide) (fun q' => absurd q' q) (fun _ z hz => ⟨fun g => absurd rfl g, fun _ => ⟨n010, n010, hK z (gB_f B7.1 hz)⟩⟩) (fun q' => absurd q' q)
      · refine kbad y 2 (kP t (k1 + 1)) (xh_t (xh_w F2 (by decide) (by decide) (by decide)) (xh_w yf.1 (by decide) (by decide) (by decide))) (by omega) yf.2.1 yf.2.2 ?_
        intro K u0 u hB hK
        refine mid2 K u0 u hB (fun u7 B7 => ?_)
        unfold M_alarmLine_59
        refine mx_tks (lo := 1) (hi := 9) hA c2.2.2.2 B7.2.1 (by decide) (by decide) (fun _ v' ev' hv' h1 h2 => ?_) (fun q' => absurd q q') (fun _ v' ev' hv' _ z hz => ⟨fun g => absurd rfl g, fun _ => ⟨n010, n010, hK z (gB_f B7.1 hz)⟩⟩)
        have evv := nI_inj (by omega) (by omega) (ev'.symm.trans ev)
        subst evv
        exact absurd ⟨h1, h2⟩ hno
    · refine kbad y 1 (kP t k1) (xh_t (xh_w a2 (by decide) (by decide) (by decide)) (xh_w yf.1 (by decide) (by decide) (by decide))) (by omega) yf.2.1 yf.2.2 ?_
      intro K u0 u hB hK
      refine mid K u0 u hB (fun u6 B6 => ?_)
      unfold M_alarmLine_59
      exact mx_tkW hA k1T B6.2.1 (w := 18) (by decide) (by decide) (by decide) (fun q' => absurd q' q2) (fun _ z hz => ⟨fun _ => ⟨n010, n010, hK z (gB_f B6.1 hz)⟩, fun g => absurd rfl g⟩)
  · refine kbad y1 kd pl (xh_w y1F (by decide) (by decide) (by decide)) hkd y212 y213 ?_
    intro K u0 u hB hK
    refine pre K u0 u hB (fun u3 h3 f3 w3 e8 => ?_)
    obtain ⟨h9, hB9, e9⟩ := st9 u0 u u3 hB h3 f3 w3
    exact mx_condB (t := t) (k := k) (hsim _ _ [] _ hB9 pd1 (fun z hz => ⟨fun g => absurd rfl g, fun _ => ⟨n010, n010, hK z (gB_b h9 hz)⟩⟩))

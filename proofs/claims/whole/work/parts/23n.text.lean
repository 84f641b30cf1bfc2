/-! text: whole -/
def stM (t : TK) (u0 u : th_St) : Prop := fL u0 u ∧ cM t u 0 ∧ u.1 23 = nI 0 ∧ u.1 21 = nI 0 ∧ u.2.2.1 11 1 = nI 24 ∧ u.2.2.1 15 1 = nI 0 ∧ (∀ i, i < 48 → u.2.2.1 6 (48 + i) = 0 ∧ u.2.2.1 7 (48 + i) = 10) ∧ u.2.2.1 12 1 = 1 ∧ u.2.2.1 13 1 = 1 ∧ u.2.2.1 14 1 = 0
theorem sx_empty {x : xs_St} {K : xs_St → Prop} (h : ∀ y, xh [400, 401, 402, 403, 404, 405, 406] [407, 408] [] x y → y.2.1 = x.2.1 → xi y 400 = nI 24 → xi y 401 = 1 → xi y 402 = 1 → xi y 403 = 0 → xi y 404 = 0 → xi y 405 = 0 → xi y 406 = 0 → (∀ i, i < 48 → xa y 407 i = 0 ∧ xa y 408 i = 10) → K y) : X_T_empty_B x K := by
  unfold X_T_empty_B
  intro u1 e1 u2 e2 u3 e3 u4 e4 u5 e5 u6 e6 u7 e7
  have f7 : xh [400, 401, 402, 403, 404, 405, 406] [407, 408] [] x u7 := by rw [e7, e6, e5, e4, e3, e2, e1]; exact xh_i (by decide) (xh_i (by decide) (xh_i (by decide) (xh_i (by decide) (xh_i (by decide) (xh_i (by decide) (xh_i (by decide) (xh_r x)))))))
  have g0 : xi u7 400 = nI 24 := by rw [e7, xsi_n (by decide), e6, xsi_n (by decide), e5, xsi_n (by decide), e4, xsi_n (by decide), e3, xsi_n (by decide), e2, xsi_n (by decide), e1]; exact xsi_s _ _ _
  have g1 : xi u7 401 = 1 := by rw [e7, xsi_n (by decide), e6, xsi_n (by decide), e5, xsi_n (by decide), e4, xsi_n (by decide), e3, xsi_n (by decide), e2]; exact xsi_s _ _ _
  have g2 : xi u7 402 = 1 := by rw [e7, xsi_n (by decide), e6, xsi_n (by decide), e5, xsi_n (by decide), e4, xsi_n (by decide), e3]; exact xsi_s _ _ _
  have g3 : xi u7 403 = 0 := by rw [e7, xsi_n (by decide), e6, xsi_n (by decide), e5, xsi_n (by decide), e4]; exact xsi_s _ _ _
  have g4 : xi u7 404 = 0 := by rw [e7, xsi_n (by decide), e6, xsi_n (by decide), e5]; exact xsi_s _ _ _
  have g5 : xi u7 405 = 0 := by rw [e7, xsi_n (by decide), e6]; exact xsi_s _ _ _
  have g6 : xi u7 406 = 0 := by rw [e7]; exact xsi_s _ _ _
  have r7 : u7.2.1 = x.2.1 := by rw [e7, e6, e5, e4, e3, e2, e1]; rfl
  clear e1 e2 e3 e4 e5 e6 e7
  refine fi_408 (fun u8 f8 v8 => ?_)
  have h8 : xh [] [408] [] u7 u8 := ⟨fun k _ => f8.1 k (by simp), fun k hk => f8.2.1 k hk, fun k => f8.2.2.1 k (by simp), fun k _ => by unfold xr; rw [f8.2.2.2], fun k _ => by unfold xo; rw [f8.2.2.2], by rw [f8.2.2.2]⟩
  have r8 : u8.2.1 = x.2.1 := by rw [f8.2.2.2]; exact r7
  refine lqe2 (F := X_T_empty_B_47_lp K) (G := X_T_empty_B_47 K) (fun _ _ _ => rfl) (fun d a1 v => xh [] [407] [] u8 v ∧ v.2.1 = x.2.1 ∧ ∃ i, a1 = nI i ∧ i + d = 48 ∧ ∀ j, j < i → xa v 407 j = 0) ?_ 48 _ _ ⟨xh_r u8, r8, 0, rfl, by omega, fun j hj => by omega⟩
  rintro kk d a1 v ⟨vf, vr, i, rfl, hid, hV⟩ ih
  unfold X_T_empty_B_47
  have c48 : ((48 : Int32) ≤ nI i) = (48 ≤ i) := ni_le (a := 48) (by omega) (by omega)
  rw [c48]
  refine br1 (fun q => ?_) (fun q => ⟨vp_in_nI (by omega) (by omega), fun u1 e1 x1 e2 => ?_⟩)
  · have fin : ∀ k, xi v k = xi u7 k := fun k => (vf.1 k (by simp)).trans (h8.1 k (by simp))
    refine h v (xh_t f7 (xh_t (xh_w h8 (by decide) (by decide) (by decide)) (xh_w vf (by decide) (by decide) (by decide)))) vr ((fin 400).trans g0) ((fin 401).trans g1) ((fin 402).trans g2) ((fin 403).trans g3) ((fin 404).trans g4) ((fin 405).trans g5) ((fin 406).trans g6) (fun j hj => ⟨hV j (by omega), ?_⟩)
    rw [vf.2.1 408 (by decide)]; exact v8 j hj
  · rw [ni_cl (by omega)] at e1
    subst e2
    refine ih (d - 1) _ _ (by omega) ⟨by rw [e1]; exact xh_a (by decide) vf, by rw [e1]; exact vr, i + 1, nI_1 i, by omega, fun j hj => ?_⟩
    rw [e1, xq_sa, if_pos rfl]
    by_cases e : j = i
    · subst e; rw [pk_us]; rfl
    · rw [pk_un e]; exact hV j (by omega)
theorem rd_reads {x : xs_St} {L : Nat} {b : Nat → Nat} {KX : Int32 → xs_St → Prop} (hb : bX x L b)
    (kok : ∀ (t : TK) y k' o' S' n A li, kA t → kb t = b → kL t = L → gL t y k' o' S' n A → xT x y → xi y 404 = nI li → xi y 212 = 0 → li ≤ 24 → (∀ K u0 u, stM t u0 u → (∀ u', lB t y u0 u' k' o' S' n A → K (nI li) u') → M_read u K) → KX 1 y)
    (kbad : ∀ (t : TK) y kd pl, kA t → kb t = b → kL t = L → xT x y → (1 ≤ kd ∧ kd ≤ 4) → xi y 212 = nI kd → xi y 213 = nI pl → (∀ K u0 u, stM t u0 u → (∀ z, gB u0 z kd pl → K (-1) z) → M_read u K) → KX 0 y) : X_RD_reads x KX := by
  have hL := hb.1
  unfold X_RD_reads
  refine sx_empty (fun x1 f1 r1 e400 e401 e402 e403 e404 e405 e406 eA => ?_)
  have b1 := bX_h hb f1 (by decide) (by decide)
  refine sx_scan b1 (fun x2 T KD PL PP VL hT f2 r2 htx htb hKT hPT hPP => ?_)
  obtain ⟨t, ht⟩ : ∃ t : TK, t = (b, L, T, KD, PL, PP, VL) := ⟨_, rfl⟩
  have hA : kA t := by rw [ht]; exact ⟨hT, htb, hKT, hPT, hPP⟩
  have htx' : tkX x2 (kT t + 1) (kK t) (kP t) (kV t) := by rw [ht]; exact htx
  have hkb : kb t = b := by rw [ht]
  have hkL : kL t = L := by rw [ht]
  have hT' : kT t ≤ 400 := hA.1
  clear htx htb hKT hPT hPP ht
  intro u5 e5
  unfold X_RD_advance X_RD_advance_36
  have a205 : xi u5 205 = (-1 : Int32) := by rw [e5]; exact xsi_s _ _ _
  have a203 : xi u5 203 = nI (kT t + 1) := by rw [e5, xsi_n (by decide)]; exact htx'.1
  have c0 : (nI (kT t + 1) ≤ ((-1 : Int32) + (1 : Int32))) = (kT t + 1 ≤ 0) := by
    rw [show (-1 : Int32) + (1 : Int32) = nI 0 from by decide]; exact ni_le (by omega) (by omega)
  rw [a203, a205, c0]
  refine ⟨fun g => by omega, fun _ u6 e6 => ?_⟩
  have a6 : xi u6 205 = nI 0 := by rw [e6, xsi_s]; decide
  rw [a6]
  refine ⟨vp_in_nI (by omega) (by omega), fun y2 ey u7 e7 => ?_⟩
  have o6 : xo u6 200 = xo x2 200 := by rw [e6, e5]; rfl
  rw [ni_cl (by omega), o6, (htx'.2 0 (by omega)).1] at ey
  subst ey
  intro u8 e8
  refine ⟨n010, fun u9 e9 => ⟨n010, fun u10 e10 => ⟨n010, fun u11 e11 u12 e12 => ?_⟩⟩⟩
  have f12 : xh [205, 208, 209, 210, 211, 212] [] [] x2 u12 := by
    rw [e12, e11, e10, e9, e8, e7, e6, e5]
    exact xh_i (by decide) (xh_i (by decide) (xh_i (by decide) (xh_i (by decide) (xh_i (by decide) (xh_q (xh_i (by decide) (xh_i (by decide) (xh_r x2))))))))
  have s206 : xr u12 206 = some (kK t 0) := by
    rw [e12, e11, e10, e9, e8, e7]
    exact xu_s u6.2.1 206 (some (kK t 0))
  have s205 : xi u12 205 = nI 0 := by
    rw [e12, xsi_n (by decide), e11, xsi_n (by decide), e10, xsi_n (by decide), e9, xsi_n (by decide), e8, xsi_n (by decide), e7]; exact a6
  have s208 : xi u12 208 = nI 0 := by rw [e12, xsi_n (by decide), e11, xsi_n (by decide), e10, xsi_n (by decide), e9, xsi_n (by decide), e8]; exact xsi_s _ _ _
  have s209 : xi u12 209 = bI false := by rw [e12, xsi_n (by decide), e11, xsi_n (by decide), e10, xsi_n (by decide), e9]; exact xsi_s _ _ _
  have s210 : xi u12 210 = bI false := by rw [e12, xsi_n (by decide), e11, xsi_n (by decide), e10]; exact xsi_s _ _ _
  have s211 : xi u12 211 = bI false := by rw [e12, xsi_n (by decide), e11]; exact xsi_s _ _ _
  have s212 : xi u12 212 = 0 := by rw [e12]; exact xsi_s _ _ _
  clear e5 e6 e7 e8 e9 e10 e11 e12 a205 a203 a6 o6
  have i2 : ∀ k, k ∉ [203] → xi x2 k = xi x1 k := f2.1
  have T12 : xT x u12 := xh_t (xh_w f1 (by decide) (by decide) (by decide)) (xh_t (xh_w f2 (by decide) (by decide) (by decide)) (xh_w f12 (by decide) (by decide) (by decide)))
  have c12 : cX t u12 0 := ⟨⟨(f12.1 203 (by decide)).trans htx'.1, fun j hj => by rw [f12.2.2.2.2.1 200 (by decide), f12.2.1 201 (by decide), f12.2.1 202 (by decide)]; exact htx'.2 j hj⟩, s205, s206, Nat.zero_le _⟩
  have s400 : xi u12 400 = nI 24 := by rw [f12.1 400 (by decide), i2 400 (by decide)]; exact e400
  have s404 : xi u12 404 = nI 0 := by rw [f12.1 404 (by decide), i2 404 (by decide)]; exact e404
  have s405 : xi u12 405 = nI 0 := by rw [f12.1 405 (by decide), i2 405 (by decide)]; exact e405
  have s406 : xi u12 406 = nI 0 := by rw [f12.1 406 (by decide), i2 406 (by decide)]; exact e406
  have s401 : xi u12 401 = 1 := by rw [f12.1 401 (by decide), i2 401 (by decide)]; exact e401
  have s402 : xi u12 402 = 1 := by rw [f12.1 402 (by decide), i2 402 (by decide)]; exact e402
  have s403 : xi u12 403 = 0 := by rw [f12.1 403 (by decide), i2 403 (by decide)]; exact e403
  have s407 : ∀ i, i < 48 → xa u12 407 i = 0 ∧ xa u12 408 i = 10 := fun i hi => by rw [f12.2.1 407 (by decide), f12.2.1 408 (by decide), f2.2.1 407 (by decide), f2.2.1 408 (by decide)]; exact eA i hi
  have s101 : xi u12 101 = nI (kL t) := by rw [hkL, T12.1 101 (by decide)]; exact hb.2.1
  have start : ∀ (z : xs_St) (k n : Nat), cX t z k → (4 ≤ n ∧ n ≤ 48) → xi z 400 = nI n → xh [205, 207, 400] [] [] u12 z → gL t z k 0 0 n 0 := by
    intro z k n hc hn h4 hz
    refine ⟨⟨hc, (hz.1 208 (by decide)).trans s208, by omega, (hz.1 406 (by decide)).trans s406, by omega, h4, hn, ⟨by omega, fun s hs => by omega⟩⟩, ⟨by omega, (hz.1 405 (by decide)).trans s405, rfl, fun k hk => by omega⟩, rfl, fun i hi => ?_, 0, by omega, (hz.1 403 (by decide)).trans s403⟩
    rw [hz.2.1 407 (by decide), hz.2.1 408 (by decide), (s407 i hi).1, (s407 i hi).2]
    exact ⟨Or.inl rfl, by decide, by decide⟩
  have lstart : ∀ (z : xs_St) u0 u, stM t u0 u → xh [205, 207, 400] [] [] u12 z → ∀ (k n : Nat) v, cM t v k → mf [4, 24, 25, 26, 27, 33] [11] [] u v → (∀ j, j ≠ 1 → v.2.2.1 11 j = u.2.2.1 11 j) → v.2.2.1 11 1 = nI n → lB t z u0 v k 0 0 n 0 := by
    intro z u0 u hs hz k n v hc hv h11 h11'
    obtain ⟨q1, q2, q3, q4, q5, q6, q7, q8, q9, q10⟩ := hs
    have lv : lL u v := by
      refine ⟨fun i _ => by rw [hv.2.1 6 (by decide), hv.2.1 7 (by decide)]; exact ⟨rfl, rfl⟩, fun i _ => by rw [hv.2.1 8 (by decide), hv.2.1 9 (by decide), hv.2.1 10 (by decide)]; exact ⟨rfl, rfl, rfl⟩, ⟨h11 0 (by decide), by rw [hv.2.1 12 (by decide)], by rw [hv.2.1 13 (by decide)], by rw [hv.2.1 14 (by decide)], by rw [hv.2.1 15 (by decide)]⟩, lz_f hv (by decide)⟩
    refine ⟨fL_t q1 hv lv (by decide) (by decide) (by decide), hc, (hv.1 23 (by decide)).trans q3, (hv.1 21 (by decide)).trans q4, h11', fun s hs => by omega, ⟨by rw [hv.2.1 15 (by decide)]; exact q6, fun k hk => by omega⟩, fun i hi => ?_, ?_, ?_, ?_⟩
    · rw [hv.2.1 6 (by decide), hv.2.1 7 (by decide), hz.2.1 407 (by decide), hz.2.1 408 (by decide), (s407 i hi).1, (s407 i hi).2]; exact q7 i hi
    · rw [hv.2.1 12 (by decide), hz.1 401 (by decide), s401]; exact q8
    · rw [hv.2.1 13 (by decide), hz.1 402 (by decide), s402]; exact q9
    · rw [hv.2.1 14 (by decide), hz.1 403 (by decide), s403]; exact q10
  have es : ∀ v : Nat, (some (kK t 0) = some v) = (kK t 0 = v) := fun v => by simp
  rw [s206, es]
  refine br2 (fun q => ?_) (fun q => ?_)
  · have rd : ∀ (K : Int32 → th_St → Prop) u0 u, stM t u0 u → rLn t K 0 0 0 u → M_read u K := by
      intro K u0 u hs h
      unfold M_read
      exact mx_isW hA (Nat.zero_le _) hs.2.1 (w := 9) (by decide) (by decide) (by decide) (fun e => absurd e q) (fun _ => ⟨fun _ => ⟨_, h _ (Nat.le_refl _)⟩, fun g => absurd rfl g⟩)
    refine rd_lines hA (start u12 0 24 c12 (by omega) s400 (xh_r u12)) ⟨s404, s209, s210, s211⟩ s101 (by omega) s212 (fun y k' o' S' A li yg yT y404 y212 hli hs => ?_) (fun y kd pl yT hkd y212 y213 hs => ?_)
    · exact kok t y k' o' S' 24 A li hA hkb hkL yg (xh_t T12 yT) y404 y212 hli (fun K u0 u hst hK => rd K u0 u hst (hs K u0 u (lstart u12 u0 u hst (xh_r u12) 0 24 u hst.2.1 (mf_r u) (fun _ _ => rfl) hst.2.2.2.2.1) hK))
    · exact kbad t y kd pl hA hkb hkL (xh_t T12 yT) hkd y212 y213 (fun K u0 u hst hK => rd K u0 u hst (hs K u0 u (lstart u12 u0 u hst (xh_r u12) 0 24 u hst.2.1 (mf_r u) (fun _ _ => rfl) hst.2.2.2.2.1) hK))
  · have h0T := kA_l hA (Nat.zero_le _) (show kK t 0 ≠ 0 by omega)
    have rd : ∀ (K : Int32 → th_St → Prop) u0 u, stM t u0 u → (∀ u3, mf [4, 24, 25, 26, 27] [] [] u u3 → cM t u3 1 → M_takes (4 : Int32) (48 : Int32) u3 (fun r_6 u_5 => ((¬ r_6 = 0 → (vp_in (1 : Int32) 2 ∧ ∀ u_7 : th_St, u_7 = th_sa u_5 11 (upd (u_5.2.2.1 11) ((1 : Int32)).toNatClampNeg (u_5.1 33)) → M_sign (59 : Int32) u_7 (fun r_9 u_8 => ((¬ r_9 = 0 → ∃ n, M_read_51_lp K n (0 : Int32) (0 : Int32) u_8) ∧ (r_9 = 0 → K (-1 : Int32) u_8))))) ∧ (r_6 = 0 → K (-1 : Int32) u_5)))) → M_read u K := by
      intro K u0 u hs h
      unfold M_read
      exact mx_isW hA (Nat.zero_le _) hs.2.1 (w := 9) (by decide) (by decide) (by decide) (fun _ => ⟨fun g => absurd g (by decide), fun _ => mx_nxt hA hs.2.1 h0T (fun u3 f3 c3 => h u3 f3 c3)⟩) (fun e => absurd q e)
    unfold X_RD_readFeet
    refine sx_adv hA c12 h0T (fun z1 g1 d1 => ?_)
    refine sx_num (lo := 4) (hi := 48) hA d1 (by decide) (by decide) (fun q2 v ev hv hlo hhi z3 g3 d3 e207 => ⟨fun _ z5 e5 => ?_, fun g => absurd g (by decide)⟩) (fun q2 y yf => ⟨fun g => absurd rfl g, fun _ => ⟨n010, fun g => absurd rfl g, fun _ => ⟨n010, ?_⟩⟩⟩) (fun q2 v ev hv hno y yf => ⟨fun g => absurd rfl g, fun _ => ⟨n010, fun g => absurd rfl g, fun _ => ⟨n010, ?_⟩⟩⟩)
    · rw [e207] at e5
      have g5 : xh [205, 207, 400] [] [] u12 z5 := by rw [e5]; exact xh_i (by decide) (xh_t (xh_w g1 (by decide) (by decide) (by decide)) (xh_w g3 (by decide) (by decide) (by decide)))
      have z400 : xi z5 400 = nI v := by rw [e5]; exact xsi_s _ _ _
      have d5 : cX t z5 2 := cX_h (I := [400]) (A := []) (O := []) d3 (by rw [e5]; exact xh_i (by decide) (xh_r z3)) (by rw [e5]; rfl) (by decide) (by decide) (by decide)
      have h1T := kA_l hA d1.2.2.2 (show kK t (0 + 1) ≠ 0 by omega)
      have two : ∀ (K : Int32 → th_St → Prop) u0 u, stM t u0 u → (∀ u7, mf [4, 24, 25, 26, 27, 33] [11] [] u u7 → cM t u7 2 → (∀ j, j ≠ 1 → u7.2.2.1 11 j = u.2.2.1 11 j) → u7.2.2.1 11 1 = nI v → M_sign (59 : Int32) u7 (fun r_9 u_8 => ((¬ r_9 = 0 → ∃ n, M_read_51_lp K n (0 : Int32) (0 : Int32) u_8) ∧ (r_9 = 0 → K (-1 : Int32) u_8)))) → M_read u K := by
        intro K u0 u hs h
        refine rd K u0 u hs (fun u3 f3 c3 => ?_)
        refine mx_tks (lo := 4) (hi := 48) hA d1.2.2.2 c3 (by decide) (by decide) (fun _ v' ev' hv' _ _ u5 f5 c5 e33 => ⟨fun _ => ⟨vp_in_nI (n := 1) (by omega) (by omega), fun u7 e7 => ?_⟩, fun g => absurd g (by decide)⟩) (fun q' => absurd q2 q') (fun _ v' ev' hv' hno' => ?_)
        · have evv := nI_inj (by omega) (by omega) (ev'.symm.trans ev)
          subst evv
          rw [e33] at e7
          have f7 : mf [] [11] [] u5 u7 := by rw [e7]; exact mf_a (by decide) (mf_r u5)
          have a11 : u7.2.2.1 11 = upd (u5.2.2.1 11) 1 (nI v') := by rw [e7, tha_s]; rfl
          refine h u7 (mf_t (mf_w f3 (by decide) (by decide) (by decide)) (mf_t (mf_w f5 (by decide) (by decide) (by decide)) (mf_w f7 (by decide) (by decide) (by decide)))) (cM_f c5 f7 (by rw [e7]; rfl) (by decide) (by decide)) (fun j hj => ?_) (by rw [a11, pk_us])
          rw [a11, pk_un hj, f5.2.1 11 (by decide), f3.2.1 11 (by decide)]
        · have evv := nI_inj (by omega) (by omega) (ev'.symm.trans ev)
          subst evv
          exact absurd ⟨hlo, hhi⟩ hno'
      have fL7 : ∀ u0 u u7, stM t u0 u → mf [4, 24, 25, 26, 27, 33] [11] [] u u7 → (∀ j, j ≠ 1 → u7.2.2.1 11 j = u.2.2.1 11 j) → fL u0 u7 := by
        intro u0 u u7 hs hv h11
        have lv : lL u u7 := by
          refine ⟨fun i _ => by rw [hv.2.1 6 (by decide), hv.2.1 7 (by decide)]; exact ⟨rfl, rfl⟩, fun i _ => by rw [hv.2.1 8 (by decide), hv.2.1 9 (by decide), hv.2.1 10 (by decide)]; exact ⟨rfl, rfl, rfl⟩, ⟨h11 0 (by decide), by rw [hv.2.1 12 (by decide)], by rw [hv.2.1 13 (by decide)], by rw [hv.2.1 14 (by decide)], by rw [hv.2.1 15 (by decide)]⟩, lz_f hv (by decide)⟩
        exact fL_t hs.1 hv lv (by decide) (by decide) (by decide)
      refine sx_take (w := 3) hA d5 (by decide) (fun q3 z6 g6 d6 => ⟨n011, fun _ => ?_, fun g => absurd g (by decide)⟩) (fun q3 y yf => ⟨n010, fun g => absurd rfl g, fun _ => ⟨n010, ?_⟩⟩)
      · have g6' : xh [205, 207, 400] [] [] u12 z6 := xh_t g5 (xh_w g6 (by decide) (by decide) (by decide))
        have three : ∀ (K : Int32 → th_St → Prop) u0 u, stM t u0 u → (∀ u8, lB t z6 u0 u8 3 0 0 v 0 → rLn t K 3 0 0 u8) → M_read u K := by
          intro K u0 u hs h
          refine two K u0 u hs (fun u7 f7 c7 h11 h11' => ?_)
          refine mx_sgn hA d5.2.2.2 c7 (w := 3) (by decide) (by decide) rfl (fun _ u8 f8 c8 => ⟨fun _ => ?_, fun g => absurd g (by decide)⟩) (fun g => absurd q3 g)
          have := h u8 (lstart z6 u0 u hs g6' 3 v u8 c8 (mf_t f7 (mf_w f8 (by decide) (by decide) (by decide))) (fun j hj => by rw [f8.2.1 11 (by decide)]; exact h11 j hj) (by rw [f8.2.1 11 (by decide)]; exact h11'))
          exact ⟨_, this _ (Nat.le_refl _)⟩
        have T6 : xT x z6 := xh_t T12 (xh_w g6' (by decide) (by decide) (by decide))
        refine rd_lines hA (start z6 3 v d6 (by omega) (by rw [g6.1 400 (by decide)]; exact z400) g6') (flX_n ⟨s404, s209, s210, s211⟩ g6' (by decide)) (by rw [g6'.1 101 (by decide)]; exact s101) (by omega) (by rw [g6'.1 212 (by decide)]; exact s212) (fun y k' o' S' A li yg yT y404 y212 hli hs => ?_) (fun y kd pl yT hkd y212 y213 hs => ?_)
        · exact kok t y k' o' S' v A li hA hkb hkL yg (xh_t T6 yT) y404 y212 hli (fun K u0 u hst hK => three K u0 u hst (fun u8 B8 => hs K u0 u8 B8 hK))
        · exact kbad t y kd pl hA hkb hkL (xh_t T6 yT) hkd y212 y213 (fun K u0 u hst hK => three K u0 u hst (fun u8 B8 => hs K u0 u8 B8 hK))
      · refine kbad t y 1 (kP t 2) hA hkb hkL (xh_t T12 (xh_t (xh_w g5 (by decide) (by decide) (by decide)) (xh_w yf.1 (by decide) (by decide) (by decide)))) (by omega) yf.2.1 yf.2.2 (fun K u0 u hst hK => ?_)
        refine two K u0 u hst (fun u7 f7 c7 h11 h11' => ?_)
        exact mx_sgn hA d5.2.2.2 c7 (w := 3) (by decide) (by decide) rfl (fun g => absurd g q3) (fun _ z hz => ⟨fun g => absurd rfl g, fun _ => hK z (gB_f (fL7 u0 u u7 hst f7 h11) hz)⟩)
    · refine kbad t y 1 (kP t 1) hA hkb hkL (xh_t T12 (xh_t (xh_w g1 (by decide) (by decide) (by decide)) (xh_w yf.1 (by decide) (by decide) (by decide)))) (by omega) yf.2.1 yf.2.2 (fun K u0 u hst hK => rd K u0 u hst (fun u3 f3 c3 => ?_))
      have F3 : fL u0 u3 := fL_t hst.1 f3 (lL_f f3 (by decide) (lz_f f3 (by decide))) (by decide) (by decide) (by decide)
      exact mx_tks (lo := 4) (hi := 48) hA d1.2.2.2 c3 (by decide) (by decide) (fun q' => absurd q' q2) (fun _ z hz => ⟨fun g => absurd rfl g, fun _ => hK z (gB_f F3 hz)⟩) (fun q' => absurd q' q2)
    · refine kbad t y 2 (kP t 1) hA hkb hkL (xh_t T12 (xh_t (xh_w g1 (by decide) (by decide) (by decide)) (xh_w yf.1 (by decide) (by decide) (by decide)))) (by omega) yf.2.1 yf.2.2 (fun K u0 u hst hK => rd K u0 u hst (fun u3 f3 c3 => ?_))
      have F3 : fL u0 u3 := fL_t hst.1 f3 (lL_f f3 (by decide) (lz_f f3 (by decide))) (by decide) (by decide) (by decide)
      refine mx_tks (lo := 4) (hi := 48) hA d1.2.2.2 c3 (by decide) (by decide) (fun _ v' ev' hv' h1 h2 => ?_) (fun q' => absurd q2 q') (fun _ v' ev' hv' _ z hz => ⟨fun g => absurd rfl g, fun _ => hK z (gB_f F3 hz)⟩)
      have evv := nI_inj (by omega) (by omega) (ev'.symm.trans ev)
      subst evv
      exact absurd ⟨h1, h2⟩ hno

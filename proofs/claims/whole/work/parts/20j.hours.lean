/-! hour and mend: whole -/
theorem xsi_n {x : xs_St} {k j : Nat} {v : Int32} (h : j ≠ k) : xi (xs_si x k v) j = xi x j := va_up_ne _ _ h
theorem xsi_s (x : xs_St) (k : Nat) (v : Int32) : xi (xs_si x k v) k = v := va_up_self _ _ _
theorem thi_n {m : th_St} {k j : Nat} {v : Int32} (h : j ≠ k) : (th_si m k v).1 j = m.1 j := va_up_ne _ _ h
theorem thi_s (m : th_St) (k : Nat) (v : Int32) : (th_si m k v).1 k = v := va_up_self _ _ _
theorem tha_n {m : th_St} {k j : Nat} {v : Nat → Int32} (h : j ≠ k) : (th_sa m k v).2.2.1 j = m.2.2.1 j := va_up_ne _ _ h
theorem tha_s (m : th_St) (k : Nat) (v : Nat → Int32) : (th_sa m k v).2.2.1 k = v := va_up_self _ _ _
theorem mfT (m : th_St) : mf [0, 2, 3, 4] [] [] m (mT m) := mf_i (by decide) (mf_i (by decide) (mf_i (by decide) (mf_i (by decide) (mf_r m))))
theorem xg_x {I A L O : List Nat} {x y : xs_St} (h : xf I A L x y) : xg I A L O x y := ⟨h.1, h.2.1, h.2.2.1, by rw [h.2.2.2], fun k _ => by unfold xo; rw [h.2.2.2]⟩
theorem lkX_d {x y : xs_St} (e : y.2.2.2 = x.2.2.2) : ∀ (l : List Nat) (o : Option Nat), lkX x o l → lkX y o l := by
  intro l
  induction l with
  | nil => intro o h; exact h
  | cons b l ih => intro o h; rw [lkX] at h ⊢; exact ⟨h.1, by unfold xdR; rw [e]; exact ih _ h.2⟩
theorem lgX_d {x y : xs_St} {n N : Nat} {eh ed er ea : Nat → Nat} {rd wd : Nat → Nat → Int} (e : y.2.2.2 = x.2.2.2) (e3 : xi y 503 = xi x 503) (eo : xo y 500 = xo x 500) (h : lgX x n N eh ed er ea rd wd) : lgX y n N eh ed er ea rd wd := by
  obtain ⟨g1, g2, g3, g4⟩ := h
  refine ⟨g1, e3.trans g2, fun j hj => ?_, g4⟩
  obtain ⟨q1, q2⟩ := g3 j hj
  refine ⟨by rw [eo]; exact q1, ?_⟩
  unfold rA xd_is xdL xdK xdR xdI xdN xdA at *
  rw [e]; exact q2
theorem trX_d {x y : xs_St} {n : Nat} {fx : Nat → Bool} {hd : Nat → Int} {N : Nat} {eh er : Nat → Nat} {rd : Nat → Nat → Int} {P : Nat → List Nat} (e : y.2.2.2 = x.2.2.2) (e2 : xr y 502 = xr x 502) (h : trX x n fx hd N eh er rd P) : trX y n fx hd N eh er rd P := by
  obtain ⟨⟨st, h1, h2, h3⟩, h4⟩ := h
  refine ⟨⟨st, e2.trans h1, ?_, h3⟩, fun c hc => ?_⟩
  · unfold xd_is xdL xdK at *
    rw [e]; exact h2
  · have hc' : xd_is x c 3 := by
      unfold xd_is xdL xdK at *
      rw [e] at hc; exact hc
    obtain ⟨⟨l, q1, q2⟩, q3⟩ := h4 c hc'
    refine ⟨⟨l, ?_, fun b hb => ?_⟩, ?_⟩
    · have := lkX_d e l _ q1
      unfold xdR at *
      rw [e]; exact this
    · have := q2 b hb
      unfold xd_is xdL xdK xdR at *
      rw [e]; exact this
    · unfold rA nA xd_is xdL xdK xdR xdI xdN xdA at *
      rw [e]; exact q3
theorem bq_f {x x' : xs_St} {m m' : th_St} {n : Nat} {fx : Nat → Bool} {hd : Nat → Int} {N : Nat} {eh ed er ea : Nat → Nat} {rd wd : Nat → Nat → Int} {P : Nat → List Nat} {I A L I' A' L' : List Nat} (h : bq x m n fx hd N eh ed er ea rd wd P) (hx : xf I A L x x') (hI : 300 ∉ I ∧ 503 ∉ I ∧ 504 ∉ I ∧ 505 ∉ I ∧ 12 ∉ I) (hA : 307 ∉ A ∧ 308 ∉ A) (hm : mf I' A' L' m m') (hI' : 30 ∉ I' ∧ 31 ∉ I' ∧ 40 ∉ I' ∧ 41 ∉ I' ∧ 42 ∉ I') (hA' : 11 ∉ A' ∧ 6 ∉ A' ∧ 7 ∉ A' ∧ 35 ∉ A' ∧ 36 ∉ A' ∧ 37 ∉ A' ∧ 38 ∉ A' ∧ 39 ∉ A') : bq x' m' n fx hd N eh ed er ea rd wd P := by
  obtain ⟨b1, b2, b3, b4, b5, b6, b7, b8, b9, b10⟩ := h
  obtain ⟨i1, i2, i3, i4, i5⟩ := hI
  obtain ⟨j1, j2, j3, j4, j5⟩ := hI'
  obtain ⟨a1, a2, a3, a4, a5, a6, a7, a8⟩ := hA'
  refine ⟨⟨b1.1, (hx.1 300 i1).trans b1.2.1, fun i hi => ?_⟩, txM_f b2 hm a1 a2 a3, lgX_d (by rw [hx.2.2.2]) (hx.1 503 i2) (by unfold xo; rw [hx.2.2.2]) b3, lgM_f b4 hm j1 j2 a4 a5 a6, b5, trX_d (by rw [hx.2.2.2]) (by unfold xr; rw [hx.2.2.2]) b6, chM_f b7 hm j3 j4 j5 a7 a8, (hx.1 504 i3).trans b8, (hx.1 505 i4).trans b9, ?_⟩
  · rw [hx.2.1 307 hA.1, hx.2.1 308 hA.2]; exact b1.2.2 i hi
  · rw [hx.1 12 i5]; exact b10
theorem sBody_f {x x' : xs_St} {m m' : th_St} {I A L I' A' L' : List Nat} (h : sBody x m) (hx : xf I A L x x') (hI : 300 ∉ I ∧ 503 ∉ I ∧ 504 ∉ I ∧ 505 ∉ I ∧ 12 ∉ I) (hA : 307 ∉ A ∧ 308 ∉ A) (hm : mf I' A' L' m m') (hI' : 30 ∉ I' ∧ 31 ∉ I' ∧ 40 ∉ I' ∧ 41 ∉ I' ∧ 42 ∉ I') (hA' : 11 ∉ A' ∧ 6 ∉ A' ∧ 7 ∉ A' ∧ 35 ∉ A' ∧ 36 ∉ A' ∧ 37 ∉ A' ∧ 38 ∉ A' ∧ 39 ∉ A') : sBody x' m' := by
  obtain ⟨n, fx, hd, N, eh, ed, er, ea, rd, wd, P, hq⟩ := h
  exact ⟨n, fx, hd, N, eh, ed, er, ea, rd, wd, P, bq_f hq hx hI hA hm hI' hA'⟩
theorem sx_hour {x : xs_St} {m : th_St} (hT : sTape x m) (hD : sDay x m) (hB : sBody x m) {K : Int32 → xs_St → Int32 → th_St → Prop}
    (k : ∀ r x' m', xg [101, 503, 504, 505] [] [] [500] x x' → mf [0, 2, 3, 4, 30, 31, 40] [35, 36, 37] [] m m' → xi x' 101 = 0 → m'.1 2 = 0 → sBody x' m' → K r x' r m') : X_TH_hour x (fun r x' => M_hour m (fun r' m' => K r x' r' m')) := by
  obtain ⟨L, B, hL, h1, h2, hX, hM⟩ := tB_of hT
  obtain ⟨d, hd9, hd1, hd2⟩ := hD
  have hB0 := hB
  obtain ⟨n, fx, hd, N, eh, ed, er, ea, rd, wd, P, hq⟩ := hB
  obtain ⟨b1, b2, b3, b4, b5, b6, b7, b8, b9, b10⟩ := id hq
  have hn := b1.1
  have hcN := hcn_le N b5.1
  have hbd := b4.1
  have hno : K (-1) (xs_si x 101 0) (-1) (mT m) := by
    have f1 : xf [101] [] [] x (xs_si x 101 0) := xf_i (by decide) (xf_r x)
    exact k _ _ _ (xg_x (xf_w f1 (by decide) (by decide) (by decide))) (mf_w (mfT m) (by decide) (by decide) (by decide)) rfl rfl (sBody_f hB0 f1 (by decide) (by decide) (mfT m) (by decide) (by decide))
  have c40 : ((40 : Int32) ≤ nI (hcn eh N)) = (40 ≤ hcn eh N) := ni_le (a := 40) (by omega) (by omega)
  have c41 : (nI (hcn eh N) = (40 : Int32)) = (hcn eh N = 40) := ni_eq (b := 40) (by omega) (by omega)
  have c42 : (nI (hcn eh N) < (40 : Int32)) = (hcn eh N < 40) := ni_lt (b := 40) (by omega) (by omega)
  have e30 : (mT m).1 30 = nI (hcn eh N) := b4.2.1
  have e30' : (th_si m 0 0).1 30 = nI (hcn eh N) := b4.2.1
  have mno : (¬ rwOk L n B ∨ hcn eh N = 40) → M_hour m (fun r' m' => K (-1) (xs_si x 101 0) r' m') := by
    intro hor
    unfold M_hour M_hour_23 M_hour_38
    intro u1 e1; subst e1
    rw [e30', c40]
    refine br1 (fun q => ?_) (fun q => ?_)
    · refine mx_takeRow hL hn.2 h2 hM b2.2.1 (fun _ => ⟨fun _ => hno, fun g => absurd rfl g⟩) (fun _ _ => ⟨fun g => absurd g (by decide), fun _ => ?_⟩) (fun _ r hr er => absurd er (by rw [show (-1 : Int32) = iI (-1) from rfl, show nI r = iI (r : Int) from rfl, ii_eq (by omega) (by omega) (by omega) (by omega)]; omega)) (Or.inl (by decide))
      rw [e30, c41]
      exact ⟨fun g => by omega, fun _ => hno⟩
    · have hnr : ¬ rwOk L n B := by
        rcases hor with h | h
        · exact h
        · omega
      exact mx_takeRow hL hn.2 h2 hM b2.2.1 (fun _ => ⟨fun _ => hno, fun g => absurd rfl g⟩) (fun g _ => absurd g hnr) (fun g => absurd g hnr) (Or.inr ⟨hcn eh N, by omega, rfl⟩)
  unfold X_TH_hour X_TH_hour_51
  rw [b8, b1.2.1, c40]
  refine br1 (fun q => tx_c (mno (Or.inr (by omega)))) (fun q => ?_)
  refine sx_isRow hL hn.2 h1 hX (fun q2 => ⟨fun _ => tx_c (mno (Or.inl q2)), fun g => absurd rfl g⟩) (fun q2 => ⟨fun g => absurd g (by decide), fun _ => ?_⟩)
  unfold X_BD_addHour
  rw [b8, hd1, c42]
  refine ⟨fun _ => ?_, fun g => by omega⟩
  intro b hb u2 e2; subst e2
  refine sx_addRow (Hf := fun u => xi u 504) (h := hcn eh N) (d := d) q2.1 hn.2 h1 hX b3 (by omega) (by omega) hd9 q2 hb (fun u3 h3 => by unfold xi; rw [h3.1]; exact b8) (fun y arr y1 y2 yo ypx yL yb ya ylg => ?_)
  have y504 : xi y 504 = nI (hcn eh N) := by
    unfold xi
    rw [y1]
    exact (xsi_n (x := x) (k := 503) (by decide)).trans b8
  intro u8 e8
  rw [y504, show nI (hcn eh N) + (1 : Int32) = nI (hcn eh N + 1) from nI_1 _] at e8
  subst e8
  have eans : xi (xs_si y 504 (nI (hcn eh N + 1))) 504 - (1 : Int32) = nI (hcn eh N) := by
    rw [xsi_s]; exact pk_sub (a := hcn eh N + 1) (b := 1) (by omega)
  rw [eans]
  refine tx_c ?_
  unfold M_hour M_hour_23 M_hour_38
  intro u1 e1; subst e1
  rw [e30', c40]
  refine ⟨fun g => absurd g q, fun _ => ?_⟩
  refine mx_takeRow hL hn.2 h2 hM b2.2.1 (fun g => absurd q2 g) (fun _ g => absurd g (by rw [show (0 : Int32) = nI 0 from rfl, ni_lt (by omega) (by omega)]; omega)) (fun _ r hr er2 w wf w35 w35' => ⟨fun g => absurd g (by decide), fun _ => ?_⟩) (Or.inr ⟨hcn eh N, by omega, rfl⟩)
  have er3 := nI_inj (by omega) (by omega) er2
  subst er3
  have w30 : w.1 30 = nI (hcn eh N) := (wf.1 30 (by decide)).trans e30
  have w5 : w.1 5 = nI d := (wf.1 5 (by decide)).trans hd2
  rw [w30, c41]
  refine ⟨fun _ => ?_, fun g => by omega⟩
  refine ⟨vp_in_nI (by omega) (by omega), ?_⟩
  intro u3 e3
  rw [ni_cl (by omega)] at e3
  have u330 : u3.1 30 = nI (hcn eh N) := by rw [e3]; exact w30
  have u35 : u3.1 5 = nI d := by rw [e3]; exact w5
  rw [u330]
  refine ⟨vp_in_nI (by omega) (by omega), ?_⟩
  intro u4 e4
  rw [ni_cl (by omega), u35] at e4
  intro u5 e5
  have u430 : u4.1 30 = nI (hcn eh N) := by rw [e4]; exact u330
  rw [u430, show nI (hcn eh N) + (1 : Int32) = nI (hcn eh N + 1) from nI_1 _] at e5
  refine ⟨n010, ?_⟩
  intro u6 e6
  have u630 : u6.1 30 = nI (hcn eh N + 1) := by
    rw [e6, thi_n (by decide), e5, thi_s]
  rw [u630, show nI (hcn eh N + 1) - (1 : Int32) = nI (hcn eh N) from pk_sub (a := hcn eh N + 1) (b := 1) (by omega)]
  have f6 : mf [0, 2, 3, 4, 30, 31, 40] [35, 36, 37] [] m u6 := by
    rw [e6, e5, e4, e3]
    exact mf_i (by decide) (mf_i (by decide) (mf_a (by decide) (mf_a (by decide) (mf_t (mf_w (mfT m) (by decide) (by decide) (by decide)) (mf_w wf (by decide) (by decide) (by decide))))))
  have hk : ∀ j, j < N → iu eh N (hcn eh N) j = eh j := fun j hj => iu_n (by omega)
  have hs : hcn (iu eh N (hcn eh N)) (N + 1) = hcn eh N + 1 := by
    have := hcn_s (eh := iu eh N (hcn eh N)) (N := N) (by rw [iu_s, hcn_k hk N (Nat.le_refl N)]; exact Nat.le_refl _)
    rw [iu_s, hcn_k hk N (Nat.le_refl N), if_pos rfl] at this; exact this
  have he : emr (iu eh N (hcn eh N)) N = hcn eh N := by unfold emr; rw [iu_s, hcn_k hk N (Nat.le_refl N), if_pos rfl]
  have v31 : u6.1 31 = nI (N + 1 - (hcn eh N + 1)) := by
    rw [e6, thi_n (by decide), e5, thi_n (by decide), e4, e3]
    show w.1 31 = _
    rw [wf.1 31 (by decide), show N + 1 - (hcn eh N + 1) = N - hcn eh N by omega]
    exact b4.2.2.1
  have v40 : u6.1 40 = 0 := by rw [e6]; exact thi_s _ _ _
  have v36 : u6.2.2.1 36 = upd (m.2.2.1 36) (hcn eh N) (nI (hcn eh N)) := by
    rw [e6, e5]
    show u4.2.2.1 36 = _
    rw [e4, tha_n (by decide), e3, tha_s, wf.2.1 36 (by decide)]; rfl
  have v37 : u6.2.2.1 37 = upd (m.2.2.1 37) (hcn eh N) (nI d) := by
    rw [e6, e5]
    show u4.2.2.1 37 = _
    rw [e4, tha_s, e3, tha_n (by decide), wf.2.1 37 (by decide)]; rfl
  have v35 : u6.2.2.1 35 = w.2.2.1 35 := by
    rw [e6, e5]
    show u4.2.2.1 35 = _
    rw [e4, tha_n (by decide), e3, tha_n (by decide)]
  have v2 : u6.1 2 = 0 := by
    rw [e6, thi_n (by decide), e5, thi_n (by decide), e4, e3]
    show w.1 2 = _
    rw [wf.1 2 (by decide)]; rfl
  clear e3 e4 e5 e6
  have x1 : ∀ k, k ≠ 101 → k ≠ 503 → k ≠ 504 → xi (xs_si (xs_si y 504 (nI (hcn eh N + 1))) 101 0) k = xi x k := fun k k1 k2 k3 => by
    rw [xsi_n k1, xsi_n k3]
    unfold xi
    rw [y1]; exact xsi_n k2
  have xA : ∀ k, xa (xs_si (xs_si y 504 (nI (hcn eh N + 1))) 101 0) k = xa x k := fun k => by
    show y.1.2.2.1 k = _
    rw [y1]; rfl
  refine k _ _ _ ⟨fun k hk => x1 k (fun e => hk (by rw [e]; decide)) (fun e => hk (by rw [e]; decide)) (fun e => hk (by rw [e]; decide)), fun k _ => xA k, fun k _ => by show y.1.2.2.2 k = _; rw [y1]; rfl, y2, fun k hk => yo k (fun e => hk (by rw [e]; decide))⟩ f6 (xsi_s _ _ _) v2 ?_
  refine bq_app (h := hcn eh N) (d := d) (b := b) (arr := arr) hq (Nat.le_refl _) (by rw [hd1, ti_nI (by omega)]) hd9 (x1 300 (by decide) (by decide) (by decide)) (x1 12 (by decide) (by decide) (by decide)) xA y2 (ypx b) yL hb yb ya (lgX_d rfl ((xsi_n (by decide)).trans (xsi_n (by decide))) rfl ylg) ?_ ?_ (by omega) (by omega) f6 (by rw [hs]; exact u630) (by rw [hs]; exact v31) v40 (by rw [he]; exact v36) (by rw [he]; exact v37) (fun i hi => ?_) (fun k hk => ?_)
  · rw [hs, xsi_n (by decide), xsi_s]
  · rw [hs, x1 505 (by decide) (by decide) (by decide), show N + 1 - (hcn eh N + 1) = N - hcn eh N by omega]; exact b9
  · rw [he, v35, if_pos hi, if_pos hi]; exact w35 i hi
  · rw [he] at hk
    rw [v35]; exact w35' k hk
theorem sx_mend {x : xs_St} {m : th_St} (hT : sTape x m) (hD : sDay x m) (hB : sBody x m) {a : Int32} {K : Int32 → xs_St → Int32 → th_St → Prop}
    (k : ∀ r x' m', xg [101, 503, 504, 505] [] [] [500] x x' → mf [0, 2, 3, 4, 30, 31, 40] [35, 36, 37] [] m m' → xi x' 101 = 0 → m'.1 2 = 0 → sBody x' m' → K r x' r m') : X_TH_mend a x (fun r x' => M_mend a m (fun r' m' => K r x' r' m')) := by
  obtain ⟨L, B, hL, h1, h2, hX, hM⟩ := tB_of hT
  obtain ⟨d, hd9, hd1, hd2⟩ := hD
  have hB0 := hB
  obtain ⟨n, fx, hd, N, eh, ed, er, ea, rd, wd, P, hq⟩ := hB
  obtain ⟨b1, b2, b3, b4, b5, b6, b7, b8, b9, b10⟩ := id hq
  have hn := b1.1
  have hcN := hcn_le N b5.1
  have hbd := b4.1
  have hno : K 0 (xs_si x 101 0) 0 (mT m) := by
    have f1 : xf [101] [] [] x (xs_si x 101 0) := xf_i (by decide) (xf_r x)
    exact k _ _ _ (xg_x (xf_w f1 (by decide) (by decide) (by decide))) (mf_w (mfT m) (by decide) (by decide) (by decide)) rfl rfl (sBody_f hB0 f1 (by decide) (by decide) (mfT m) (by decide) (by decide))
  have c60 : ((60 : Int32) ≤ nI (N - hcn eh N)) = (60 ≤ N - hcn eh N) := ni_le (a := 60) (by omega) (by omega)
  have e31 : (mT m).1 31 = nI (N - hcn eh N) := b4.2.2.1
  have e30' : (th_si m 0 0).1 30 = nI (hcn eh N) := b4.2.1
  have e31' : (th_si m 0 0).1 31 = nI (N - hcn eh N) := b4.2.2.1
  have m32 : ∀ K' : Int32 → th_St → Prop, K' 0 (mT m) → M_mend_32 K' a (th_si m 0 0) := by
    intro K' h
    unfold M_mend_32 M_mend_33 M_mend_50 M_mend_60
    refine ⟨fun _ => ?_, fun g => absurd rfl g⟩
    exact mx_takeRow hL hn.2 h2 hM b2.2.1 (fun _ => ⟨fun _ => ⟨n010, h⟩, fun g => absurd rfl g⟩) (fun _ _ => ⟨fun g => absurd g (by decide), fun _ => ⟨fun g => absurd rfl g, fun _ => ⟨n010, h⟩⟩⟩) (fun _ r hr er => absurd er (by rw [show (-1 : Int32) = iI (-1) from rfl, show nI r = iI (r : Int) from rfl, ii_eq (by omega) (by omega) (by omega) (by omega)]; omega)) (Or.inl (by decide))
  have mno : ¬ ((0 ≤ a.toInt ∧ a.toInt < hcn eh N) ∧ N - hcn eh N < 60 ∧ rwOk L n B) → M_mend a m (fun r' m' => K 0 (xs_si x 101 0) r' m') := by
    intro hno2
    unfold M_mend
    intro u1 e1; subst e1
    rw [e30']
    refine mx_in0 (by omega) (fun _ => ⟨fun _ => m32 _ hno, fun g => absurd rfl g⟩) (fun j hj ej => ⟨fun g => absurd g (by decide), fun _ => ?_⟩)
    rw [e31', c60]
    refine br1 (fun _ => m32 _ hno) (fun q => ?_)
    have hnr : ¬ rwOk L n B := fun g => hno2 ⟨by rw [ej, ti_nI (by omega)]; omega, by omega, g⟩
    unfold M_mend_33 M_mend_50 M_mend_60
    refine ⟨fun g => absurd g (by decide), fun _ => ?_⟩
    rw [e31', show (40 : Int32) = nI 40 from rfl, nI_add]
    exact mx_takeRow hL hn.2 h2 hM b2.2.1 (fun _ => ⟨fun _ => ⟨n010, hno⟩, fun g => absurd rfl g⟩) (fun g _ => absurd g hnr) (fun g => absurd g hnr) (Or.inr ⟨40 + (N - hcn eh N), by omega, rfl⟩)
  have x52 : ¬ ((0 ≤ a.toInt ∧ a.toInt < hcn eh N) ∧ N - hcn eh N < 60 ∧ rwOk L n B) → X_TH_mend_52 (fun r x' => M_mend a m (fun r' m' => K r x' r' m')) a x := by
    intro h
    unfold X_TH_mend_52 X_TH_mend_53 X_TH_mend_74
    exact ⟨fun _ => tx_c ⟨n010, mno h⟩, fun g => absurd rfl g⟩
  unfold X_TH_mend
  rw [b8, b9, b1.2.1, c60, ti_lt, tt_0]
  refine br1 (fun q => x52 (by omega)) (fun q => ?_)
  rw [ti_le, ti_nI (by omega)]
  refine br1 (fun q1 => x52 (by omega)) (fun q1 => br1 (fun q2 => x52 (by omega)) (fun q2 => ?_))
  refine sx_isRow hL hn.2 h1 hX (fun q3 => ⟨fun _ => x52 (fun g => q3 g.2.2), fun g => absurd rfl g⟩) (fun q3 => ⟨fun g => absurd g (by decide), fun _ => ?_⟩)
  obtain ⟨hh, ehh⟩ := Int.eq_ofNat_of_zero_le (Int.not_lt.mp q)
  have ea2 := ti_of ehh
  subst ea2
  rw [ti_nI (by omega)] at q1
  unfold X_TH_mend_53 X_TH_mend_74
  refine ⟨fun g => absurd g (by decide), fun _ => ?_⟩
  unfold X_BD_addMended
  rw [hd1]
  intro b hb u2 e2; subst e2
  refine sx_addRow (Hf := fun _ => nI hh) (h := hh) (d := d) q3.1 hn.2 h1 hX b3 (by omega) (by omega) hd9 q3 hb (fun u3 h3 => rfl) (fun y arr y1 y2 yo ypx yL yb ya ylg => ?_)
  have y505 : xi y 505 = nI (N - hcn eh N) := by
    unfold xi
    rw [y1]
    exact (xsi_n (x := x) (k := 503) (by decide)).trans b9
  intro u8 e8
  rw [y505, show nI (N - hcn eh N) + (1 : Int32) = nI (N - hcn eh N + 1) from nI_1 _] at e8
  subst e8
  refine tx_c ⟨n011, ?_⟩
  unfold M_mend
  intro u1 e1; subst e1
  rw [e30']
  refine mx_in0 (by omega) (fun g => ?_) (fun j hj ej => ⟨fun g => absurd g (by decide), fun _ => ?_⟩)
  · exfalso
    rw [show (0 : Int32) = nI 0 from rfl, ni_lt (by omega) (by omega), ni_le (by omega) (by omega)] at g
    omega
  rw [e31', c60]
  refine ⟨fun g => absurd g q2, fun _ => ?_⟩
  unfold M_mend_33 M_mend_50 M_mend_60
  refine ⟨fun g => absurd g (by decide), fun _ => ?_⟩
  rw [e31', show (40 : Int32) = nI 40 from rfl, nI_add]
  refine mx_takeRow hL hn.2 h2 hM b2.2.1 (fun g => absurd q3 g) (fun _ g => absurd g (by rw [show (0 : Int32) = nI 0 from rfl, ni_lt (by omega) (by omega)]; omega)) (fun _ r hr er2 w wf w35 w35' => ⟨fun g => absurd g (by decide), fun _ => ⟨fun _ => ?_, fun g => absurd g (by decide)⟩⟩) (Or.inr ⟨40 + (N - hcn eh N), by omega, rfl⟩)
  have er3 := nI_inj (by omega) (by omega) er2
  subst er3
  have w31 : w.1 31 = nI (N - hcn eh N) := (wf.1 31 (by decide)).trans e31
  have w5 : w.1 5 = nI d := (wf.1 5 (by decide)).trans hd2
  rw [w31, nI_add]
  refine ⟨vp_in_nI (by omega) (by omega), ?_⟩
  intro u3 e3
  rw [ni_cl (by omega)] at e3
  have u331 : u3.1 31 = nI (N - hcn eh N) := by rw [e3]; exact w31
  have u35 : u3.1 5 = nI d := by rw [e3]; exact w5
  rw [u331, nI_add]
  refine ⟨vp_in_nI (by omega) (by omega), ?_⟩
  intro u4 e4
  rw [ni_cl (by omega), u35] at e4
  intro u5 e5
  have u431 : u4.1 31 = nI (N - hcn eh N) := by rw [e4]; exact u331
  rw [u431, show nI (N - hcn eh N) + (1 : Int32) = nI (N - hcn eh N + 1) from nI_1 _] at e5
  refine ⟨n010, ?_⟩
  intro u6 e6
  refine ⟨n011, ?_⟩
  have f6 : mf [0, 2, 3, 4, 30, 31, 40] [35, 36, 37] [] m u6 := by
    rw [e6, e5, e4, e3]
    exact mf_i (by decide) (mf_i (by decide) (mf_a (by decide) (mf_a (by decide) (mf_t (mf_w (mfT m) (by decide) (by decide) (by decide)) (mf_w wf (by decide) (by decide) (by decide))))))
  have hk : ∀ j, j < N → iu eh N hh j = eh j := fun j hj => iu_n (by omega)
  have hs : hcn (iu eh N hh) (N + 1) = hcn eh N := by
    have := hcn_s (eh := iu eh N hh) (N := N) (by rw [iu_s, hcn_k hk N (Nat.le_refl N)]; omega)
    rw [iu_s, hcn_k hk N (Nat.le_refl N), if_neg (by omega)] at this; exact this
  have he : emr (iu eh N hh) N = 40 + (N - hcn eh N) := by unfold emr; rw [iu_s, hcn_k hk N (Nat.le_refl N), if_neg (by omega)]
  have v31 : u6.1 31 = nI (N + 1 - hcn eh N) := by
    rw [e6, thi_n (by decide), e5, thi_s, show N + 1 - hcn eh N = N - hcn eh N + 1 by omega]
  have v30 : u6.1 30 = nI (hcn eh N) := by
    rw [e6, thi_n (by decide), e5, thi_n (by decide), e4, e3]
    show w.1 30 = _
    rw [wf.1 30 (by decide)]; exact b4.2.1
  have v40 : u6.1 40 = 0 := by rw [e6]; exact thi_s _ _ _
  have v36 : u6.2.2.1 36 = upd (m.2.2.1 36) (40 + (N - hcn eh N)) (nI hh) := by
    rw [e6, e5]
    show u4.2.2.1 36 = _
    rw [e4, tha_n (by decide), e3, tha_s, wf.2.1 36 (by decide)]; rfl
  have v37 : u6.2.2.1 37 = upd (m.2.2.1 37) (40 + (N - hcn eh N)) (nI d) := by
    rw [e6, e5]
    show u4.2.2.1 37 = _
    rw [e4, tha_s, e3, tha_n (by decide), wf.2.1 37 (by decide)]; rfl
  have v35 : u6.2.2.1 35 = w.2.2.1 35 := by
    rw [e6, e5]
    show u4.2.2.1 35 = _
    rw [e4, tha_n (by decide), e3, tha_n (by decide)]
  have v2 : u6.1 2 = 0 := by
    rw [e6, thi_n (by decide), e5, thi_n (by decide), e4, e3]
    show w.1 2 = _
    rw [wf.1 2 (by decide)]; rfl
  clear e3 e4 e5 e6
  have x1 : ∀ k, k ≠ 101 → k ≠ 503 → k ≠ 505 → xi (xs_si (xs_si y 505 (nI (N - hcn eh N + 1))) 101 0) k = xi x k := fun k k1 k2 k3 => by
    rw [xsi_n k1, xsi_n k3]
    unfold xi
    rw [y1]; exact xsi_n k2
  have xA : ∀ k, xa (xs_si (xs_si y 505 (nI (N - hcn eh N + 1))) 101 0) k = xa x k := fun k => by
    show y.1.2.2.1 k = _
    rw [y1]; rfl
  refine k _ _ _ ⟨fun k hk => x1 k (fun e => hk (by rw [e]; decide)) (fun e => hk (by rw [e]; decide)) (fun e => hk (by rw [e]; decide)), fun k _ => xA k, fun k _ => by show y.1.2.2.2 k = _; rw [y1]; rfl, y2, fun k hk => yo k (fun e => hk (by rw [e]; decide))⟩ f6 (xsi_s _ _ _) v2 ?_
  refine bq_app (h := hh) (d := d) (b := b) (arr := arr) hq (by omega) (by rw [hd1, ti_nI (by omega)]) hd9 (x1 300 (by decide) (by decide) (by decide)) (x1 12 (by decide) (by decide) (by decide)) xA y2 (ypx b) yL hb yb ya (lgX_d rfl ((xsi_n (by decide)).trans (xsi_n (by decide))) rfl ylg) ?_ ?_ (by omega) (by omega) f6 (by rw [hs]; exact v30) (by rw [hs]; exact v31) v40 (by rw [he]; exact v36) (by rw [he]; exact v37) (fun i hi => ?_) (fun k hk => ?_)
  · rw [hs, x1 504 (by decide) (by decide) (by decide)]; exact b8
  · rw [hs, xsi_n (by decide), xsi_s, show N + 1 - hcn eh N = N - hcn eh N + 1 by omega]
  · rw [he, v35, if_pos hi, if_pos hi]; exact w35 i hi
  · rw [he] at hk
    rw [v35]; exact w35' k hk

/-! the relation of both, and a lemma a call -/
def eX (I A L O : List Nat) (x y : xs_St) : Prop := (∀ k, k ∉ I → xi y k = xi x k) ∧ (∀ k, k ∉ A → xa y k = xa x k) ∧ (∀ k, k ∉ L → xl y k = xl x k) ∧ ∀ k, k ∉ O → xo y k = xo x k
theorem eX_xf {I A L : List Nat} {x y : xs_St} (h : xf I A L x y) : eX I A L [] x y := ⟨h.1, h.2.1, h.2.2.1, fun k _ => by unfold xo; rw [h.2.2.2]⟩
theorem eX_fF {x y : xs_St} (h : fF x y) : eX [] [] [] [501] x y := ⟨fun k _ => by unfold xi; rw [h.1], fun k _ => by unfold xa; rw [h.1], fun k _ => by unfold xl; rw [h.1], fun k hk => h.2.2 k (fun e => hk (by rw [e]; decide))⟩
theorem eX_xg {I A L O : List Nat} {x y : xs_St} (h : xg I A L O x y) : eX I A L O x y := ⟨h.1, h.2.1, h.2.2.1, h.2.2.2.2⟩
theorem eX_xh {I A O : List Nat} {x y : xs_St} (h : xh I A O x y) : eX I A [] O x y := ⟨h.1, h.2.1, fun k _ => h.2.2.1 k, h.2.2.2.2.1⟩
theorem sTape_0 {x : xs_St} {m : th_St} (h1 : xi x 101 = 0) (h2 : m.1 2 = 0) : sTape x m := ⟨0, by omega, h1, h2, fun i hi => by omega⟩
section
variable {x y : xs_St} {m w : th_St} {I A L O I' A' L' : List Nat}
theorem k_tape (h : sTape x m) (hx : eX I A L O x y) (hm : mf I' A' L' m w) (c : (101 ∉ I ∧ 100 ∉ A) ∧ 2 ∉ I' ∧ 1 ∉ A') : sTape y w := by
  unfold sTape at *
  rw [hx.1 101 c.1.1, hx.2.1 100 c.1.2, hm.1 2 c.2.1, hm.2.1 1 c.2.2]; exact h
theorem k_day (h : sDay x m) (hx : eX I A L O x y) (hm : mf I' A' L' m w) (c : 12 ∉ I ∧ 5 ∉ I') : sDay y w := by
  unfold sDay at *
  rw [hx.1 12 c.1, hm.1 5 c.2]; exact h
theorem k_feet (h : sFeet x m) (hx : eX I A L O x y) (hm : mf I' A' L' m w) (c : 300 ∉ I ∧ 11 ∉ A') : sFeet y w := by
  unfold sFeet at *
  rw [hx.1 300 c.1, hm.2.1 11 c.2]; exact h
theorem k_hold (h : sHold x m) (hx : eX I A L O x y) (hm : mf I' A' L' m w) (c : (307 ∉ A ∧ 308 ∉ A) ∧ 6 ∉ A' ∧ 7 ∉ A') : sHold y w := by
  unfold sHold at *
  rw [hx.2.1 307 c.1.1, hx.2.1 308 c.1.2, hm.2.1 6 c.2.1, hm.2.1 7 c.2.2]; exact h
theorem k_noise (h : sNoise x m) (hx : eX I A L O x y) (hm : mf I' A' L' m w) (c : 303 ∉ I ∧ 14 ∉ A') : sNoise y w := by
  unfold sNoise at *
  rw [hx.1 303 c.1, hm.2.1 14 c.2]; exact h
theorem k_shape (h : sShape x m) (hx : eX I A L O x y) (hm : mf I' A' L' m w) (c : (700 ∉ A ∧ 701 ∉ A) ∧ 49 ∉ A' ∧ 50 ∉ A') : sShape y w := by
  unfold sShape at *
  rw [hx.2.1 700 c.1.1, hx.2.1 701 c.1.2, hm.2.1 49 c.2.1, hm.2.1 50 c.2.2]; exact h
theorem k_ev (h : sEv x m) (hx : eX I A L O x y) (hm : mf I' A' L' m w) (c : (708 ∉ I ∧ 705 ∉ A ∧ 706 ∉ A ∧ 707 ∉ A) ∧ 56 ∉ I' ∧ 53 ∉ A' ∧ 54 ∉ A' ∧ 55 ∉ A') : sEv y w := by
  unfold sEv at *
  rw [hx.1 708 c.1.1, hx.2.1 705 c.1.2.1, hx.2.1 706 c.1.2.2.1, hx.2.1 707 c.1.2.2.2, hm.1 56 c.2.1, hm.2.1 53 c.2.2.1, hm.2.1 54 c.2.2.2.1, hm.2.1 55 c.2.2.2.2]; exact h
theorem k_list {N ci ca mi ma : Nat} (h : sList N ci ca mi ma x m) (hx : eX I A L O x y) (hm : mf I' A' L' m w) (c : (ci ∉ I ∧ ca ∉ A) ∧ mi ∉ I' ∧ ma ∉ A') : sList N ci ca mi ma y w := by
  unfold sList at *
  rw [hx.1 ci c.1.1, hx.2.1 ca c.1.2, hm.1 mi c.2.1, hm.2.1 ma c.2.2]; exact h
theorem k_may (h : sMay x m) (hx : eX I A L O x y) (hm : mf I' A' L' m w) (c : (602 ∉ I ∧ 600 ∉ A ∧ 601 ∉ A) ∧ 48 ∉ I' ∧ 46 ∉ A' ∧ 47 ∉ A') : sMay y w := by
  unfold sMay at *
  rw [hx.1 602 c.1.1, hx.2.1 600 c.1.2.1, hx.2.1 601 c.1.2.2, hm.1 48 c.2.1, hm.2.1 46 c.2.2.1, hm.2.1 47 c.2.2.2]; exact h
theorem k_605 (h : xl x 605 0 = lN 0) (hx : eX I A L O x y) (c : 605 ∉ L) : xl y 605 0 = lN 0 := by rw [hx.2.2.1 605 c]; exact h
theorem k_ph (h : sPH x m) (hx : eX I A L O x y) (hm : mf I' A' L' m w) (c : (301 ∉ I ∧ 302 ∉ I) ∧ 12 ∉ A' ∧ 13 ∉ A') : sPH y w := by
  unfold sPH at *
  rw [hx.1 301 c.1.1, hx.1 302 c.1.2, hm.2.1 12 c.2.1, hm.2.1 13 c.2.2]; exact h
theorem k_al (h : sAl x m) (hx : eX I A L O x y) (hm : mf I' A' L' m w) (c : (300 ∉ I ∧ 305 ∉ I ∧ 309 ∉ A ∧ 310 ∉ A ∧ 313 ∉ A ∧ 314 ∉ A ∧ 311 ∉ O ∧ 312 ∉ O) ∧ (15 ∉ A' ∧ 10 ∉ A' ∧ 9 ∉ A' ∧ 8 ∉ A') ∧ 16 ∉ A' ∧ 17 ∉ A' ∧ 18 ∉ A' ∧ 19 ∉ A') : sAl y w := by
  obtain ⟨n, Am, S, pg, sg, nb, ft, al, en, h1, h2, h3, h4, h5, h6⟩ := h
  obtain ⟨⟨c1, c2, c3, c4, c5, c6, c7, c8⟩, d1, d2⟩ := c
  refine ⟨n, Am, S, pg, sg, nb, ft, al, en, (hx.1 300 c1).trans h1, h2, ⟨h3.1, fun s hs => ?_⟩, pgM_f h4 hm d2, ?_, alM_f h6 hm d1⟩
  · show _ ∧ xo y 311 s = _ ∧ (_ → xo y 312 s = _ ∧ _ ∧ _ ∧ xa y 314 s = _ ∧ _ ∧ (_ → xa y 313 s = _ ∧ _))
    rw [hx.2.2.2 311 c7, hx.2.2.2 312 c8, hx.2.1 314 c6, hx.2.1 313 c5]; exact h3.2 s hs
  · obtain ⟨l1, l2, l3, l4⟩ := h5
    refine ⟨l1, (hx.1 305 c2).trans l2, l3, fun k hk => ?_⟩
    show xa y 309 k = _ ∧ _ ∧ xa y 310 k = _ ∧ _
    rw [hx.2.1 309 c3, hx.2.1 310 c4]; exact l4 k hk
theorem k_fault (h : xi x 212 = m.1 28) (hx : eX I A L O x y) (hm : mf I' A' L' m w) (c : 212 ∉ I ∧ 28 ∉ I') : xi y 212 = w.1 28 := by rw [hx.1 212 c.1, hm.1 28 c.2]; exact h
end
def Sim (x : xs_St) (m : th_St) : Prop := sTape x m ∧ sDay x m ∧ sFeet x m ∧ sHold x m ∧ sNoise x m ∧ sShape x m ∧ sEv x m ∧ sList 40 8 7 66 64 x m ∧ sList 40 801 800 59 58 x m ∧ sList 48 901 900 62 61 x m ∧ sMay x m ∧ xl x 605 0 = lN 0 ∧ sPH x m ∧ sAl x m ∧ xi x 212 = m.1 28 ∧ sBody x m

theorem Sim_0 {x : xs_St} {m : th_St} (h : Sim x m) (v : Int32) : Sim x (th_si m 0 v) := by
  obtain ⟨s1, s2, s3, s4, s5, s6, s7, s8, s9, s10, s11, s12, s13, s14, s15, s16⟩ := id h
  have fx : xf [] [] [] x x := xf_r x
  have fm : mf [0] [] [] m (th_si m 0 v) := mf_i (by decide) (mf_r m)
  have hx := eX_xf fx
  exact ⟨k_tape s1 hx fm (by decide), k_day s2 hx fm (by decide), k_feet s3 hx fm (by decide), k_hold s4 hx fm (by decide), k_noise s5 hx fm (by decide), k_shape s6 hx fm (by decide), k_ev s7 hx fm (by decide), k_list s8 hx fm (by decide), k_list s9 hx fm (by decide), k_list s10 hx fm (by decide), k_may s11 hx fm (by decide), k_605 s12 hx (by decide), k_ph s13 hx fm (by decide), k_al s14 hx fm (by decide), k_fault s15 hx fm (by decide), sBody_f s16 fx (by decide) (by decide) fm (by decide) (by decide)⟩
theorem Sim_T {x : xs_St} {m : th_St} (h : Sim x m) : Sim (xs_si x 101 0) (mT m) := by
  obtain ⟨s1, s2, s3, s4, s5, s6, s7, s8, s9, s10, s11, s12, s13, s14, s15, s16⟩ := id h
  have fx : xf [101] [] [] x (xs_si x 101 0) := xf_i (by decide) (xf_r x)
  have fm := mfT m
  have hx := eX_xf fx
  exact ⟨sTape_0 rfl rfl, k_day s2 hx fm (by decide), k_feet s3 hx fm (by decide), k_hold s4 hx fm (by decide), k_noise s5 hx fm (by decide), k_shape s6 hx fm (by decide), k_ev s7 hx fm (by decide), k_list s8 hx fm (by decide), k_list s9 hx fm (by decide), k_list s10 hx fm (by decide), k_may s11 hx fm (by decide), k_605 s12 hx (by decide), k_ph s13 hx fm (by decide), k_al s14 hx fm (by decide), k_fault s15 hx fm (by decide), sBody_f s16 fx (by decide) (by decide) fm (by decide) (by decide)⟩
theorem si_feed {x : xs_St} {m : th_St} (h : Sim x m) {a b c d e : Int32} : X_TH_feed a b c d e x (fun r x' => M_feed a b c d e m (fun r' m' => r' = r ∧ Sim x' m')) := by
  obtain ⟨s1, s2, s3, s4, s5, s6, s7, s8, s9, s10, s11, s12, s13, s14, s15, s16⟩ := id h
  refine sx_feed s1 (K := fun r x' r' m' => r' = r ∧ Sim x' m') ⟨rfl, Sim_0 h 0⟩ (fun f g n hT => ⟨rfl, ?_⟩)
  have fx : xf [101] [100] [] x (xs_si (xs_sa x 100 f) 101 n) := xf_i (by decide) (xf_a (by decide) (xf_r x))
  have fm : mf [0, 2] [1] [] m (th_si (th_sa (th_si m 0 0) 1 g) 2 n) := mf_i (by decide) (mf_a (by decide) (mf_i (by decide) (mf_r m)))
  have hx := eX_xf fx
  exact ⟨hT, k_day s2 hx fm (by decide), k_feet s3 hx fm (by decide), k_hold s4 hx fm (by decide), k_noise s5 hx fm (by decide), k_shape s6 hx fm (by decide), k_ev s7 hx fm (by decide), k_list s8 hx fm (by decide), k_list s9 hx fm (by decide), k_list s10 hx fm (by decide), k_may s11 hx fm (by decide), k_605 s12 hx (by decide), k_ph s13 hx fm (by decide), k_al s14 hx fm (by decide), k_fault s15 hx fm (by decide), sBody_f s16 fx (by decide) (by decide) fm (by decide) (by decide)⟩
theorem si_end {x : xs_St} {m : th_St} (h : Sim x m) {a : Int32} : X_TH_end a x (fun r x' => M_end a m (fun r' m' => r' = r ∧ Sim x' m')) := by
  obtain ⟨s1, s2, s3, s4, s5, s6, s7, s8, s9, s10, s11, s12, s13, s14, s15, s16⟩ := id h
  refine sx_end s1 (K := fun r x' r' m' => r' = r ∧ Sim x' m') ⟨rfl, Sim_0 h 0⟩ (fun hT => ⟨rfl, ?_⟩)
  have fx : xf [101] [] [] x (xs_si x 101 a) := xf_i (by decide) (xf_r x)
  have fm : mf [0, 2] [] [] m (th_si (th_si m 0 0) 2 a) := mf_i (by decide) (mf_i (by decide) (mf_r m))
  have hx := eX_xf fx
  exact ⟨hT, k_day s2 hx fm (by decide), k_feet s3 hx fm (by decide), k_hold s4 hx fm (by decide), k_noise s5 hx fm (by decide), k_shape s6 hx fm (by decide), k_ev s7 hx fm (by decide), k_list s8 hx fm (by decide), k_list s9 hx fm (by decide), k_list s10 hx fm (by decide), k_may s11 hx fm (by decide), k_605 s12 hx (by decide), k_ph s13 hx fm (by decide), k_al s14 hx fm (by decide), k_fault s15 hx fm (by decide), sBody_f s16 fx (by decide) (by decide) fm (by decide) (by decide)⟩
theorem sx_next2 {x : xs_St} {m : th_St} (h : sDay x m) {a : Int32} {K : Int32 → xs_St → Int32 → th_St → Prop} (k0 : K (-1) x (-1) (th_si m 0 0)) (k1 : ∀ d : Int32, sDay (xs_si x 12 d) (th_si (th_si m 0 0) 5 d) → (xi x 12).toInt ≤ d.toInt → K d (xs_si x 12 d) d (th_si (th_si m 0 0) 5 d)) : X_TH_next a x (fun r x' => M_next a m (fun r' m' => K r x' r' m')) := by
  obtain ⟨d, hd, h1, h2⟩ := h
  have e2 : (th_si m 0 0).1 5 = nI d := h2
  have hr := ti_r a
  have hD : (nI d).toInt = d := ti_nI (by omega)
  have c9 : (999 : Int32).toInt = 999 := by decide
  have es : ((999 : Int32) - nI d).toInt = 999 - d := by rw [ti_sub] <;> rw [c9, hD] <;> omega
  unfold X_TH_next X_TH_next_16 M_next M_next_28
  simp only [forall_eq, h1, ti_lt, ti_le, tt_0, es]
  by_cases ha : a.toInt < 0
  · refine ⟨fun _ => mx_isIn ?_, fun q => absurd ha q⟩
    rw [if_neg (by rw [tt_0]; omega)]
    exact ⟨fun _ => k0, fun q => absurd rfl q⟩
  · refine ⟨fun q => absurd q ha, fun _ => ⟨fun hle => mx_isIn ?_, fun hle => mx_isIn ?_⟩⟩
    · rw [if_pos (by rw [tt_0, c9]; omega)]
      have ea : (nI d + a).toInt = d + a.toInt := by rw [ti_add] <;> rw [hD] <;> omega
      obtain ⟨j, hj⟩ := Int.eq_ofNat_of_zero_le (show 0 ≤ (nI d + a).toInt by omega)
      refine ⟨fun q => absurd q (by decide), fun _ => ⟨fun _ => ?_, fun q => absurd (by rw [e2, ea, c9]; omega) q⟩⟩
      rw [e2]
      exact k1 (nI d + a) ⟨j, by omega, ti_of hj, ti_of hj⟩ (by rw [h1, hD, ea]; omega)
    · by_cases h9 : a.toInt ≤ 999
      · rw [if_pos (by rw [tt_0, c9]; omega)]
        have ea : (nI d + a).toInt = d + a.toInt := by rw [ti_add] <;> rw [hD] <;> omega
        exact ⟨fun q => absurd q (by decide), fun _ => ⟨fun q => absurd q (by rw [e2, ea, c9]; omega), fun _ => k0⟩⟩
      · rw [if_neg (by rw [tt_0, c9]; omega)]
        exact ⟨fun _ => k0, fun q => absurd rfl q⟩
theorem sBody_12 {x : xs_St} {m w : th_St} {d : Int32} {I A L : List Nat} (h : sBody x m) (hd : (xi x 12).toInt ≤ d.toInt) (hm : mf I A L m w) (hI' : 30 ∉ I ∧ 31 ∉ I ∧ 40 ∉ I ∧ 41 ∉ I ∧ 42 ∉ I) (hA' : 11 ∉ A ∧ 6 ∉ A ∧ 7 ∉ A ∧ 35 ∉ A ∧ 36 ∉ A ∧ 37 ∉ A ∧ 38 ∉ A ∧ 39 ∉ A) : sBody (xs_si x 12 d) w := by
  obtain ⟨n, fx, hd', N, eh, ed, er, ea, rd, wd, P, b1, b2, b3, b4, b5, b6, b7, b8, b9, b10⟩ := h
  obtain ⟨j1, j2, j3, j4, j5⟩ := hI'
  obtain ⟨a1, a2, a3, a4, a5, a6, a7, a8⟩ := hA'
  refine ⟨n, fx, hd', N, eh, ed, er, ea, rd, wd, P, ⟨b1.1, (xsi_n (by decide)).trans b1.2.1, b1.2.2⟩, txM_f b2 hm a1 a2 a3, lgX_d (x := x) rfl (xsi_n (by decide)) rfl b3, lgM_f b4 hm j1 j2 a4 a5 a6, b5, trX_d (x := x) rfl rfl b6, chM_f b7 hm j3 j4 j5 a7 a8, (xsi_n (by decide)).trans b8, (xsi_n (by decide)).trans b9, fun j hj => ?_⟩
  rw [xsi_s]
  have := b10 j hj
  omega
theorem si_next {x : xs_St} {m : th_St} (h : Sim x m) {a : Int32} : X_TH_next a x (fun r x' => M_next a m (fun r' m' => r' = r ∧ Sim x' m')) := by
  obtain ⟨s1, s2, s3, s4, s5, s6, s7, s8, s9, s10, s11, s12, s13, s14, s15, s16⟩ := id h
  refine sx_next2 s2 (K := fun r x' r' m' => r' = r ∧ Sim x' m') ⟨rfl, Sim_0 h 0⟩ (fun d hT hd => ⟨rfl, ?_⟩)
  have fx : xf [12] [] [] x (xs_si x 12 d) := xf_i (by decide) (xf_r x)
  have fm : mf [0, 5] [] [] m (th_si (th_si m 0 0) 5 d) := mf_i (by decide) (mf_i (by decide) (mf_r m))
  have hx := eX_xf fx
  exact ⟨k_tape s1 hx fm (by decide), hT, k_feet s3 hx fm (by decide), k_hold s4 hx fm (by decide), k_noise s5 hx fm (by decide), k_shape s6 hx fm (by decide), k_ev s7 hx fm (by decide), k_list s8 hx fm (by decide), k_list s9 hx fm (by decide), k_list s10 hx fm (by decide), k_may s11 hx fm (by decide), k_605 s12 hx (by decide), k_ph s13 hx fm (by decide), k_al s14 hx fm (by decide), k_fault s15 hx fm (by decide), sBody_12 s16 hd fm (by decide) (by decide)⟩
theorem sHold_l {x y : xs_St} {m w : th_St} (h : sHold x m) (e7 : xa y 307 = xa x 307) (e8 : xa y 308 = xa x 308) (hl : lL m w) : sHold y w := fun i hi => by
  rw [e7, e8, (hl.1 i hi).1, (hl.1 i hi).2]; exact h i hi
theorem sAl_l {x y : xs_St} {m w : th_St} {I A L O : List Nat} (h : sAl x m) (hx : eX I A L O x y) (c : 300 ∉ I ∧ 305 ∉ I ∧ 309 ∉ A ∧ 310 ∉ A ∧ 313 ∉ A ∧ 314 ∉ A ∧ 311 ∉ O ∧ 312 ∉ O) (hl : lL m w) : sAl y w := by
  obtain ⟨n, Am, S, pg, sg, nb, ft, al, en, h1, h2, h3, h4, h5, h6⟩ := h
  obtain ⟨c1, c2, c3, c4, c5, c6, c7, c8⟩ := c
  have h80 := h3.1
  have hA6 := h5.1
  refine ⟨n, Am, S, pg, sg, nb, ft, al, en, (hx.1 300 c1).trans h1, h2, ⟨h3.1, fun s hs => ?_⟩, ⟨h80, fun s hs => ?_⟩, ?_, ⟨by rw [hl.2.2.1.2.2.2.2]; exact h6.1, fun k hk => ?_⟩⟩
  · show _ ∧ xo y 311 s = _ ∧ (_ → xo y 312 s = _ ∧ _ ∧ _ ∧ xa y 314 s = _ ∧ _ ∧ (_ → xa y 313 s = _ ∧ _))
    rw [hx.2.2.2 311 c7, hx.2.2.2 312 c8, hx.2.1 314 c6, hx.2.1 313 c5]; exact h3.2 s hs
  · obtain ⟨q1, q2, q3, q4⟩ := hl.2.2.2 s (by omega)
    have := h4.2 s hs
    rw [Nat.zero_add] at this ⊢
    rw [q1, q2, q3, q4]; exact this
  · obtain ⟨l1, l2, l3, l4⟩ := h5
    refine ⟨l1, (hx.1 305 c2).trans l2, l3, fun k hk => ?_⟩
    show xa y 309 k = _ ∧ _ ∧ xa y 310 k = _ ∧ _
    rw [hx.2.1 309 c3, hx.2.1 310 c4]; exact l4 k hk
  · obtain ⟨q1, q2, q3⟩ := hl.2.1 k (by omega)
    have := h6.2 k hk
    rw [Nat.zero_add] at this ⊢
    rw [q1, q2, q3]; exact this
theorem sBody_l {x y : xs_St} {m w : th_St} {I A L O I' A' L' : List Nat} (h : sBody x m) (hx : eX I A L O x y) (hp : y.2.2.2 = x.2.2.2) (hr : xr y 502 = xr x 502) (c : (300 ∉ I ∧ 503 ∉ I ∧ 504 ∉ I ∧ 505 ∉ I ∧ 12 ∉ I) ∧ (307 ∉ A ∧ 308 ∉ A) ∧ 500 ∉ O) (hm : mf I' A' L' m w) (d : (30 ∉ I' ∧ 31 ∉ I' ∧ 40 ∉ I' ∧ 41 ∉ I' ∧ 42 ∉ I') ∧ 35 ∉ A' ∧ 36 ∉ A' ∧ 37 ∉ A' ∧ 38 ∉ A' ∧ 39 ∉ A') (hl : lL m w) : sBody y w := by
  obtain ⟨n, fx, hd, N, eh, ed, er, ea, rd, wd, P, b1, b2, b3, b4, b5, b6, b7, b8, b9, b10⟩ := h
  obtain ⟨⟨i1, i2, i3, i4, i5⟩, ⟨a1, a2⟩, o1⟩ := c
  obtain ⟨⟨j1, j2, j3, j4, j5⟩, e1, e2, e3, e4, e5⟩ := d
  refine ⟨n, fx, hd, N, eh, ed, er, ea, rd, wd, P, ⟨b1.1, (hx.1 300 i1).trans b1.2.1, fun i hi => by rw [hx.2.1 307 a1, hx.2.1 308 a2]; exact b1.2.2 i hi⟩, ⟨b2.1, hl.2.2.1.1.trans b2.2.1, fun i hi => by rw [(hl.1 i hi).1, (hl.1 i hi).2]; exact b2.2.2 i hi⟩, lgX_d hp (hx.1 503 i2) (hx.2.2.2 500 o1) b3, lgM_f b4 hm j1 j2 e1 e2 e3, b5, trX_d hp hr b6, chM_f b7 hm j3 j4 j5 e4 e5, (hx.1 504 i3).trans b8, (hx.1 505 i4).trans b9, fun j hj => by rw [hx.1 12 i5]; exact b10 j hj⟩
theorem si_text {x : xs_St} {m : th_St} (h : Sim x m) : X_TH_text x (fun r x' => M_text m (fun r' m' => r' = r ∧ Sim x' m')) := by
  obtain ⟨s1, s2, s3, s4, s5, s6, s7, s8, s9, s10, s11, s12, s13, s14, s15, s16⟩ := id h
  refine sx_text s1 s16 s15 (K := fun r x' r' m' => r' = r ∧ Sim x' m') (fun r x' m' fx fm hl ef e1 e2 => ⟨rfl, ?_⟩) (fun r x' m' hq fm h3 h4 h13 h5 h14 hb ef e1 e2 => ⟨rfl, ?_⟩)
  · have hx := eX_xh fx
    exact ⟨sTape_0 e1 e2, k_day s2 hx fm (by decide), by unfold sFeet at *; rw [hx.1 300 (by decide), hl.2.2.1.1]; exact s3, sHold_l s4 (hx.2.1 307 (by decide)) (hx.2.1 308 (by decide)) hl, by unfold sNoise at *; rw [hx.1 303 (by decide), hl.2.2.1.2.2.2.1]; exact s5, k_shape s6 hx fm (by decide), k_ev s7 hx fm (by decide), k_list s8 hx fm (by decide), k_list s9 hx fm (by decide), k_list s10 hx fm (by decide), k_may s11 hx fm (by decide), k_605 s12 hx (by decide), by unfold sPH at *; rw [hx.1 301 (by decide), hx.1 302 (by decide), hl.2.2.1.2.1, hl.2.2.1.2.2.1]; exact s13, sAl_l s14 hx (by decide) hl, ef, sBody_l s16 hx fx.2.2.2.2.2 (fx.2.2.2.1 502 (by decide)) (by decide) fm (by decide) hl⟩
  · have hx : eX ([101, 203, 205, 207, 208, 209, 210, 211, 212, 213] ++ List.range' 300 200) ([201, 202] ++ List.range' 300 200) [] (200 :: List.range' 300 200) x x' := by
      refine ⟨fun k hk => hq.1 k (fun g => hk (List.mem_append_left _ g)) ?_, fun k hk => hq.2.1 k (fun g => hk (List.mem_append_left _ g)) ?_, fun k _ => hq.2.2.1 k, fun k hk => hq.2.2.2.2.1 k (fun g => hk (by rw [g]; exact List.mem_cons_self)) ?_⟩
      · rcases Nat.lt_or_ge k 300 with g | g
        · exact Or.inl g
        · rcases Nat.lt_or_ge k 500 with g2 | g2
          · exact absurd (List.mem_append_right _ (List.mem_range'_1.mpr ⟨g, by omega⟩)) hk
          · exact Or.inr g2
      · rcases Nat.lt_or_ge k 300 with g | g
        · exact Or.inl g
        · rcases Nat.lt_or_ge k 500 with g2 | g2
          · exact absurd (List.mem_append_right _ (List.mem_range'_1.mpr ⟨g, by omega⟩)) hk
          · exact Or.inr g2
      · rcases Nat.lt_or_ge k 300 with g | g
        · exact Or.inl g
        · rcases Nat.lt_or_ge k 500 with g2 | g2
          · exact absurd (List.mem_cons_of_mem _ (List.mem_range'_1.mpr ⟨g, by omega⟩)) hk
          · exact Or.inr g2
    exact ⟨sTape_0 e1 e2, k_day s2 hx fm (by decide +kernel), h3, h4, h5, k_shape s6 hx fm (by decide +kernel), k_ev s7 hx fm (by decide +kernel), k_list s8 hx fm (by decide +kernel), k_list s9 hx fm (by decide +kernel), k_list s10 hx fm (by decide +kernel), k_may s11 hx fm (by decide +kernel), k_605 s12 hx (by decide +kernel), h13, h14, ef, hb⟩
theorem si_fault {x : xs_St} {m : th_St} (h : Sim x m) : X_TH_fault x (fun r x' => M_fault m (fun r' m' => r' = r ∧ Sim x' m')) := by
  obtain ⟨s1, s2, s3, s4, s5, s6, s7, s8, s9, s10, s11, s12, s13, s14, s15, s16⟩ := id h
  exact sx_fault s15 (K := fun r x' r' m' => r' = r ∧ Sim x' m') (fun r => ⟨rfl, Sim_0 h 0⟩)
theorem si_foot {x : xs_St} {m : th_St} (h : Sim x m) {a b : Int32} : X_TH_foot a b x (fun r x' => M_foot a b m (fun r' m' => r' = r ∧ Sim x' m')) := by
  obtain ⟨s1, s2, s3, s4, s5, s6, s7, s8, s9, s10, s11, s12, s13, s14, s15, s16⟩ := id h
  exact sx_foot s3 s4 (K := fun r x' r' m' => r' = r ∧ Sim x' m') (fun r => ⟨rfl, Sim_0 h 0⟩)
theorem si_event {x : xs_St} {m : th_St} (h : Sim x m) {a b : Int32} : X_TH_event a b x (fun r x' => M_event a b m (fun r' m' => r' = r ∧ Sim x' m')) := by
  obtain ⟨s1, s2, s3, s4, s5, s6, s7, s8, s9, s10, s11, s12, s13, s14, s15, s16⟩ := id h
  exact sx_event s7 (K := fun r x' r' m' => r' = r ∧ Sim x' m') (fun r => ⟨rfl, Sim_0 h 0⟩)
theorem si_walked {x : xs_St} {m : th_St} (h : Sim x m) {a : Int32} : X_TH_walked a x (fun r x' => M_walked a m (fun r' m' => r' = r ∧ Sim x' m')) := by
  obtain ⟨s1, s2, s3, s4, s5, s6, s7, s8, s9, s10, s11, s12, s13, s14, s15, s16⟩ := id h
  exact sx_walked s9 (K := fun r x' r' m' => r' = r ∧ Sim x' m') (fun r => ⟨rfl, Sim_0 h 0⟩)
theorem si_paired {x : xs_St} {m : th_St} (h : Sim x m) {a : Int32} : X_TH_paired a x (fun r x' => M_paired a m (fun r' m' => r' = r ∧ Sim x' m')) := by
  obtain ⟨s1, s2, s3, s4, s5, s6, s7, s8, s9, s10, s11, s12, s13, s14, s15, s16⟩ := id h
  exact sx_paired s10 (K := fun r x' r' m' => r' = r ∧ Sim x' m') (fun r => ⟨rfl, Sim_0 h 0⟩)
theorem si_gauge {x : xs_St} {m : th_St} (h : Sim x m) {a : Int32} : X_TH_gauge a x (fun r x' => M_gauge a m (fun r' m' => r' = r ∧ Sim x' m')) := by
  obtain ⟨s1, s2, s3, s4, s5, s6, s7, s8, s9, s10, s11, s12, s13, s14, s15, s16⟩ := id h
  exact sx_gauge s8 (K := fun r x' r' m' => r' = r ∧ Sim x' m') (fun r => ⟨rfl, Sim_0 h 0⟩)
theorem Sim_cnt {x : xs_St} {m : th_St} (h : Sim x m) : xi x 101 = m.1 2 ∧ xi x 12 = m.1 5 ∧ xi x 300 = m.2.2.1 11 0 ∧ xi x 504 = m.1 30 ∧ xi x 305 = m.2.2.1 15 0 ∧ xi x 505 = m.1 31 := by
  obtain ⟨s1, s2, s3, s4, s5, s6, s7, s8, s9, s10, s11, s12, s13, s14, s15, s16⟩ := id h
  obtain ⟨n1, -, a1, a2, -⟩ := s1
  obtain ⟨n2, -, b1, b2⟩ := s2
  obtain ⟨n3, -, -, c1, c2⟩ := s3
  obtain ⟨n, fx, hd, N, eh, ed, er, ea, rd, wd, P, -, -, -, d4, -, -, -, d8, d9, -⟩ := s16
  obtain ⟨n4, A, S, pg, sg, nb, ft, al, en, -, -, -, -, e5, e6⟩ := s14
  exact ⟨a1.trans a2.symm, b1.trans b2.symm, c1.trans c2.symm, d8.trans d4.2.1.symm, e5.2.1.trans e6.1.symm, d9.trans d4.2.2.1.symm⟩
theorem si_count {x : xs_St} {m : th_St} (h : Sim x m) {a : Int32} : X_TH_count a x (fun r x' => M_count a m (fun r' m' => r' = r ∧ Sim x' m')) := by
  obtain ⟨c1, c2, c3, c4, c5, c6⟩ := Sim_cnt h
  exact sx_count c1 c2 c3 c4 c5 c6 (K := fun r x' r' m' => r' = r ∧ Sim x' m') (fun r => ⟨rfl, Sim_0 h 0⟩)
theorem si_hour {x : xs_St} {m : th_St} (h : Sim x m) : X_TH_hour x (fun r x' => M_hour m (fun r' m' => r' = r ∧ Sim x' m')) := by
  obtain ⟨s1, s2, s3, s4, s5, s6, s7, s8, s9, s10, s11, s12, s13, s14, s15, s16⟩ := id h
  refine sx_hour s1 s2 s16 (K := fun r x' r' m' => r' = r ∧ Sim x' m') (fun r x' m' fx fm e1 e2 hb => ⟨rfl, ?_⟩)
  have hx := eX_xg fx
  exact ⟨sTape_0 e1 e2, k_day s2 hx fm (by decide), k_feet s3 hx fm (by decide), k_hold s4 hx fm (by decide), k_noise s5 hx fm (by decide), k_shape s6 hx fm (by decide), k_ev s7 hx fm (by decide), k_list s8 hx fm (by decide), k_list s9 hx fm (by decide), k_list s10 hx fm (by decide), k_may s11 hx fm (by decide), k_605 s12 hx (by decide), k_ph s13 hx fm (by decide), k_al s14 hx fm (by decide), k_fault s15 hx fm (by decide), hb⟩
theorem si_mend {x : xs_St} {m : th_St} (h : Sim x m) {a : Int32} : X_TH_mend a x (fun r x' => M_mend a m (fun r' m' => r' = r ∧ Sim x' m')) := by
  obtain ⟨s1, s2, s3, s4, s5, s6, s7, s8, s9, s10, s11, s12, s13, s14, s15, s16⟩ := id h
  refine sx_mend s1 s2 s16 (K := fun r x' r' m' => r' = r ∧ Sim x' m') (fun r x' m' fx fm e1 e2 hb => ⟨rfl, ?_⟩)
  have hx := eX_xg fx
  exact ⟨sTape_0 e1 e2, k_day s2 hx fm (by decide), k_feet s3 hx fm (by decide), k_hold s4 hx fm (by decide), k_noise s5 hx fm (by decide), k_shape s6 hx fm (by decide), k_ev s7 hx fm (by decide), k_list s8 hx fm (by decide), k_list s9 hx fm (by decide), k_list s10 hx fm (by decide), k_may s11 hx fm (by decide), k_605 s12 hx (by decide), k_ph s13 hx fm (by decide), k_al s14 hx fm (by decide), k_fault s15 hx fm (by decide), hb⟩
theorem si_slips {x : xs_St} {m : th_St} (h : Sim x m) {a b : Int32} : X_TH_slips a b x (fun r x' => M_slips a b m (fun r' m' => r' = r ∧ Sim x' m')) := by
  obtain ⟨s1, s2, s3, s4, s5, s6, s7, s8, s9, s10, s11, s12, s13, s14, s15, s16⟩ := id h
  refine sx_slips s16 (K := fun r x' r' m' => r' = r ∧ Sim x' m') (fun r x' m' fx fm hb => ⟨rfl, ?_⟩)
  have hx := eX_fF fx
  exact ⟨k_tape s1 hx fm (by decide), k_day s2 hx fm (by decide), k_feet s3 hx fm (by decide), k_hold s4 hx fm (by decide), k_noise s5 hx fm (by decide), k_shape s6 hx fm (by decide), k_ev s7 hx fm (by decide), k_list s8 hx fm (by decide), k_list s9 hx fm (by decide), k_list s10 hx fm (by decide), k_may s11 hx fm (by decide), k_605 s12 hx (by decide), k_ph s13 hx fm (by decide), k_al s14 hx fm (by decide), k_fault s15 hx fm (by decide), hb⟩
theorem si_alarm {x : xs_St} {m : th_St} (h : Sim x m) {a b c : Int32} : X_TH_alarm a b c x (fun r x' => M_alarm a b c m (fun r' m' => r' = r ∧ Sim x' m')) := by
  obtain ⟨s1, s2, s3, s4, s5, s6, s7, s8, s9, s10, s11, s12, s13, s14, s15, s16⟩ := id h
  refine sx_alarm s16 s14 (K := fun r x' r' m' => r' = r ∧ Sim x' m') (fun r x' m' fx fm hb => ⟨rfl, ?_⟩)
  have hx := eX_fF fx
  exact ⟨k_tape s1 hx fm (by decide), k_day s2 hx fm (by decide), k_feet s3 hx fm (by decide), k_hold s4 hx fm (by decide), k_noise s5 hx fm (by decide), k_shape s6 hx fm (by decide), k_ev s7 hx fm (by decide), k_list s8 hx fm (by decide), k_list s9 hx fm (by decide), k_list s10 hx fm (by decide), k_may s11 hx fm (by decide), k_605 s12 hx (by decide), k_ph s13 hx fm (by decide), k_al s14 hx fm (by decide), k_fault s15 hx fm (by decide), hb⟩
theorem si_alarmed {x : xs_St} {m : th_St} (h : Sim x m) {a b : Int32} : X_TH_alarmed a b x (fun r x' => M_alarmed a b m (fun r' m' => r' = r ∧ Sim x' m')) := by
  obtain ⟨s1, s2, s3, s4, s5, s6, s7, s8, s9, s10, s11, s12, s13, s14, s15, s16⟩ := id h
  refine sx_alarmed s16 s14 (K := fun r x' r' m' => r' = r ∧ Sim x' m') (fun r x' m' fx fm hb => ⟨rfl, ?_⟩)
  have hx := eX_fF fx
  exact ⟨k_tape s1 hx fm (by decide), k_day s2 hx fm (by decide), k_feet s3 hx fm (by decide), k_hold s4 hx fm (by decide), k_noise s5 hx fm (by decide), k_shape s6 hx fm (by decide), k_ev s7 hx fm (by decide), k_list s8 hx fm (by decide), k_list s9 hx fm (by decide), k_list s10 hx fm (by decide), k_may s11 hx fm (by decide), k_605 s12 hx (by decide), k_ph s13 hx fm (by decide), k_al s14 hx fm (by decide), k_fault s15 hx fm (by decide), hb⟩
theorem si_walk {x : xs_St} {m : th_St} (h : Sim x m) {a b c d : Int32} : X_TH_walk a b c d x (fun r x' => M_walk a b c d m (fun r' m' => r' = r ∧ Sim x' m')) := by
  obtain ⟨s1, s2, s3, s4, s5, s6, s7, s8, s9, s10, s11, s12, s13, s14, s15, s16⟩ := id h
  refine sx_walk s16 s9 (K := fun r x' r' m' => r' = r ∧ Sim x' m') (fun r x' m' fx fm hb hw => ⟨rfl, ?_⟩)
  have hx := eX_xg fx
  exact ⟨k_tape s1 hx fm (by decide), k_day s2 hx fm (by decide), k_feet s3 hx fm (by decide), k_hold s4 hx fm (by decide), k_noise s5 hx fm (by decide), k_shape s6 hx fm (by decide), k_ev s7 hx fm (by decide), k_list s8 hx fm (by decide), hw, k_list s10 hx fm (by decide), k_may s11 hx fm (by decide), k_605 s12 hx (by decide), k_ph s13 hx fm (by decide), k_al s14 hx fm (by decide), k_fault s15 hx fm (by decide), hb⟩
theorem si_tellings {x : xs_St} {m : th_St} (h : Sim x m) : X_TH_tellings x (fun r x' => M_tellings m (fun r' m' => r' = r ∧ Sim x' m')) := by
  obtain ⟨s1, s2, s3, s4, s5, s6, s7, s8, s9, s10, s11, s12, s13, s14, s15, s16⟩ := id h
  refine sx_tell s1 s3 s5 s11 s12 (K := fun r x' r' m' => r' = r ∧ Sim x' m') (fun r x' m' fx fm e1 e2 h5 hm => ⟨rfl, ?_⟩)
  have hx := eX_xf fx
  exact ⟨sTape_0 e1 e2, k_day s2 hx fm (by decide), k_feet s3 hx fm (by decide), k_hold s4 hx fm (by decide), k_noise s5 hx fm (by decide), k_shape s6 hx fm (by decide), k_ev s7 hx fm (by decide), k_list s8 hx fm (by decide), k_list s9 hx fm (by decide), k_list s10 hx fm (by decide), hm, h5, k_ph s13 hx fm (by decide), k_al s14 hx fm (by decide), k_fault s15 hx fm (by decide), sBody_f s16 fx (by decide) (by decide) fm (by decide) (by decide)⟩
theorem si_shape {x : xs_St} {m : th_St} (h : Sim x m) {a : Int32} : X_TH_shape a x (fun r x' => M_shape a m (fun r' m' => r' = r ∧ Sim x' m')) := by
  obtain ⟨s1, s2, s3, s4, s5, s6, s7, s8, s9, s10, s11, s12, s13, s14, s15, s16⟩ := id h
  refine sx_shape s1 s6 (K := fun r x' r' m' => r' = r ∧ Sim x' m') ⟨rfl, Sim_T h⟩ (fun f1 f2 g1 g2 hs => ⟨rfl, ?_⟩)
  have fx : xf [101] [700, 701] [] x (xs_si (xs_sa (xs_sa x 700 f1) 701 f2) 101 0) := xf_i (by decide) (xf_a (by decide) (xf_a (by decide) (xf_r x)))
  have fm : mf [0, 2, 3, 4] [49, 50] [] m (th_sa (th_sa (mT m) 49 g1) 50 g2) := mf_a (by decide) (mf_a (by decide) (mf_w (mfT m) (by decide) (by decide) (by decide)))
  have hx := eX_xf fx
  exact ⟨sTape_0 rfl rfl, k_day s2 hx fm (by decide), k_feet s3 hx fm (by decide), k_hold s4 hx fm (by decide), k_noise s5 hx fm (by decide), hs, k_ev s7 hx fm (by decide), k_list s8 hx fm (by decide), k_list s9 hx fm (by decide), k_list s10 hx fm (by decide), k_may s11 hx fm (by decide), k_605 s12 hx (by decide), k_ph s13 hx fm (by decide), k_al s14 hx fm (by decide), k_fault s15 hx fm (by decide), sBody_f s16 fx (by decide) (by decide) fm (by decide) (by decide)⟩
theorem si_explain {x : xs_St} {m : th_St} (h : Sim x m) : X_TH_explain x (fun r x' => M_explain m (fun r' m' => r' = r ∧ Sim x' m')) := by
  obtain ⟨s1, s2, s3, s4, s5, s6, s7, s8, s9, s10, s11, s12, s13, s14, s15, s16⟩ := id h
  refine sx_explain s1 s3 s5 s6 s7 (K := fun r x' r' m' => r' = r ∧ Sim x' m') ⟨rfl, Sim_T h⟩ (fun r x' m' fx fm e1 e2 hg => ⟨rfl, ?_⟩)
  have hx := eX_xf fx
  exact ⟨sTape_0 e1 e2, k_day s2 hx fm (by decide), k_feet s3 hx fm (by decide), k_hold s4 hx fm (by decide), k_noise s5 hx fm (by decide), k_shape s6 hx fm (by decide), hg, k_list s8 hx fm (by decide), k_list s9 hx fm (by decide), k_list s10 hx fm (by decide), k_may s11 hx fm (by decide), k_605 s12 hx (by decide), k_ph s13 hx fm (by decide), k_al s14 hx fm (by decide), k_fault s15 hx fm (by decide), sBody_f s16 fx (by decide) (by decide) fm (by decide) (by decide)⟩
theorem si_gauges {x : xs_St} {m : th_St} (h : Sim x m) : X_TH_gauges x (fun r x' => M_gauges m (fun r' m' => r' = r ∧ Sim x' m')) := by
  obtain ⟨s1, s2, s3, s4, s5, s6, s7, s8, s9, s10, s11, s12, s13, s14, s15, s16⟩ := id h
  refine sx_gauges s1 s3 (K := fun r x' r' m' => r' = r ∧ Sim x' m') ⟨rfl, Sim_T h⟩ (fun r x' m' fx fm e1 e2 hg => ⟨rfl, ?_⟩)
  have hx := eX_xf fx
  exact ⟨sTape_0 e1 e2, k_day s2 hx fm (by decide), k_feet s3 hx fm (by decide), k_hold s4 hx fm (by decide), k_noise s5 hx fm (by decide), k_shape s6 hx fm (by decide), k_ev s7 hx fm (by decide), hg, k_list s9 hx fm (by decide), k_list s10 hx fm (by decide), k_may s11 hx fm (by decide), k_605 s12 hx (by decide), k_ph s13 hx fm (by decide), k_al s14 hx fm (by decide), k_fault s15 hx fm (by decide), sBody_f s16 fx (by decide) (by decide) fm (by decide) (by decide)⟩
theorem si_lined {x : xs_St} {m : th_St} (h : Sim x m) {a b : Int32} : X_TH_lined a b x (fun r x' => M_lined a b m (fun r' m' => r' = r ∧ Sim x' m')) := by
  obtain ⟨s1, s2, s3, s4, s5, s6, s7, s8, s9, s10, s11, s12, s13, s14, s15, s16⟩ := id h
  refine sx_lined s1 (K := fun r x' r' m' => r' = r ∧ Sim x' m') ⟨rfl, Sim_T h⟩ (fun r x' m' fx fm e1 e2 hg => ⟨rfl, ?_⟩)
  have hx := eX_xf fx
  exact ⟨sTape_0 e1 e2, k_day s2 hx fm (by decide), k_feet s3 hx fm (by decide), k_hold s4 hx fm (by decide), k_noise s5 hx fm (by decide), k_shape s6 hx fm (by decide), k_ev s7 hx fm (by decide), k_list s8 hx fm (by decide), k_list s9 hx fm (by decide), hg, k_may s11 hx fm (by decide), k_605 s12 hx (by decide), k_ph s13 hx fm (by decide), k_al s14 hx fm (by decide), k_fault s15 hx fm (by decide), sBody_f s16 fx (by decide) (by decide) fm (by decide) (by decide)⟩
theorem si_felt {x : xs_St} {m : th_St} (h : Sim x m) {a b c : Int32} : X_TH_felt (fun x' => M_felt a b c m (fun _ m' => m'.1 0 = 1 ∧ Sim x' m')) a b c x (fun r x' => M_felt a b c m (fun r' m' => m'.1 0 = 0 ∧ r' = r ∧ Sim x' m')) := by
  obtain ⟨s1, s2, s3, s4, s5, s6, s7, s8, s9, s10, s11, s12, s13, s14, s15, s16⟩ := id h
  refine sx_felt s16 (KT := fun x' _ m' => m'.1 0 = 1 ∧ Sim x' m') (K := fun r x' r' m' => m'.1 0 = 0 ∧ r' = r ∧ Sim x' m') (fun r x' m' fx fm e0 hb => ⟨e0, ?_⟩) (fun r x' m' fx fm e0 hb => ⟨e0, rfl, ?_⟩)
  · have hx := eX_fF fx
    exact ⟨k_tape s1 hx fm (by decide), k_day s2 hx fm (by decide), k_feet s3 hx fm (by decide), k_hold s4 hx fm (by decide), k_noise s5 hx fm (by decide), k_shape s6 hx fm (by decide), k_ev s7 hx fm (by decide), k_list s8 hx fm (by decide), k_list s9 hx fm (by decide), k_list s10 hx fm (by decide), k_may s11 hx fm (by decide), k_605 s12 hx (by decide), k_ph s13 hx fm (by decide), k_al s14 hx fm (by decide), k_fault s15 hx fm (by decide), hb⟩
  · have hx := eX_fF fx
    exact ⟨k_tape s1 hx fm (by decide), k_day s2 hx fm (by decide), k_feet s3 hx fm (by decide), k_hold s4 hx fm (by decide), k_noise s5 hx fm (by decide), k_shape s6 hx fm (by decide), k_ev s7 hx fm (by decide), k_list s8 hx fm (by decide), k_list s9 hx fm (by decide), k_list s10 hx fm (by decide), k_may s11 hx fm (by decide), k_605 s12 hx (by decide), k_ph s13 hx fm (by decide), k_al s14 hx fm (by decide), k_fault s15 hx fm (by decide), hb⟩
theorem si_read {x : xs_St} {m : th_St} (h : Sim x m) {a b c d : Int32} : X_TH_read (fun x' => M_read_ a b c d m (fun _ m' => m'.1 0 = 1 ∧ Sim x' m')) a b c d x (fun r x' => M_read_ a b c d m (fun r' m' => m'.1 0 = 0 ∧ r' = r ∧ Sim x' m')) := by
  obtain ⟨s1, s2, s3, s4, s5, s6, s7, s8, s9, s10, s11, s12, s13, s14, s15, s16⟩ := id h
  refine sx_read s16 s13 (KT := fun x' _ m' => m'.1 0 = 1 ∧ Sim x' m') (K := fun r x' r' m' => m'.1 0 = 0 ∧ r' = r ∧ Sim x' m') (fun r x' m' fx fm e0 hb => ⟨e0, ?_⟩) (fun r x' m' fx fm e0 hb => ⟨e0, rfl, ?_⟩)
  · have hx := eX_fF fx
    exact ⟨k_tape s1 hx fm (by decide), k_day s2 hx fm (by decide), k_feet s3 hx fm (by decide), k_hold s4 hx fm (by decide), k_noise s5 hx fm (by decide), k_shape s6 hx fm (by decide), k_ev s7 hx fm (by decide), k_list s8 hx fm (by decide), k_list s9 hx fm (by decide), k_list s10 hx fm (by decide), k_may s11 hx fm (by decide), k_605 s12 hx (by decide), k_ph s13 hx fm (by decide), k_al s14 hx fm (by decide), k_fault s15 hx fm (by decide), hb⟩
  · have hx := eX_fF fx
    exact ⟨k_tape s1 hx fm (by decide), k_day s2 hx fm (by decide), k_feet s3 hx fm (by decide), k_hold s4 hx fm (by decide), k_noise s5 hx fm (by decide), k_shape s6 hx fm (by decide), k_ev s7 hx fm (by decide), k_list s8 hx fm (by decide), k_list s9 hx fm (by decide), k_list s10 hx fm (by decide), k_may s11 hx fm (by decide), k_605 s12 hx (by decide), k_ph s13 hx fm (by decide), k_al s14 hx fm (by decide), k_fault s15 hx fm (by decide), hb⟩
theorem si_mayFeel {x : xs_St} {m : th_St} (h : Sim x m) {a b : Int32} : X_TH_mayFeel (fun x' => M_mayFeel a b m (fun _ m' => m'.1 0 = 1 ∧ Sim x' m')) a b x (fun r x' => M_mayFeel a b m (fun r' m' => m'.1 0 = 0 ∧ r' = r ∧ Sim x' m')) := by
  obtain ⟨s1, s2, s3, s4, s5, s6, s7, s8, s9, s10, s11, s12, s13, s14, s15, s16⟩ := id h
  exact sx_may s11 (KT := fun x' _ m' => m'.1 0 = 1 ∧ Sim x' m') (K := fun r x' r' m' => m'.1 0 = 0 ∧ r' = r ∧ Sim x' m') (fun r => ⟨rfl, Sim_0 h 1⟩) (fun r => ⟨rfl, rfl, Sim_0 h 0⟩)
theorem si_falseShare {x : xs_St} {m : th_St} (h : Sim x m) {a b c : Int32} : X_TH_falseShare (fun x' => M_falseShare a b c m (fun _ m' => m'.1 0 = 1 ∧ Sim x' m')) a b c x (fun r x' => M_falseShare a b c m (fun r' m' => m'.1 0 = 0 ∧ r' = r ∧ Sim x' m')) := by
  obtain ⟨s1, s2, s3, s4, s5, s6, s7, s8, s9, s10, s11, s12, s13, s14, s15, s16⟩ := id h
  refine sx_share s5 (KT := fun x' _ m' => m'.1 0 = 1 ∧ Sim x' m') (K := fun r x' r' m' => m'.1 0 = 0 ∧ r' = r ∧ Sim x' m') (fun r => ⟨rfl, Sim_0 h 1⟩) (fun r x' m' fx fm e0 => ⟨e0, rfl, ?_⟩)
  have hx := eX_xf fx
  exact ⟨k_tape s1 hx fm (by decide), k_day s2 hx fm (by decide), k_feet s3 hx fm (by decide), k_hold s4 hx fm (by decide), k_noise s5 hx fm (by decide), k_shape s6 hx fm (by decide), k_ev s7 hx fm (by decide), k_list s8 hx fm (by decide), k_list s9 hx fm (by decide), k_list s10 hx fm (by decide), k_may s11 hx fm (by decide), k_605 s12 hx (by decide), k_ph s13 hx fm (by decide), k_al s14 hx fm (by decide), k_fault s15 hx fm (by decide), sBody_f s16 fx (by decide) (by decide) fm (by decide) (by decide)⟩

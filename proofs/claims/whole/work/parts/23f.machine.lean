/-! text: the reference's conditions, move by move -/
/-- the text in force is left alone -/
def lz (u v : th_St) : Prop := ∀ s, s < 200 → v.2.2.1 16 s = u.2.2.1 16 s ∧ v.2.2.1 17 s = u.2.2.1 17 s ∧ v.2.2.1 18 s = u.2.2.1 18 s ∧ v.2.2.1 19 s = u.2.2.1 19 s
theorem lz_r (u : th_St) : lz u u := fun _ _ => ⟨rfl, rfl, rfl, rfl⟩
theorem lz_t {u v w : th_St} (h : lz u v) (h2 : lz v w) : lz u w := fun s hs => by
  obtain ⟨a1, a2, a3, a4⟩ := h s hs
  obtain ⟨c1, c2, c3, c4⟩ := h2 s hs
  exact ⟨c1.trans a1, c2.trans a2, c3.trans a3, c4.trans a4⟩
theorem lz_f {u v : th_St} {I A J : List Nat} (h : mf I A J u v) (hA : 16 ∉ A ∧ 17 ∉ A ∧ 18 ∉ A ∧ 19 ∉ A) : lz u v := fun s _ => by
  rw [h.2.1 16 hA.1, h.2.1 17 hA.2.1, h.2.1 18 hA.2.2.1, h.2.1 19 hA.2.2.2]; exact ⟨rfl, rfl, rfl, rfl⟩
def fz (u0 u : th_St) : Prop := mf [4, 21, 22, 23, 24, 25, 26, 27, 33] [16, 17, 18, 19, 20] [] u0 u ∧ lz u0 u
theorem fz_r (u : th_St) : fz u u := ⟨mf_r u, lz_r u⟩
theorem fz_t {u0 u y : th_St} {I A J : List Nat} (h : fz u0 u) (hy : mf I A J u y) (hz : lz u y) (hI : ∀ k, k ∈ I → k ∈ [4, 21, 22, 23, 24, 25, 26, 27, 33]) (hA : ∀ k, k ∈ A → k ∈ [16, 17, 18, 19, 20]) (hJ : ∀ k, k ∈ J → k ∈ ([] : List Nat)) : fz u0 y := ⟨mf_t h.1 (mf_w hy hI hA hJ), lz_t h.2 hz⟩
def mS (t : TK) (u0 u : th_St) (k o S n : Nat) (l : List Nat) : Prop := fz u0 u ∧ cM t u k ∧ u.1 23 = nI o ∧ u.1 21 = nI S ∧ u.2.2.1 11 1 = nI n ∧ u.1 22 = nI l.length ∧ plP (u.2.2.1 20) l
def fB (u0 y : th_St) (kd pl : Nat) : Prop := (mf [4, 21, 22, 23, 24, 25, 26, 27, 28, 29, 33] [16, 17, 18, 19, 20] [] u0 y ∧ lz u0 y) ∧ y.1 28 = nI kd ∧ y.1 29 = nI pl
theorem fB_m {t : TK} {u0 u y : th_St} {k o S n kd pl : Nat} {l : List Nat} (h : mS t u0 u k o S n l) (hy : fM u y kd pl) : fB u0 y kd pl := ⟨⟨mf_t (mf_w h.1.1 (by decide) (by decide) (by decide)) (mf_w hy.1 (by decide) (by decide) (by decide)), lz_t h.1.2 (lz_f hy.1 (by decide))⟩, hy.2.1, hy.2.2⟩
/-- the token goes on -/
theorem mS_n {t : TK} {u0 u y : th_St} {k k' o S n : Nat} {l : List Nat} (h : mS t u0 u k o S n l) (hy : mf [4, 24, 25, 26, 27, 33] [] [] u y) (hc : cM t y k') : mS t u0 y k' o S n l := by
  obtain ⟨h1, h2, h3, h4, h5, h6, h7⟩ := h
  refine ⟨fz_t h1 hy (lz_f hy (by decide)) (by decide) (by decide) (by decide), hc, (hy.1 23 (by decide)).trans h3, (hy.1 21 (by decide)).trans h4, ?_, (hy.1 22 (by decide)).trans h6, ?_⟩
  · rw [hy.2.1 11 (by decide)]; exact h5
  · rw [hy.2.1 20 (by decide)]; exact h7
/-- steps below j are the same -/
def loS (u v : th_St) (j : Nat) : Prop := ∀ s, s < j → v.2.2.1 16 (200 + s) = u.2.2.1 16 (200 + s) ∧ v.2.2.1 17 (200 + s) = u.2.2.1 17 (200 + s) ∧ v.2.2.1 18 (200 + s) = u.2.2.1 18 (200 + s) ∧ v.2.2.1 19 (200 + s) = u.2.2.1 19 (200 + s)
theorem loS_r (u : th_St) (j : Nat) : loS u u j := fun _ _ => ⟨rfl, rfl, rfl, rfl⟩
theorem loS_t {u v w : th_St} {j i : Nat} (h : loS u v j) (h2 : loS v w i) (hij : j ≤ i) : loS u w j := fun s hs => by
  obtain ⟨a1, a2, a3, a4⟩ := h s hs
  obtain ⟨c1, c2, c3, c4⟩ := h2 s (by omega)
  exact ⟨c1.trans a1, c2.trans a2, c3.trans a3, c4.trans a4⟩
theorem loS_f {u v : th_St} {I A J : List Nat} {j : Nat} (h : mf I A J u v) (hA : 16 ∉ A ∧ 17 ∉ A ∧ 18 ∉ A ∧ 19 ∉ A) : loS u v j := fun s _ => by
  rw [h.2.1 16 hA.1, h.2.1 17 hA.2.1, h.2.1 18 hA.2.2.1, h.2.1 19 hA.2.2.2]; exact ⟨rfl, rfl, rfl, rfl⟩
theorem wd_s {t : TK} {u0 u : th_St} {k o S n : Nat} {r l : List Nat} {least : Nat} {K : th_St → Prop} (h : mS t u0 u k o S n (r ++ l)) (hst : l = [] ∨ ∃ v l', l = v :: l' ∧ (v = 13 ∨ (10 ≤ v ∧ v ≤ 12 ∧ bnd v < least))) (hle : 1 ≤ least ∧ least ≤ 3) (hS : S + r.length ≤ 190) (hl : (r ++ l).length ≤ 99) (hr : ∀ v, v ∈ r → 10 ≤ v ∧ v ≤ 12 ∧ least ≤ bnd v) (hK : ∀ y, mS t u0 y k o (S + r.length) n l → loS u y S → (∀ i, i < r.length → y.2.2.1 16 (200 + (S + i)) = nI (r.getD i 0)) → K y) : M_writeDown (nI least) u K := by
  obtain ⟨h1, h2, h3, h4, h5, h6, h7⟩ := h
  refine mx_wd hst hle r S u h4 hS h6 h7 hl hr (fun y yf yw y21 y22 ylo yhi => ?_)
  have hz : lz u y := fun s hs => by
    obtain ⟨a1, a2, a3⟩ := ylo s (by omega)
    exact ⟨a1, a2, a3, by rw [yf.2.1 19 (by decide)]⟩
  refine hK y ⟨fz_t h1 yf hz (by decide) (by decide) (by decide), cM_f h2 yf yw (by decide) (by decide), (yf.1 23 (by decide)).trans h3, y21, by rw [yf.2.1 11 (by decide)]; exact h5, y22, by rw [yf.2.1 20 (by decide)]; exact plP_d r h7⟩ (fun s hs => ?_) (fun i hi => ?_)
  · obtain ⟨a1, a2, a3⟩ := ylo (200 + s) (by omega)
    exact ⟨a1, a2, a3, by rw [yf.2.1 19 (by decide)]⟩
  · rw [show 200 + (S + i) = 200 + S + i by omega]; exact yhi i hi
theorem rep_m {n v : Nat} {a : Nat} (h : v ∈ List.replicate n a) : v = a := List.eq_of_mem_replicate h
/-- NOTS at the top are written down -/
theorem wd_3 {t : TK} {u0 u : th_St} {k o S n : Nat} {l : List Nat} {K : th_St → Prop} (h : mS t u0 u k o S n l) (hk : pK l) (hS : S + nts l ≤ 190) (hl : l.length ≤ 99) (hK : ∀ y, mS t u0 y k o (S + nts l) n (dpN l) → loS u y S → (∀ i, i < nts l → y.2.2.1 16 (200 + (S + i)) = nI 10) → K y) : M_writeDown (3 : Int32) u K := by
  have hd := dpN_s l
  have hlen := congrArg List.length hd
  rw [List.length_append, List.length_replicate] at hlen
  have h' := h
  rw [hd] at h'
  refine wd_s (least := 3) h' ?_ (by omega) (by rw [List.length_replicate]; exact hS) (by rw [← hd]; exact hl) (fun v hv => by rw [rep_m hv]; exact ⟨by omega, by omega, by decide⟩) (fun y yS ylo yhi => ?_)
  · rcases dpN_h l with e | ⟨v, l', e, hv⟩
    · exact Or.inl e
    · refine Or.inr ⟨v, l', e, ?_⟩
      have hm := hk v (dpN_m l (by rw [e]; exact List.mem_cons_self))
      by_cases e13 : v = 13
      · exact Or.inl e13
      · refine Or.inr ⟨hm.1, by omega, ?_⟩
        unfold bnd
        rw [if_neg hv]
        split <;> omega
  · rw [List.length_replicate] at yS yhi
    refine hK y yS ylo (fun i hi => ?_)
    rw [yhi i hi, List.getD_eq_getElem?_getD, List.getElem?_replicate, if_pos hi]; rfl
def MS (K' : Int32 → th_St → Prop) (a : Nat) (u : th_St) : Prop := ((¬ nI a = (4 : Int32) → M_one_151 K' (nI a) u) ∧ (nI a = (4 : Int32) → (vp_in (1 : Int32) 2 ∧ ∀ y_6 : Int32, y_6 = u.2.2.1 11 ((1 : Int32)).toNatClampNeg → M_takes (0 : Int32) (y_6 - (1 : Int32)) u (fun r_8 u_7 => ((¬ r_8 = 0 → (vp_in ((200 : Int32) + (u_7.1 21)) 400 ∧ ∀ u_9 : th_St, u_9 = th_sa u_7 19 (upd (u_7.2.2.1 19) (((200 : Int32) + (u_7.1 21))).toNatClampNeg (u_7.1 33)) → M_one_151 K' (nI a) u_9)) ∧ (r_8 = 0 → (((0 : Int32) = 0 ∨ (0 : Int32) = 1) ∧ K' (0 : Int32) u_7)))))))
theorem ch_68 : ∀ w : Fin 9, 6 ≤ w.val → chN w.val 0 = w.val + 54 := by decide
theorem mx_151 {t : TK} {u0 u : th_St} {k o S n a : Nat} {l : List Nat} {K' : Int32 → th_St → Prop} (hA : kA t) (hm : mS t u0 u k o S n l) (hk : k ≤ kT t) (hS : S ≤ 150) (ha : a ≤ 4)
    (h1 : (6 ≤ kK t k ∧ kK t k ≤ 8) → kK t (k + 1) = 2 → ∀ u' nv, kV t (k + 1) = nI nv → nv ≤ 9999 → mS t u0 u' (k + 2) o (S + 1) n l → loS u u' S → u'.2.2.1 16 (200 + S) = nI a → u'.2.2.1 17 (200 + S) = nI (kK t k + 54) → u'.2.2.1 18 (200 + S) = nI nv → u'.2.2.1 19 (200 + S) = u.2.2.1 19 (200 + S) → M_writeDown (3 : Int32) u' (fun u_7 => (((1 : Int32) = 0 ∨ (1 : Int32) = 1) ∧ K' (1 : Int32) u_7)))
    (h0 : ∀ y kp, ((¬ (6 ≤ kK t k ∧ kK t k ≤ 8) ∧ kp = k) ∨ ((6 ≤ kK t k ∧ kK t k ≤ 8) ∧ kK t (k + 1) ≠ 2 ∧ kp = k + 1)) → fB u0 y 1 (kP t kp) → K' 0 y) : M_one_151 K' (nI a) u := by
  have hc := hm.2.1
  have sgn : (6 ≤ kK t k ∧ kK t k ≤ 8) → M_one_184 K' (nI a) u := by
    intro hs
    have hkT := kA_l hA hk (by omega)
    have h27 : u.1 27 = nI (kK t k + 54) := by
      rw [(hc.2.2.2.2.2.2.1 (by omega) (by omega)).2, show chN (kK t k) 0 = kK t k + 54 from ch_68 ⟨kK t k, by omega⟩ hs.1]
    unfold M_one_184
    rw [h27]
    refine mx_nxt hA hc hkT (fun u1 f1 c1 => ?_)
    have m1 := mS_n hm (mf_w f1 (by decide) (by decide) (by decide)) c1
    have hmn := m_num hA (show k + 1 ≤ kT t by omega) c1
    refine br1 (fun q => ?_) (fun q => mx_bad c1.2.1 (fun y yf y28 y29 => ⟨n010, h0 y (k + 1) (Or.inr ⟨hs, fun e => q (hmn.mpr e), rfl⟩) (fB_m m1 ⟨yf, y28, y29⟩)⟩))
    have q2 := hmn.mp q
    obtain ⟨nv, hnv, env⟩ := kA_v hA (show k + 1 ≤ kT t by omega) q2
    have g27 : u1.1 27 = nI nv := (c1.2.2.2.2.2.1 q2).2.trans env
    rw [g27]
    refine mx_write m1.2.2.2.1 (by omega) (fun u3 f3 w3 e21 e16 e17 e18 => ?_)
    have c3 : cM t u3 (k + 1) := cM_f c1 f3 w3 (by decide) (by decide)
    have z3 : lz u1 u3 := fun s hs => by
      rw [e16, e17, e18, f3.2.1 19 (by decide), pk_un (by omega), pk_un (by omega), pk_un (by omega)]; exact ⟨rfl, rfl, rfl, rfl⟩
    have m3 : mS t u0 u3 (k + 1) o (S + 1) n l := ⟨fz_t m1.1 f3 z3 (by decide) (by decide) (by decide), c3, (f3.1 23 (by decide)).trans m1.2.2.1, e21, by rw [f3.2.1 11 (by decide)]; exact m1.2.2.2.2.1, (f3.1 22 (by decide)).trans m1.2.2.2.2.2.1, by rw [f3.2.1 20 (by decide)]; exact m1.2.2.2.2.2.2⟩
    refine mx_nxt hA c3 (kA_l hA (by omega) (by omega)) (fun u5 f5 c5 => ?_)
    have m5 := mS_n m3 (mf_w f5 (by decide) (by decide) (by decide)) c5
    refine h1 hs q2 u5 nv env hnv m5 (fun s hs' => ?_) ?_ ?_ ?_ ?_
    · rw [f5.2.1 16 (by decide), f5.2.1 17 (by decide), f5.2.1 18 (by decide), f5.2.1 19 (by decide), e16, e17, e18, f3.2.1 19 (by decide), pk_un (by omega), pk_un (by omega), pk_un (by omega), f1.2.1 16 (by decide), f1.2.1 17 (by decide), f1.2.1 18 (by decide), f1.2.1 19 (by decide)]
      exact ⟨rfl, rfl, rfl, rfl⟩
    · rw [f5.2.1 16 (by decide), e16, pk_us]
    · rw [f5.2.1 17 (by decide), e17, pk_us]
    · rw [f5.2.1 18 (by decide), e18, pk_us]
    · rw [f5.2.1 19 (by decide), f3.2.1 19 (by decide), f1.2.1 19 (by decide)]
  unfold M_one_151
  refine mx_isS hA hk hc (w := 6) (by decide) (by decide) rfl (fun e => ⟨fun _ => sgn (by omega), fun g => absurd g (by decide)⟩) (fun e6 => ⟨fun g => absurd rfl g, fun _ => ?_⟩)
  refine mx_isS hA hk hc (w := 7) (by decide) (by decide) rfl (fun e => ⟨fun _ => sgn (by omega), fun g => absurd g (by decide)⟩) (fun e7 => ⟨fun g => absurd rfl g, fun _ => ?_⟩)
  refine mx_isS hA hk hc (w := 8) (by decide) (by decide) rfl (fun e => ⟨fun _ => sgn (by omega), fun g => absurd g (by decide)⟩) (fun e8 => ⟨fun g => absurd rfl g, fun _ => ?_⟩)
  exact mx_bad hc.2.1 (fun y yf y28 y29 => ⟨n010, h0 y k (Or.inl ⟨by omega, rfl⟩) (fB_m hm ⟨yf, y28, y29⟩)⟩)
theorem mx_MS {t : TK} {u0 u : th_St} {k o S n a : Nat} {l : List Nat} {K' : Int32 → th_St → Prop} (hA : kA t) (hm : mS t u0 u k o S n l) (hk : k ≤ kT t) (hS : S ≤ 150) (ha : a ≤ 4) (hn : 4 ≤ n ∧ n ≤ 48)
    (h1 : ∀ u' k2 v nv, mOk t k a n k2 v nv → mS t u0 u' (k2 + 2) o (S + 1) n l → loS u u' S → u'.2.2.1 16 (200 + S) = nI a → u'.2.2.1 17 (200 + S) = nI (kK t k2 + 54) → u'.2.2.1 18 (200 + S) = nI nv → (a = 4 → u'.2.2.1 19 (200 + S) = nI v) → M_writeDown (3 : Int32) u' (fun u_7 => (((1 : Int32) = 0 ∨ (1 : Int32) = 1) ∧ K' (1 : Int32) u_7)))
    (h0 : ∀ y kd kp, mBd t k a n kd kp → fB u0 y kd (kP t kp) → K' 0 y) : MS K' a u := by
  have c4 : (nI a = (4 : Int32)) = (a = 4) := ni_eq (b := 4) (by omega) (by omega)
  unfold MS
  rw [c4]
  refine br2 (fun q => ?_) (fun q => ?_)
  · refine mx_151 hA hm hk hS ha (fun hs h2 u' nv env hnv m' lo' e16 e17 e18 _ => h1 u' k 0 nv ⟨fun e => absurd e q, fun _ => ⟨rfl, rfl⟩, hs, h2, env, hnv, ?_⟩ m' lo' e16 e17 e18 (fun e => absurd e q)) (fun y kp hb hy => ?_)
    · have := kA_l hA hk (by omega)
      exact kA_l hA (by omega) (by omega)
    · refine h0 y 1 kp (Or.inr (Or.inr ⟨k, Or.inr ⟨q, rfl⟩, ?_⟩)) hy
      rcases hb with ⟨b1, b2⟩ | ⟨b1, b2, b3⟩
      · exact Or.inl ⟨b1, rfl, b2⟩
      · exact Or.inr ⟨b1, b2, rfl, b3⟩
  · refine ⟨vp_in_nI (n := 1) (by omega) (by omega), fun y6 e6 => ?_⟩
    have e6 : y6 = nI n := by rw [e6]; exact hm.2.2.2.2.1
    subst e6
    have en : (nI n - (1 : Int32)).toInt = (n : Int) - 1 := by
      rw [show nI n - (1 : Int32) = iI ((n : Int) - 1) from ii_nsub n 1, ii_toInt (by omega) (by omega)]
    refine mx_tks (lo := 0) (hi := (n : Int) - 1) hA hk hm.2.1 (by decide) en (fun q2 v ev hv _ hlt u7 f7 c7 e33 => ⟨fun _ => ?_, fun g => absurd g (by decide)⟩) (fun q2 y yf => ⟨fun g => absurd rfl g, fun _ => ⟨n010, h0 y 1 k (Or.inl ⟨q, q2, rfl, rfl⟩) (fB_m hm yf)⟩⟩) (fun q2 v ev hv hno y yf => ⟨fun g => absurd rfl g, fun _ => ⟨n010, h0 y 2 k (Or.inr (Or.inl ⟨q, q2, ⟨v, ev, hv, by omega⟩, rfl, rfl⟩)) (fB_m hm yf)⟩⟩)
    have m7 := mS_n hm f7 c7
    have hkT := kA_l hA hk (by omega)
    rw [m7.2.2.2.1, show (200 : Int32) = nI 200 from rfl, nI_add, e33]
    refine ⟨vp_in_nI (by omega) (by omega), fun u9 e9 => ?_⟩
    rw [ni_cl (by omega)] at e9
    have f9 : mf [] [19] [] u7 u9 := by rw [e9]; exact mf_a (by decide) (mf_r u7)
    have z9 : lz u7 u9 := fun s hs => by
      rw [f9.2.1 16 (by decide), f9.2.1 17 (by decide), f9.2.1 18 (by decide), e9, tha_s, pk_un (by omega)]; exact ⟨rfl, rfl, rfl, rfl⟩
    have m9 : mS t u0 u9 (k + 1) o S n l := ⟨fz_t m7.1 f9 z9 (by decide) (by decide) (by decide), cM_f c7 f9 (by rw [e9]; rfl) (by decide) (by decide), (f9.1 23 (by decide)).trans m7.2.2.1, (f9.1 21 (by decide)).trans m7.2.2.2.1, by rw [f9.2.1 11 (by decide)]; exact m7.2.2.2.2.1, (f9.1 22 (by decide)).trans m7.2.2.2.2.2.1, by rw [f9.2.1 20 (by decide)]; exact m7.2.2.2.2.2.2⟩
    have lo9 : loS u u9 S := fun s hs => by
      rw [e9]
      show (th_sa u7 19 _).2.2.1 16 _ = _ ∧ (th_sa u7 19 _).2.2.1 17 _ = _ ∧ (th_sa u7 19 _).2.2.1 18 _ = _ ∧ (th_sa u7 19 _).2.2.1 19 _ = _
      rw [tha_n (by decide), tha_n (by decide), tha_n (by decide), tha_s, pk_un (by omega), f7.2.1 16 (by decide), f7.2.1 17 (by decide), f7.2.1 18 (by decide), f7.2.1 19 (by decide)]
      exact ⟨rfl, rfl, rfl, rfl⟩
    have e19 : u9.2.2.1 19 (200 + S) = nI v := by rw [e9, tha_s, pk_us]
    refine mx_151 hA m9 (by omega) hS ha (fun hs h2 u' nv env hnv m' lo' e16 e17 e18 e19' => h1 u' (k + 1) v nv ⟨fun _ => ⟨q2, ev, by omega, rfl⟩, fun e => absurd q e, hs, h2, env, hnv, ?_⟩ m' (loS_t lo9 lo' (Nat.le_refl _)) e16 e17 e18 (fun _ => e19'.trans e19)) (fun y kp hb hy => ?_)
    · have := kA_l hA (show k + 1 ≤ kT t by omega) (by omega)
      exact kA_l hA (by omega) (by omega)
    · refine h0 y 1 kp (Or.inr (Or.inr ⟨k + 1, Or.inl ⟨q, q2, ⟨v, ev, hv, by omega⟩, rfl⟩, ?_⟩)) hy
      rcases hb with ⟨b1, b2⟩ | ⟨b1, b2, b3⟩
      · exact Or.inl ⟨b1, rfl, b2⟩
      · exact Or.inr ⟨b1, b2, rfl, b3⟩
theorem mx_atom {t : TK} {u : th_St} {k : Nat} {K : Int32 → th_St → Prop} (hA : kA t) (hk : k ≤ kT t) (hc : cM t u k) (h1 : ∀ a, a ≤ 4 → kK t k = 22 + a → K (nI a) u) (h0 : kK t k < 22 → K (-1) u) : M_atom u K := by
  have h27 := kA_27 hA hk
  have w0 := m_word hA hk hc (w := 22) (by decide) (by decide)
  have w1 := m_word hA hk hc (w := 23) (by decide) (by decide)
  have w2 := m_word hA hk hc (w := 24) (by decide) (by decide)
  have w3 := m_word hA hk hc (w := 25) (by decide) (by decide)
  have w4 := m_word hA hk hc (w := 26) (by decide) (by decide)
  unfold M_atom M_atom_86
  rw [show (1885692267 : Int64) = wC 22 from by decide, show (7566701 : Int64) = wC 23 from by decide, show (495740088435 : Int64) = wC 24 from by decide, show (1752135026 : Int64) = wC 25 from by decide, show (24948 : Int64) = wC 26 from by decide]
  rw [show (0 : Int32) = nI 0 from rfl, lgn_eq, lgn_eq, lgn_eq, lgn_eq, lgn_eq]
  refine br1 (fun q => ?_) (fun q => h0 ?_)
  · refine br2 (fun q0 => br2 (fun q1 => br2 (fun q2 => br2 (fun q3 => br2 (fun q4 => h0 ?_) (fun e => h1 4 (by omega) (w4.mp ⟨q, e⟩))) (fun e => h1 3 (by omega) (w3.mp ⟨q, e⟩))) (fun e => h1 2 (by omega) (w2.mp ⟨q, e⟩))) (fun e => h1 1 (by omega) (w1.mp ⟨q, e⟩))) (fun e => h1 0 (by omega) (w0.mp ⟨q, e⟩))
    have n0 : kK t k ≠ 22 := fun e => q0 (w0.mpr e).2
    have n1 : kK t k ≠ 23 := fun e => q1 (w1.mpr e).2
    have n2 : kK t k ≠ 24 := fun e => q2 (w2.mpr e).2
    have n3 : kK t k ≠ 25 := fun e => q3 (w3.mpr e).2
    have n4 : kK t k ≠ 26 := fun e => q4 (w4.mpr e).2
    omega
  · have n0 : kK t k ≠ 22 := fun e => q (w0.mpr e).1
    have n1 : kK t k ≠ 23 := fun e => q (w1.mpr e).1
    have n2 : kK t k ≠ 24 := fun e => q (w2.mpr e).1
    have n3 : kK t k ≠ 25 := fun e => q (w3.mpr e).1
    have n4 : kK t k ≠ 26 := fun e => q (w4.mpr e).1
    omega
def Kone (K : Int32 → th_St → Prop) (n' : Nat) : Int32 → th_St → Prop := fun r_2 u_1 => ((¬ r_2 = 0 → ∃ n, M_cond_14_lp K (M_cond_5_lp K n') n u_1) ∧ (r_2 = 0 → (((0 : Int32) = 0 ∨ (0 : Int32) = 1) ∧ K (0 : Int32) u_1)))
def BO (t : TK) (K : Int32 → th_St → Prop) (u : th_St) (k : Nat) : Prop := ∀ n' j, kT t - k ≤ n' → kT t - k + 1 ≤ j → M_one_0_lp (Kone K n') j u
def AO (t : TK) (K : Int32 → th_St → Prop) (u : th_St) (k : Nat) : Prop := ∀ n' n, kT t - k ≤ n' → kT t - k + 1 ≤ n → M_cond_14_lp K (M_cond_5_lp K n') n u
theorem Kone_1 {t : TK} {K : Int32 → th_St → Prop} {u : th_St} {k n' : Nat} (h : AO t K u k) (hn : kT t - k ≤ n') : Kone K n' 1 u := ⟨fun _ => ⟨kT t - k + 1, h n' _ hn (Nat.le_refl _)⟩, fun g => absurd g (by decide)⟩
theorem Kone_0 {K : Int32 → th_St → Prop} {u : th_St} {n' : Nat} (h : K 0 u) : Kone K n' 0 u := ⟨fun g => absurd rfl g, fun _ => ⟨n010, h⟩⟩
theorem mx_condB {t : TK} {K : Int32 → th_St → Prop} {u : th_St} {k : Nat} (h : BO t K (th_si u 22 0) k) : M_cond u K := by
  unfold M_cond
  intro u1 e1
  subst e1
  refine ⟨kT t - k + 1, ?_⟩
  show M_cond_5 K (M_cond_5_lp K (kT t - k)) _
  unfold M_cond_5 M_one
  exact ⟨kT t - k + 1, h _ _ (Nat.le_refl _) (Nat.le_refl _)⟩
/-- what begins a ONE -/
theorem mx_one0 {t : TK} {u0 u : th_St} {k o S n : Nat} {l : List Nat} {K' : Int32 → th_St → Prop} {k0 : th_St → Prop} (hA : kA t) (hm : mS t u0 u k o S n l) (hk : k ≤ kT t) (h21 : kK t k = 21 → M_one_36 K' k0 1 (-1) u) (h4 : kK t k = 4 → M_one_36 K' k0 0 (-1) u) (hms : ∀ a, a ≤ 4 → kK t k = 22 + a → M_one_36 K' k0 0 (nI a) u) (hb : kK t k ≠ 21 → kK t k ≠ 4 → kK t k < 22 → ∀ y, fB u0 y 1 (kP t k) → K' 0 y) : M_one_0 K' k0 u := by
  have hc := hm.2.1
  unfold M_one_0
  refine mx_isW hA hk hc (w := 21) (by decide) (by decide) (by decide) (fun e => ?_) (fun e => ?_)
  · refine mx_atom hA hk hc (fun a ha ea => by omega) (fun _ => ⟨fun _ => h21 e, fun g => absurd g (by decide)⟩)
  · refine mx_atom hA hk hc (fun a ha ea => ⟨fun g => absurd rfl g, fun _ => ⟨fun _ => hms a ha ea, fun g => absurd (by rw [show (0 : Int32) = nI 0 from rfl, ni_le (by omega) (by omega)]; omega) g⟩⟩) (fun hlt => ⟨fun g => absurd rfl g, fun _ => ⟨fun g => absurd g (by decide), fun _ => ?_⟩⟩)
    refine mx_isS hA hk hc (w := 4) (by decide) (by decide) rfl (fun e4 => ⟨fun _ => h4 e4, fun g => absurd g (by decide)⟩) (fun e4 => ⟨fun g => absurd rfl g, fun _ => ?_⟩)
    exact mx_bad hc.2.1 (fun y yf y28 y29 => ⟨n010, hb e e4 hlt y (fB_m hm ⟨yf, y28, y29⟩)⟩)
theorem mx_36 {t : TK} {u0 u : th_St} {k o S n : Nat} {l : List Nat} {K' : Int32 → th_St → Prop} {k0 : th_St → Prop} {x1 x2 : Int32} (hA : kA t) (hm : mS t u0 u k o S n l) (hk : k < kT t) (ho : o ≤ 40) (hl : l.length ≤ 99) (hp : pK l) (ho10 : opn l ≤ 10)
    (hb : (o = 40 ∨ opn l = 10) → ∀ y, fB u0 y 4 (kP t k) → K' 0 y)
    (hgo : o < 40 → opn l < 10 → ∀ u', mS t u0 u' (k + 1) (o + 1) S n l → (∀ a, u'.2.2.1 a = u.2.2.1 a) → ((0 ≤ x2 → ((¬ x2 = (4 : Int32) → M_one_151 K' x2 u') ∧ (x2 = (4 : Int32) → (vp_in (1 : Int32) 2 ∧ ∀ y_6 : Int32, y_6 = u'.2.2.1 11 ((1 : Int32)).toNatClampNeg → M_takes (0 : Int32) (y_6 - (1 : Int32)) u' (fun r_8 u_7 => ((¬ r_8 = 0 → (vp_in ((200 : Int32) + (u_7.1 21)) 400 ∧ ∀ u_9 : th_St, u_9 = th_sa u_7 19 (upd (u_7.2.2.1 19) (((200 : Int32) + (u_7.1 21))).toNatClampNeg (u_7.1 33)) → M_one_151 K' x2 u_9)) ∧ (r_8 = 0 → (((0 : Int32) = 0 ∨ (0 : Int32) = 1) ∧ K' (0 : Int32) u_7)))))))) ∧ (¬ 0 ≤ x2 → ((x1 = 0 → M_one_97 K' k0 (13 : Int32) (u'.1 22) u') ∧ (¬ x1 = 0 → M_one_97 K' k0 (10 : Int32) (u'.1 22) u'))))) : M_one_36 K' k0 x1 x2 u := by
  have hc := hm.2.1
  obtain ⟨m1, m2, m3, m4, m5, m6, m7⟩ := id hm
  unfold M_one_36 M_one_54
  have c40 : (nI o = (40 : Int32)) = (o = 40) := ni_eq (b := 40) (by omega) (by omega)
  rw [m3, c40]
  refine br1 (fun q => mx_bad hc.2.1 (fun y yf y28 y29 => ⟨n010, hb (Or.inl q) y (fB_m hm ⟨yf, y28, y29⟩)⟩)) (fun q => ?_)
  refine mx_open m6 hl hp m7 ?_
  have c10 : (nI (opn l) = (10 : Int32)) = (opn l = 10) := ni_eq (b := 10) (by omega) (by omega)
  rw [c10]
  refine br2 (fun q2 u3 e3 => ?_) (fun q2 => mx_bad hc.2.1 (fun y yf y28 y29 => ⟨n010, hb (Or.inr q2) y (fB_m hm ⟨yf, y28, y29⟩)⟩))
  rw [m3, show nI o + (1 : Int32) = nI (o + 1) from nI_1 o] at e3
  have f3 : mf [23] [] [] u u3 := by rw [e3]; exact mf_i (by decide) (mf_r u)
  have c3 : cM t u3 k := cM_f hc f3 (by rw [e3]; rfl) (by decide) (by decide)
  have m3' : mS t u0 u3 k (o + 1) S n l := ⟨fz_t m1 f3 (lz_f f3 (by decide)) (by decide) (by decide) (by decide), c3, by rw [e3]; exact thi_s _ _ _, (f3.1 21 (by decide)).trans m4, by rw [f3.2.1 11 (by decide)]; exact m5, (f3.1 22 (by decide)).trans m6, by rw [f3.2.1 20 (by decide)]; exact m7⟩
  refine mx_nxt hA c3 hk (fun u4 f4 c4 => ?_)
  exact hgo (by omega) (by omega) u4 (mS_n m3' (mf_w f4 (by decide) (by decide) (by decide)) c4) (fun a => by rw [f4.2.1 a (by simp), f3.2.1 a (by simp)])
theorem mx_97 {t : TK} {u0 u : th_St} {k o S n z : Nat} {l : List Nat} {K' : Int32 → th_St → Prop} {k0 : th_St → Prop} (hm : mS t u0 u k o S n l) (hl : l.length ≤ 98) (h : ∀ u', mS t u0 u' k o S n (z :: l) → loS u u' S → k0 u') : M_one_97 K' k0 (nI z) (u.1 22) u := by
  obtain ⟨m1, m2, m3, m4, m5, m6, m7⟩ := hm
  unfold M_one_97
  rw [m6]
  refine ⟨vp_in_nI (by omega) (by omega), fun u1 e1 u2 e2 => ?_⟩
  rw [ni_cl (by omega)] at e1
  have a22 : u1.1 22 = nI l.length := by rw [e1]; exact m6
  rw [a22, show nI l.length + (1 : Int32) = nI (l.length + 1) from nI_1 _] at e2
  have f2 : mf [22] [20] [] u u2 := by rw [e2, e1]; exact mf_i (by decide) (mf_a (by decide) (mf_r u))
  refine h u2 ⟨fz_t m1 f2 (lz_f f2 (by decide)) (by decide) (by decide) (by decide), cM_f m2 f2 (by rw [e2, e1]; rfl) (by decide) (by decide), (f2.1 23 (by decide)).trans m3, (f2.1 21 (by decide)).trans m4, by rw [f2.2.1 11 (by decide)]; exact m5, by rw [e2, thi_s, List.length_cons], ?_⟩ (loS_f f2 (by decide))
  rw [e2]
  show plP (u1.2.2.1 20) (z :: l)
  rw [e1, tha_s]
  exact plP_p m7

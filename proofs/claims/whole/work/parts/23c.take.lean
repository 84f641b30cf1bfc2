/-! text: tokens taken, on both sides -/
abbrev TK : Type := (Nat → Nat) × Nat × Nat × (Nat → Nat) × (Nat → Nat) × (Nat → Nat) × (Nat → Int32)
abbrev kb (t : TK) : Nat → Nat := t.1
abbrev kL (t : TK) : Nat := t.2.1
abbrev kT (t : TK) : Nat := t.2.2.1
abbrev kK (t : TK) : Nat → Nat := t.2.2.2.1
abbrev kP (t : TK) : Nat → Nat := t.2.2.2.2.1
abbrev kQ (t : TK) : Nat → Nat := t.2.2.2.2.2.1
abbrev kV (t : TK) : Nat → Int32 := t.2.2.2.2.2.2
def kA (t : TK) : Prop := tkA (kb t) (kL t) (kT t) (kK t) (kP t) (kQ t) (kV t)
def cX (t : TK) (x : xs_St) (k : Nat) : Prop := tkX x (kT t + 1) (kK t) (kP t) (kV t) ∧ xi x 205 = nI k ∧ xr x 206 = some (kK t k) ∧ k ≤ kT t
def cM (t : TK) (u : th_St) (k : Nat) : Prop := bM u (kL t) (kb t) ∧ u.1 25 = nI (kP t k) ∧ (k < kT t → u.1 4 = nI (kQ t (k + 1))) ∧ mTk u (kK t k) (kV t k) (kL t)
theorem kA_27 {t : TK} (h : kA t) {k : Nat} (hk : k ≤ kT t) : kK t k < 27 := by
  obtain ⟨hT, htb, hKT, -⟩ := h
  rcases Nat.lt_or_ge k (kT t) with g | g
  · obtain ⟨-, -, -, -, hkd, -⟩ := htb.2 k g
    rcases hkd with ⟨-, h2, -⟩ | ⟨-, ⟨-, -, h2⟩ | ⟨-, h2⟩⟩
    · exact h2
    · omega
    · omega
  · rw [show k = kT t by omega, hKT]; decide
theorem kA_l {t : TK} (h : kA t) {k : Nat} (hk : k ≤ kT t) (h0 : kK t k ≠ 0) : k < kT t := by
  rcases Nat.lt_or_ge k (kT t) with g | g
  · exact g
  · exact absurd (by rw [show k = kT t by omega]; exact h.2.2.1) h0
theorem nmZ_b {b : Nat → Nat} {p : Nat} : ∀ i, (∀ j, j < i → 48 ≤ b (p + j) ∧ b (p + j) ≤ 57) → 0 ≤ nmZ b p i ∧ nmZ b p i + 1 ≤ 10 ^ i := by
  intro i
  induction i with
  | zero => intro _; rw [nmZ]; decide
  | succ i ih =>
    intro h
    have h1 := ih (fun j hj => h j (by omega))
    have h2 := h i (by omega)
    rw [nmZ, Int.pow_succ]
    omega
theorem kA_v {t : TK} (h : kA t) {k : Nat} (hk : k ≤ kT t) (h2 : kK t k = 2) : ∃ v : Nat, v ≤ 9999 ∧ kV t k = nI v := by
  have hl := kA_l h hk (by omega)
  obtain ⟨-, hp1, -, ⟨e, he, hPe⟩, hkd, hvl⟩ := h.2.1.2 k hl
  rcases hkd with ⟨h3, -, -⟩ | ⟨-, ⟨hd, hd4, -⟩ | ⟨-, h3⟩⟩
  · omega
  · have hb := nmZ_b (b := kb t) (p := kP t k) (min (kQ t (k + 1) - kP t k) 4) (fun j hj => hd (kP t k + j) (by omega) (by omega))
    have hp : (10 : Int) ^ (min (kQ t (k + 1) - kP t k) 4) ≤ 10 ^ 4 := by
      have : ∀ a : Fin 5, (10 : Int) ^ a.val ≤ 10 ^ 4 := by decide
      exact this ⟨min (kQ t (k + 1) - kP t k) 4, by omega⟩
    rw [show (10 : Int) ^ 4 = 10000 from rfl] at hp
    refine ⟨(nmZ (kb t) (kP t k) (min (kQ t (k + 1) - kP t k) 4)).toNat, by omega, ?_⟩
    rw [hvl, ← ii_nat, Int.toNat_of_nonneg hb.1]
  · omega
theorem cX_h {t : TK} {x y : xs_St} {k : Nat} {I A O : List Nat} (h : cX t x k) (hy : xh I A O x y) (hr : xr y 206 = xr x 206) (hI : 203 ∉ I ∧ 205 ∉ I) (hA : 201 ∉ A ∧ 202 ∉ A) (hO : 200 ∉ O) : cX t y k := by
  obtain ⟨⟨h1, h2⟩, h3, h4, h5⟩ := h
  refine ⟨⟨(hy.1 203 hI.1).trans h1, fun j hj => ?_⟩, (hy.1 205 hI.2).trans h3, hr.trans h4, h5⟩
  rw [hy.2.2.2.2.1 200 hO, hy.2.1 201 hA.1, hy.2.1 202 hA.2]; exact h2 j hj
theorem sx_adv {t : TK} {x : xs_St} {k : Nat} {K : xs_St → Prop} (hA : kA t) (hc : cX t x k) (hk : k < kT t) (h : ∀ y, xh [205] [] [] x y → cX t y (k + 1) → K y) : X_RD_advance x K := by
  have hT := hA.1
  obtain ⟨⟨h1, h2⟩, h3, h4, h5⟩ := hc
  unfold X_RD_advance X_RD_advance_36
  rw [h1, h3, show nI k + (1 : Int32) = nI (k + 1) from nI_1 k, ni_le (by omega) (by omega)]
  refine ⟨fun g => by omega, fun _ u1 e1 => ?_⟩
  have a1 : xi u1 205 = nI (k + 1) := by rw [e1]; exact xsi_s _ _ _
  rw [a1]
  refine ⟨vp_in_nI (by omega) (by omega), fun y2 e2 u3 e3 => ?_⟩
  have a2 : xo u1 200 = xo x 200 := by rw [e1]; rfl
  rw [ni_cl (by omega), a2, (h2 (k + 1) (by omega)).1] at e2
  subst e2
  have f3 : xh [205] [] [] x u3 := by rw [e3, e1]; exact xh_q (xh_i (by decide) (xh_r x))
  refine h u3 f3 ⟨⟨(f3.1 203 (by decide)).trans h1, fun j hj => ?_⟩, by rw [e3]; exact a1, by rw [e3]; exact xu_s u1.2.1 206 (some (kK t (k + 1))), by omega⟩
  rw [f3.2.2.2.2.1 200 (by decide), f3.2.1 201 (by decide), f3.2.1 202 (by decide)]; exact h2 j hj
def fX (x y : xs_St) (kd pl : Nat) : Prop := xh [212, 213] [] [] x y ∧ xi y 212 = nI kd ∧ xi y 213 = nI pl
theorem sx_flt {t : TK} {x : xs_St} {k kd : Nat} {K : Int32 → xs_St → Prop} (hA : kA t) (hc : cX t x k) (h : ∀ y, fX x y kd (kP t k) → K 0 y) : X_RD_faulty (nI kd) x K := by
  have hT := hA.1
  obtain ⟨⟨h1, h2⟩, h3, h4, h5⟩ := hc
  unfold X_RD_faulty X_RD_faulty_36 X_RD_faulty_37
  intro u1 e1
  have a1 : xi u1 205 = nI k := by rw [e1, xsi_n (by decide)]; exact h3
  have a2 : xi u1 203 = nI (kT t + 1) := by rw [e1, xsi_n (by decide)]; exact h1
  have a3 : xa u1 201 = xa x 201 := by rw [e1]; rfl
  have c0 : (nI k < (0 : Int32)) = (k < 0) := ni_lt (b := 0) (by omega) (by omega)
  rw [a1, a2, c0, ni_le (by omega) (by omega)]
  refine ⟨fun g => by omega, fun _ => ⟨fun g => by omega, fun _ => ⟨vp_in_nI (by omega) (by omega), fun y2 e2 u3 e3 => ⟨n010, ?_⟩⟩⟩⟩
  rw [ni_cl (by omega), a3, (h2 k (by omega)).2.1] at e2
  subst e2
  refine h u3 ⟨by rw [e3, e1]; exact xh_i (by decide) (xh_i (by decide) (xh_r x)), by rw [e3, xsi_n (by decide), e1]; exact xsi_s _ _ _, by rw [e3]; exact xsi_s _ _ _⟩
theorem sx_take {t : TK} {x : xs_St} {k w : Nat} {K : Int32 → xs_St → Prop} (hA : kA t) (hc : cX t x k) (hw : w ≠ 0) (h1 : kK t k = w → ∀ y, xh [205] [] [] x y → cX t y (k + 1) → K 1 y) (h0 : kK t k ≠ w → ∀ y, fX x y 1 (kP t k) → K 0 y) : X_RD_take (some w) x K := by
  unfold X_RD_take
  have h4 := hc.2.2.1
  rw [h4]
  refine br1 (fun q => ?_) (fun q => ?_)
  · injection q with q
    exact sx_adv hA hc (kA_l hA hc.2.2.2 (by omega)) (fun y yf yc => ⟨n011, h1 q y yf yc⟩)
  · exact sx_flt (kd := 1) hA hc (fun y yf => ⟨n010, h0 (fun e => q (by rw [e])) y yf⟩)
theorem sx_num {t : TK} {x : xs_St} {k : Nat} {a1 a2 : Int32} {lo hi : Int} {K : Int32 → xs_St → Prop} (hA : kA t) (hc : cX t x k) (e1 : a1.toInt = lo) (e2 : a2.toInt = hi)
    (h1 : kK t k = 2 → ∀ v : Nat, kV t k = nI v → v ≤ 9999 → lo ≤ v → (v : Int) ≤ hi → ∀ y, xh [205, 207] [] [] x y → cX t y (k + 1) → xi y 207 = nI v → K 1 y)
    (h0 : kK t k ≠ 2 → ∀ y, fX x y 1 (kP t k) → K 0 y) (h2 : kK t k = 2 → ∀ v : Nat, kV t k = nI v → v ≤ 9999 → ¬ (lo ≤ v ∧ (v : Int) ≤ hi) → ∀ y, fX x y 2 (kP t k) → K 0 y) : X_RD_takeNumber a1 a2 x K := by
  have hT := hA.1
  obtain ⟨⟨g1, g2⟩, g3, g4, g5⟩ := id hc
  unfold X_RD_takeNumber X_RD_takeNumber_28 X_RD_takeNumber_60
  rw [g4]
  refine br2 (fun q => sx_flt (kd := 1) hA hc (fun y yf => ⟨n010, h0 (fun e => q (by rw [e])) y yf⟩)) (fun q => ?_)
  injection q with q
  obtain ⟨v, hv, ev⟩ := kA_v hA hc.2.2.2 q
  have c0 : (nI k < (0 : Int32)) = (k < 0) := ni_lt (b := 0) (by omega) (by omega)
  rw [g3, g1, c0, ni_lt (by omega) (by omega)]
  have e202 : ∀ y, y = xa x 202 (nI k).toNatClampNeg → y = nI v := fun y e => by rw [e, ni_cl (by omega), (g2 k (by omega)).2.2.1, ev]
  refine ⟨fun g => by omega, fun _ => ⟨fun _ => ⟨vp_in_nI (by omega) (by omega), fun y1 f1 => ?_⟩, fun g => by omega⟩⟩
  have f1 := e202 y1 f1
  subst f1
  rw [ti_lt, ti_nI (by omega), e1]
  refine br1 (fun p => sx_flt (kd := 2) hA hc (fun y yf => ⟨n010, h2 q v ev hv (by omega) y yf⟩)) (fun p => ⟨vp_in_nI (by omega) (by omega), fun y2 f2 => ?_⟩)
  have f2 := e202 y2 f2
  subst f2
  rw [ti_le, ti_nI (by omega), e2]
  refine br1 (fun p2 => ⟨vp_in_nI (by omega) (by omega), fun y3 f3 u4 e4 => ?_⟩) (fun p2 => sx_flt (kd := 2) hA hc (fun y yf => ⟨n010, h2 q v ev hv (by omega) y yf⟩))
  have f3 := e202 y3 f3
  subst f3
  have f4 : xh [205, 207] [] [] x u4 := by rw [e4]; exact xh_i (by decide) (xh_r x)
  have c4 : cX t u4 k := cX_h (I := [207]) (A := []) (O := []) hc (by rw [e4]; exact xh_i (by decide) (xh_r x)) (by rw [e4]; rfl) (by decide) (by decide) (by decide)
  refine sx_adv hA c4 (kA_l hA hc.2.2.2 (by omega)) (fun y yf yc => ⟨n011, h1 q v ev hv (by omega) p2 y (xh_t f4 (xh_w yf (by decide) (by decide) (by decide))) yc ?_⟩)
  rw [yf.1 207 (by decide), e4]; exact xsi_s _ _ _
/-- the reference -/
theorem cM_f {t : TK} {u y : th_St} {k : Nat} {I A J : List Nat} (h : cM t u k) (hy : mf I A J u y) (hw : y.2.1 = u.2.1) (hI : 3 ∉ I ∧ 4 ∉ I ∧ 24 ∉ I ∧ 25 ∉ I ∧ 27 ∉ I) (hA : 1 ∉ A) : cM t y k := by
  obtain ⟨h1, h2, h3, h4⟩ := h
  refine ⟨bM_f h1 hy hI.1 hA, (hy.1 25 hI.2.2.2.1).trans h2, fun g => (hy.1 4 hI.2.1).trans (h3 g), ?_⟩
  unfold mTk at *
  rw [hy.1 24 hI.2.2.1, hy.1 27 hI.2.2.2.2, hw]; exact h4
theorem mx_bad {u : th_St} {a : Int32} {pl : Nat} {K : Int32 → th_St → Prop} (h25 : u.1 25 = nI pl) (h : ∀ y, mf [28, 29] [] [] u y → y.1 28 = a → y.1 29 = nI pl → K 0 y) : M_bad a u K := by
  unfold M_bad
  intro u1 e1 u2 e2
  have a25 : u1.1 25 = nI pl := by rw [e1, thi_n (by decide)]; exact h25
  rw [a25] at e2
  exact ⟨n010, h u2 (by rw [e2, e1]; exact mf_i (by decide) (mf_i (by decide) (mf_r u))) (by rw [e2, thi_n (by decide), e1]; exact thi_s _ _ _) (by rw [e2]; exact thi_s _ _ _)⟩
theorem mx_nxt {t : TK} {u : th_St} {k : Nat} {K : th_St → Prop} (hA : kA t) (hc : cM t u k) (hk : k < kT t) (h : ∀ y, mf [4, 24, 25, 26, 27] [] [] u y → cM t y (k + 1) → K y) : M_next_ u K := by
  obtain ⟨h1, h2, h3, h4⟩ := hc
  refine mx_next h1 hA (show k + 1 ≤ kT t by omega) (h3 hk) (fun y yf y25 y4 ytk => h y yf ⟨bM_f h1 yf (by decide) (by decide), y25, y4, ytk⟩)
theorem wC_i : ∀ a : Fin 27, ∀ c : Fin 27, 9 ≤ a.val → 9 ≤ c.val → wC a.val = wC c.val → a = c := by decide +kernel
theorem m24 {t : TK} {u : th_St} {k : Nat} (hA : kA t) (hk : k ≤ kT t) (hc : cM t u k) : (u.1 24 = 0 ∧ kK t k = 0 ∧ kL t ≤ 400) ∨ (u.1 24 = 4 ∧ ((kK t k = 0 ∧ 400 < kL t) ∨ kK t k = 1)) ∨ (u.1 24 = 1 ∧ kK t k = 1 ∧ ∀ w, 9 ≤ w → w < 27 → u.2.1 32 ≠ wC w) ∨ (u.1 24 = 2 ∧ kK t k = 2 ∧ u.1 27 = kV t k) ∨ (u.1 24 = 3 ∧ (3 ≤ kK t k ∧ kK t k ≤ 8) ∧ u.1 27 = nI (chN (kK t k) 0)) ∨ (u.1 24 = 1 ∧ (9 ≤ kK t k ∧ kK t k < 27) ∧ u.2.1 32 = wC (kK t k)) := by
  have h27 := kA_27 hA hk
  obtain ⟨-, -, -, t0, t1, t2, t3, t4⟩ := hc
  rcases (show kK t k = 0 ∨ kK t k = 1 ∨ kK t k = 2 ∨ (3 ≤ kK t k ∧ kK t k ≤ 8) ∨ (9 ≤ kK t k ∧ kK t k < 27) by omega) with e | e | e | e | e
  · rcases Nat.lt_or_ge 400 (kL t) with g | g
    · exact Or.inr (Or.inl ⟨(t0 e).2 g, Or.inl ⟨e, g⟩⟩)
    · exact Or.inl ⟨(t0 e).1 g, e, g⟩
  · rcases t1 e with g | g
    · exact Or.inr (Or.inl ⟨g, Or.inr e⟩)
    · exact Or.inr (Or.inr (Or.inl ⟨g.1, e, g.2⟩))
  · exact Or.inr (Or.inr (Or.inr (Or.inl ⟨(t2 e).1, e, (t2 e).2⟩)))
  · exact Or.inr (Or.inr (Or.inr (Or.inr (Or.inl ⟨(t3 e.1 e.2).1, e, (t3 e.1 e.2).2⟩))))
  · exact Or.inr (Or.inr (Or.inr (Or.inr (Or.inr ⟨(t4 e.1 e.2).1, e, (t4 e.1 e.2).2⟩))))
/-- the kind is a word's just when token and word say so -/
theorem m_word {t : TK} {u : th_St} {k w : Nat} (hA : kA t) (hk : k ≤ kT t) (hc : cM t u k) (h9 : 9 ≤ w) (h27 : w < 27) : (u.1 24 = 1 ∧ u.2.1 32 = wC w) ↔ kK t k = w := by
  constructor
  · rintro ⟨g1, g2⟩
    rcases m24 hA hk hc with ⟨e, -⟩ | ⟨e, -⟩ | ⟨-, -, e⟩ | ⟨e, -⟩ | ⟨e, -⟩ | ⟨-, e, e2⟩
    · rw [g1] at e; exact absurd e (by decide)
    · rw [g1] at e; exact absurd e (by decide)
    · exact absurd g2 (e w h9 h27)
    · rw [g1] at e; exact absurd e (by decide)
    · rw [g1] at e; exact absurd e (by decide)
    · have := wC_i ⟨kK t k, e.2⟩ ⟨w, h27⟩ e.1 h9 (e2.symm.trans g2)
      exact congrArg Fin.val this
  · intro e
    have := hc.2.2.2.2.2.2.2
    rw [e] at this
    exact this h9 h27
theorem mx_isW {t : TK} {u : th_St} {k w : Nat} {c : Int64} {K : Int32 → th_St → Prop} (hA : kA t) (hk : k ≤ kT t) (hc : cM t u k) (h9 : 9 ≤ w) (h27 : w < 27) (ec : c = wC w) (h1 : kK t k = w → K 1 u) (h0 : kK t k ≠ w → K 0 u) : M_isWord c u K := by
  have hm := m_word hA hk hc h9 h27
  subst ec
  unfold M_isWord M_isWord_21 M_isWord_22
  rw [show (0 : Int32) = nI 0 from rfl, lgn_eq]
  refine br2 (fun q => ⟨n010, h0 (fun e => q (hm.mpr e).1)⟩) (fun q => br2 (fun q2 => ⟨n010, h0 (fun e => q2 (hm.mpr e).2)⟩) (fun q2 => ⟨n011, h1 (hm.mp ⟨q, q2⟩)⟩))
theorem ch_i : ∀ a : Fin 9, ∀ c : Fin 9, 3 ≤ a.val → 3 ≤ c.val → chN a.val 0 = chN c.val 0 → a = c := by decide
theorem ch_b : ∀ a : Fin 9, chN a.val 0 < 128 := by decide
theorem m_sign {t : TK} {u : th_St} {k w : Nat} (hA : kA t) (hk : k ≤ kT t) (hc : cM t u k) (h3 : 3 ≤ w) (h8 : w ≤ 8) : (u.1 24 = 3 ∧ u.1 27 = nI (chN w 0)) ↔ kK t k = w := by
  constructor
  · rintro ⟨g1, g2⟩
    rcases m24 hA hk hc with ⟨e, -⟩ | ⟨e, -⟩ | ⟨e, -, -⟩ | ⟨e, -⟩ | ⟨-, e, e2⟩ | ⟨e, -⟩
    · rw [g1] at e; exact absurd e (by decide)
    · rw [g1] at e; exact absurd e (by decide)
    · rw [g1] at e; exact absurd e (by decide)
    · rw [g1] at e; exact absurd e (by decide)
    · have b1 : chN (kK t k) 0 < 128 := ch_b ⟨kK t k, by omega⟩
      have b2 : chN w 0 < 128 := ch_b ⟨w, by omega⟩
      have h := nI_inj (by omega) (by omega) (e2.symm.trans g2)
      exact congrArg Fin.val (ch_i ⟨kK t k, by omega⟩ ⟨w, by omega⟩ e.1 h3 h)
    · rw [g1] at e; exact absurd e (by decide)
  · intro e
    have := hc.2.2.2.2.2.2.1
    rw [e] at this
    exact this h3 h8
theorem mx_isS {t : TK} {u : th_St} {k w : Nat} {c : Int32} {K : Int32 → th_St → Prop} (hA : kA t) (hk : k ≤ kT t) (hc : cM t u k) (h3 : 3 ≤ w) (h8 : w ≤ 8) (ec : c = nI (chN w 0)) (h1 : kK t k = w → K 1 u) (h0 : kK t k ≠ w → K 0 u) : M_isSign c u K := by
  have hm := m_sign hA hk hc h3 h8
  subst ec
  unfold M_isSign M_isSign_20 M_isSign_21
  refine br2 (fun q => ⟨n010, h0 (fun e => q (hm.mpr e).1)⟩) (fun q => br2 (fun q2 => ⟨n010, h0 (fun e => q2 (hm.mpr e).2)⟩) (fun q2 => ⟨n011, h1 (hm.mp ⟨q, q2⟩)⟩))
def fM (u y : th_St) (kd pl : Nat) : Prop := mf [28, 29] [] [] u y ∧ y.1 28 = nI kd ∧ y.1 29 = nI pl
theorem mx_sgn {t : TK} {u : th_St} {k w : Nat} {c : Int32} {K : Int32 → th_St → Prop} (hA : kA t) (hk : k ≤ kT t) (hc : cM t u k) (h3 : 3 ≤ w) (h8 : w ≤ 8) (ec : c = nI (chN w 0)) (h1 : kK t k = w → ∀ y, mf [4, 24, 25, 26, 27] [] [] u y → cM t y (k + 1) → K 1 y) (h0 : kK t k ≠ w → ∀ y, fM u y 1 (kP t k) → K 0 y) : M_sign c u K := by
  unfold M_sign
  refine mx_isS hA hk hc h3 h8 ec (fun e => ⟨fun _ => ?_, fun g => absurd g (by decide)⟩) (fun e => ⟨fun g => absurd rfl g, fun _ => ?_⟩)
  · exact mx_nxt hA hc (kA_l hA hk (by omega)) (fun y yf yc => ⟨n011, h1 e y yf yc⟩)
  · exact mx_bad hc.2.1 (fun y yf y28 y29 => ⟨n010, h0 e y ⟨yf, y28, y29⟩⟩)
theorem mx_tkW {t : TK} {u : th_St} {k w : Nat} {c : Int64} {K : Int32 → th_St → Prop} (hA : kA t) (hk : k ≤ kT t) (hc : cM t u k) (h9 : 9 ≤ w) (h27 : w < 27) (ec : c = wC w) (h1 : kK t k = w → ∀ y, mf [4, 24, 25, 26, 27] [] [] u y → cM t y (k + 1) → K 1 y) (h0 : kK t k ≠ w → ∀ y, fM u y 1 (kP t k) → K 0 y) : M_takesWord c u K := by
  unfold M_takesWord
  refine mx_isW hA hk hc h9 h27 ec (fun e => ⟨fun _ => ?_, fun g => absurd g (by decide)⟩) (fun e => ⟨fun g => absurd rfl g, fun _ => ?_⟩)
  · exact mx_nxt hA hc (kA_l hA hk (by omega)) (fun y yf yc => ⟨n011, h1 e y yf yc⟩)
  · exact mx_bad hc.2.1 (fun y yf y28 y29 => ⟨n010, h0 e y ⟨yf, y28, y29⟩⟩)
theorem m_num {t : TK} {u : th_St} {k : Nat} (hA : kA t) (hk : k ≤ kT t) (hc : cM t u k) : u.1 24 = 2 ↔ kK t k = 2 := by
  constructor
  · intro g
    rcases m24 hA hk hc with ⟨e, -⟩ | ⟨e, -⟩ | ⟨e, -, -⟩ | ⟨-, e, -⟩ | ⟨e, -⟩ | ⟨e, -⟩
    · rw [g] at e; exact absurd e (by decide)
    · rw [g] at e; exact absurd e (by decide)
    · rw [g] at e; exact absurd e (by decide)
    · exact e
    · rw [g] at e; exact absurd e (by decide)
    · rw [g] at e; exact absurd e (by decide)
  · intro e
    exact (hc.2.2.2.2.2.1 e).1
theorem mx_tks {t : TK} {u : th_St} {k : Nat} {a1 a2 : Int32} {lo hi : Int} {K : Int32 → th_St → Prop} (hA : kA t) (hk : k ≤ kT t) (hc : cM t u k) (e1 : a1.toInt = lo) (e2 : a2.toInt = hi)
    (h1 : kK t k = 2 → ∀ v : Nat, kV t k = nI v → v ≤ 9999 → lo ≤ v → (v : Int) ≤ hi → ∀ y, mf [4, 24, 25, 26, 27, 33] [] [] u y → cM t y (k + 1) → y.1 33 = nI v → K 1 y)
    (h0 : kK t k ≠ 2 → ∀ y, fM u y 1 (kP t k) → K 0 y) (h2 : kK t k = 2 → ∀ v : Nat, kV t k = nI v → v ≤ 9999 → ¬ (lo ≤ v ∧ (v : Int) ≤ hi) → ∀ y, fM u y 2 (kP t k) → K 0 y) : M_takes a1 a2 u K := by
  have hm := m_num hA hk hc
  unfold M_takes
  refine br1 (fun q => ?_) (fun q => mx_bad hc.2.1 (fun y yf y28 y29 => ⟨n010, h0 (fun e => q (hm.mpr e)) y ⟨yf, y28, y29⟩⟩))
  have q2 := hm.mp q
  obtain ⟨v, hv, ev⟩ := kA_v hA hk q2
  have h27 : u.1 27 = nI v := (hc.2.2.2.2.2.1 q2).2.trans ev
  rw [h27]
  refine mx_is2 e1 e2 (fun p1 p2 => ⟨fun _ u3 e3 => ?_, fun g => absurd g (by decide)⟩) (fun p => ⟨fun g => absurd rfl g, fun _ => ?_⟩)
  · rw [h27] at e3
    rw [ti_nI (by omega)] at p1 p2
    have f3 : mf [33] [] [] u u3 := by rw [e3]; exact mf_i (by decide) (mf_r u)
    refine mx_nxt hA (cM_f hc f3 (by rw [e3]; rfl) (by decide) (by decide)) (kA_l hA hk (by omega)) (fun y yf yc => ⟨n011, h1 q2 v ev hv p1 p2 y (mf_t (mf_w f3 (by decide) (by decide) (by decide)) (mf_w yf (by decide) (by decide) (by decide))) yc ?_⟩)
    rw [yf.1 33 (by decide), e3]; exact thi_s _ _ _
  · rw [ti_nI (by omega)] at p
    exact mx_bad hc.2.1 (fun y yf y28 y29 => ⟨n010, h2 q2 v ev hv p y ⟨yf, y28, y29⟩⟩)

/-! alarms: the reference -/
/-- answers that wait, the latest at the end -/
def trT (a : Nat → Int32) : List Bool → Prop
  | [] => True
  | b :: l => a l.length = bI b ∧ trT a l
theorem trT_u {a : Nat → Int32} {k : Nat} {v : Int32} : ∀ l : List Bool, l.length ≤ k → trT a l → trT (upd a k v) l := by
  intro l
  induction l with
  | nil => intro _ _; trivial
  | cons b l ih =>
    intro h1 h2
    rw [List.length_cons] at h1
    rw [trT] at h2 ⊢
    exact ⟨by rw [pk_un (by omega)]; exact h2.1, ih (by omega) h2.2⟩
theorem trT_p {a : Nat → Int32} {l : List Bool} {b : Bool} {k : Nat} (hk : k = l.length) (h : trT a l) : trT (upd a k (bI b)) (b :: l) := by
  subst hk
  rw [trT]
  exact ⟨by rw [pk_us], trT_u l (Nat.le_refl _) h⟩
theorem nar_b (b : Bool) : vp_nar .boolean (bI b) = bI b := by cases b <;> decide
section
variable {m : th_St} {n : Nat} {fx : Nat → Bool} {hd : Nat → Int} {N : Nat} {eh ed : Nat → Nat} {rd wd : Nat → Nat → Int} {pg sg nb ft al en : Nat → Nat} {s S g : Nat} {t : Int}
theorem mx_chg {i : Nat} {K : Int32 → th_St → Prop} (hck : ckM m n fx hd N eh ed rd t) (hg : g < thr eh ed t N) (h40 : thr eh ed t N ≤ 40) (hn : n ≤ 48) (hi : i < n) (h : K (iI ((flG n fx hd rd (pthc (fun h => qF eh ed t h N) (g + 1))).1 i - (flG n fx hd rd (pthc (fun h => qF eh ed t h N) g)).1 i)) m) : M_change (nI i) (nI g) m K := by
  unfold M_change
  rw [show nI g + (1 : Int32) = nI (g + 1) from nI_1 g, show (48 : Int32) = nI 48 from rfl, pk_mul, pk_mul, nI_add, nI_add]
  refine ⟨vp_in_nI (by omega) (by omega), fun y1 e1 => ?_⟩
  rw [ni_cl (by omega), hck.2.1 (g + 1) i (by omega) hi] at e1
  subst e1
  refine ⟨vp_in_nI (by omega) (by omega), fun y2 e2 => ?_⟩
  rw [ni_cl (by omega), hck.2.1 g i (by omega) hi] at e2
  subst e2
  rw [ii_sub]; exact h
theorem mx_plc {i : Nat} {K : Int32 → th_St → Prop} (hck : ckM m n fx hd N eh ed rd t) (hg : g < thr eh ed t N) (h40 : thr eh ed t N ≤ 40) (hn : n ≤ 48) (hi : i < n) (hh : ∀ i, i < n → 1 ≤ hd i) (hr : ∀ j i, -99 ≤ rd j i ∧ rd j i ≤ 99) (h : K (nI (flL n fx hd rd (pthc (fun h => qF eh ed t h N) (g + 1)) i)) m) : M_change (nI i) (nI g) m (fun r u => M_plain r u K) := by
  have b1 := flG_b (fx := fx) hh hr (pthc (fun h => qF eh ed t h N) (g + 1)) i hi
  have b2 := flG_b (fx := fx) hh hr (pthc (fun h => qF eh ed t h N) g) i hi
  rw [pthc_l] at b1 b2
  refine mx_chg hck hg h40 hn hi ?_
  exact mx_plainZ (by omega) (by omega) h
theorem mx_asks {K : Int32 → th_St → Prop} (hck : ckM m n fx hd N eh ed rd t) (hg : g < thr eh ed t N) (h40 : thr eh ed t N ≤ 40) (h11 : m.2.2.1 11 0 = nI n) (hn : n ≤ 48) (hh : ∀ i, i < n → 1 ≤ hd i) (hr : ∀ j i, -99 ≤ rd j i ∧ rd j i ≤ 99) (hpg : pgM m 0 n S pg sg nb ft) (hs : s < S) (hk : pg s ≤ 4) (h : K (nI (msr n fx hd rd pg ft (pthc (fun h => qF eh ed t h N) (g + 1)) s)) m) : M_asks (nI s) (nI g) m K := by
  have h80 := hpg.1
  have hv : vp_in (nI s) 400 := vp_in_nI (by omega) (by omega)
  have hcl : (nI s).toNatClampNeg = s := ni_cl (by omega)
  obtain ⟨q16, q⟩ := hpg.2 s hs
  have q := (q hk).2.2
  rw [Nat.zero_add] at q16 q
  have hb : ∀ i, i < n → flL n fx hd rd (pthc (fun h => qF eh ed t h N) (g + 1)) i ≤ 16000 := fun i hi => flL_b hh hr (by rw [pthc_l]; omega) hi
  unfold M_asks
  refine lqe6 (F := M_asks_8_lp K) (G := M_asks_8 K) (fun _ _ _ _ _ _ _ => rfl) (fun d a1 a2 a3 a4 a5 u => a1 = nI s ∧ a2 = nI g ∧ u = m ∧ ∃ i, a5 = nI i ∧ i + d = n ∧ a3 = nI (mxT (flL n fx hd rd (pthc (fun h => qF eh ed t h N) (g + 1))) i) ∧ a4 = nI (fsT (flL n fx hd rd (pthc (fun h => qF eh ed t h N) (g + 1))) i)) ?_ n _ _ _ _ _ _ ⟨rfl, rfl, rfl, 0, rfl, by omega, rfl, rfl⟩
  rintro kk d a1 a2 a3 a4 a5 u ⟨rfl, rfl, rfl, i, rfl, hid, rfl, rfl⟩ ih
  unfold M_asks_8 M_asks_132
  refine ⟨vp_in_nI (n := 0) (by omega) (by omega), fun y1 e1 => ?_⟩
  have e1 : y1 = nI n := by rw [e1]; exact h11
  subst e1
  rw [ni_le (by omega) (by omega)]
  refine br1 (fun q1 => ?_) (fun q1 => ?_)
  · have ei : i = n := by omega
    subst ei
    unfold msr at h
    have k0 : ∀ y, y = u.2.2.1 16 (nI s).toNatClampNeg → y = nI (pg s) := fun y e => by rw [e, hcl]; exact q16
    have cz : ∀ z : Nat, z ≤ 12 → (nI (pg s) = nI z) = (pg s = z) := fun z hz => ni_eq (by omega) (by omega)
    refine ⟨hv, fun y2 e2 => ?_⟩
    have e2 := k0 y2 e2
    subst e2
    rw [show (0 : Int32) = nI 0 from rfl, cz 0 (by omega)]
    refine br2 (fun p0 => ⟨hv, fun y3 e3 => ?_⟩) (fun p0 => by rw [if_pos p0] at h; exact h)
    have e3 := k0 y3 e3
    subst e3
    rw [if_neg p0] at h
    rw [show (1 : Int32) = nI 1 from rfl, cz 1 (by omega)]
    refine br2 (fun p1 => ⟨hv, fun y4 e4 => ?_⟩) (fun p1 => by rw [if_pos p1] at h; exact h)
    have e4 := k0 y4 e4
    subst e4
    rw [if_neg p1] at h
    rw [show (2 : Int32) = nI 2 from rfl, cz 2 (by omega)]
    refine br2 (fun p2 => ⟨hv, fun y5 e5 => ?_⟩) (fun p2 => ⟨vp_in_nI (by omega) (by omega), fun y11 e11 => ?_⟩)
    · have e5 := k0 y5 e5
      subst e5
      rw [if_neg p2] at h
      rw [show (3 : Int32) = nI 3 from rfl, cz 3 (by omega)]
      refine br2 (fun p3 => ⟨hv, fun y6 e6 => ?_⟩) (fun p3 => ?_)
      · rw [if_neg p3] at h
        obtain ⟨r1, r2⟩ := q (by omega)
        rw [hcl, r1] at e6
        subst e6
        exact mx_plc hck hg h40 hn r2 hh hr h
      · rw [if_pos p3, pthc_l, Nat.add_sub_cancel] at h; exact h
    · rw [if_pos p2] at h
      rw [ni_cl (by omega), hck.2.2 g hg] at e11
      subst e11
      exact h
  · refine mx_plc hck hg h40 hn (by omega) hh hr ?_
    intro y16 e16
    rw [nI_add] at e16
    subst e16
    have hbi := hb i (by omega)
    have hmx := mxT_b i (fun s hs => hb s (by omega))
    rw [ni_le (by omega) (by omega)]
    have go : ∀ v, v = mxT (flL n fx hd rd (pthc (fun h => qF eh ed t h N) (g + 1))) (i + 1) → M_asks_50 K kk (nI s) (nI g) (nI (fsT (flL n fx hd rd (pthc (fun h => qF eh ed t h N) (g + 1))) i + flL n fx hd rd (pthc (fun h => qF eh ed t h N) (g + 1)) i)) (nI i) (nI v) u := by
      intro v hv2
      unfold M_asks_50
      intro x5 e5
      subst e5
      subst hv2
      exact ih (d - 1) _ _ _ _ _ _ (by omega) ⟨rfl, rfl, rfl, i + 1, nI_1 i, by omega, rfl, rfl⟩
    refine br1 (fun p => go _ ?_) (fun p => go _ ?_)
    · rw [mxT]; omega
    · rw [mxT]; omega
theorem mx_holdsAt {K : Int32 → th_St → Prop} {A k : Nat} (hck : ckM m n fx hd N eh ed rd t) (hg : g < thr eh ed t N) (h40 : thr eh ed t N ≤ 40) (h11 : m.2.2.1 11 0 = nI n) (hn : n ≤ 48) (hh : ∀ i, i < n → 1 ≤ hd i) (hr : ∀ j i, -99 ≤ rd j i ∧ rd j i ≤ 99) (hpg : pgM m 0 n S pg sg nb ft) (hpk : ∀ s, s < S → (pg s ≤ 4 ∨ (10 ≤ pg s ∧ pg s ≤ 12)) ∧ (pg s ≤ 4 → 60 ≤ sg s ∧ sg s ≤ 62 ∧ nb s ≤ 9999)) (hA6 : A ≤ 6) (hal : alM m 0 0 A al en) (hen : en k ≤ en (k + 1) ∧ en (k + 1) ≤ S ∧ pwf pg (en (k + 1) - en k) (en k) 0) (hk : k < A) (h : ∀ y, mf [] [34] [] m y → K (bI (hol n fx hd rd pg sg nb ft (en k) (en (k + 1)) (pthc (fun h => qF eh ed t h N) (g + 1)))) y) : M_holdsAt (nI k) (nI g) m K := by
  have h80 := hpg.1
  obtain ⟨-, q9, q8⟩ := hal.2 k hk
  rw [Nat.zero_add] at q9 q8
  obtain ⟨k1, k2, hwf⟩ := hen
  unfold M_holdsAt
  refine ⟨vp_in_nI (by omega) (by omega), fun y1 e1 => ?_⟩
  rw [ni_cl (by omega), q8] at e1
  subst e1
  refine lqe5 (F := M_holdsAt_10_lp K) (G := M_holdsAt_10 K) (fun _ _ _ _ _ _ => rfl) (fun d a1 a2 a3 a4 u => a1 = nI k ∧ a2 = nI g ∧ mf [] [34] [] m u ∧ ∃ s l, a3 = nI l.length ∧ a4 = nI s ∧ s + d = en (k + 1) ∧ l.length ≤ 40 ∧ trT (u.2.2.1 34) l ∧ pwf pg d s l.length ∧ pev (evS n fx hd rd pg sg nb ft (pthc (fun h => qF eh ed t h N) (g + 1))) pg d s l = hol n fx hd rd pg sg nb ft (en k) (en (k + 1)) (pthc (fun h => qF eh ed t h N) (g + 1))) ?_ (en (k + 1) - en k) _ _ _ _ _ ⟨rfl, rfl, mf_r m, en k, [], rfl, rfl, by omega, by decide, trivial, hwf, rfl⟩
  rintro kk d a1 a2 a3 a4 u ⟨rfl, rfl, uf, s, l, rfl, rfl, hsd, hl40, hT, hw, hev⟩ ih
  have u9 : u.2.2.1 9 k = nI (en (k + 1)) := by rw [uf.2.1 9 (by decide)]; exact q9
  unfold M_holdsAt_10
  refine ⟨vp_in_nI (by omega) (by omega), fun y1 e1 => ?_⟩
  rw [ni_cl (by omega), u9] at e1
  subst e1
  rw [ni_le (by omega) (by omega)]
  cases d with
  | zero =>
    refine ⟨fun _ => ⟨vp_in_nI (n := 0) (by omega) (by omega), fun y2 e2 => ?_⟩, fun q => by omega⟩
    rw [pwf] at hw
    rw [pev] at hev
    cases l with
    | nil => cases hw
    | cons b l =>
      rw [List.length_cons] at hw
      have e2 : y2 = bI b := by
        rw [e2]
        rw [trT, show l.length = 0 by omega] at hT
        exact hT.1
      subst e2
      refine ⟨bI_c b, ?_⟩
      have := h u uf
      rw [← hev] at this
      exact this
  | succ d =>
    refine ⟨fun q => by omega, fun _ => ?_⟩
    have hsS : s < S := by omega
    have hv : vp_in (nI s) 400 := vp_in_nI (by omega) (by omega)
    have hcl : (nI s).toNatClampNeg = s := ni_cl (by omega)
    obtain ⟨q16, qms⟩ := hpg.2 s hsS
    rw [Nat.zero_add] at q16 qms
    obtain ⟨hkd, hms⟩ := hpk s hsS
    have k0 : ∀ y, y = u.2.2.1 16 (nI s).toNatClampNeg → y = nI (pg s) := fun y e => by rw [e, hcl, uf.2.1 16 (by decide)]; exact q16
    have cz : ∀ z : Nat, z ≤ 12 → (nI (pg s) = nI z) = (pg s = z) := fun z hz => ni_eq (by omega) (by omega)
    rw [pwf] at hw
    rw [pev] at hev
    have nxt : ∀ (w : th_St) (l' : List Bool), mf [] [34] [] m w → l'.length ≤ 40 → trT (w.2.2.1 34) l' → pwf pg d (s + 1) l'.length → pst (pg s) (evS n fx hd rd pg sg nb ft (pthc (fun h => qF eh ed t h N) (g + 1)) s) l = l' → M_holdsAt_262 K kk (nI k) (nI g) (nI l'.length) (nI s) w := by
      intro w l' h0 h1 h2 h3 h4
      unfold M_holdsAt_262
      intro x4 e4
      subst e4
      exact ih d _ _ _ _ _ (by omega) ⟨rfl, rfl, h0, s + 1, l', rfl, nI_1 s, by omega, h1, h2, h3, by rw [← h4]; exact hev⟩
    have join : ∀ (y z : Bool) (l' : List Bool), l = y :: z :: l' → (pg s = 11 ∨ pg s = 12) → pwf pg d (s + 1) (l'.length + 1) → M_holdsAt_84 K kk (nI k) (nI g) (nI l.length) (nI s) u := by
      intro y z l' el hor hw'
      subst el
      rw [trT, trT, List.length_cons] at hT
      obtain ⟨t1, t2, t3⟩ := hT
      rw [List.length_cons, List.length_cons] at hl40
      have st : ∀ b : Bool, pst (pg s) (evS n fx hd rd pg sg nb ft (pthc (fun h => qF eh ed t h N) (g + 1)) s) (y :: z :: l') = b :: l' → M_holdsAt_159 K kk (nI k) (nI g) (nI (l'.length + 1)) (nI s) (bI b) (nI l'.length) u := by
        intro b hb
        unfold M_holdsAt_159
        refine ⟨vp_in_nI (by omega) (by omega), fun u1 eu => ?_⟩
        rw [ni_cl (by omega), nar_b] at eu
        have := nxt u1 (b :: l') (by rw [eu]; exact mf_a (by decide) uf) (by rw [List.length_cons]; omega) (by rw [eu, tha_s]; exact trT_p rfl t3) (by rw [List.length_cons]; exact hw') hb
        rw [List.length_cons] at this
        exact this
      unfold M_holdsAt_84 M_holdsAt_154 M_holdsAt_130
      intro x3 e3
      rw [List.length_cons, List.length_cons, show nI (l'.length + 1 + 1) + (-1 : Int32) = nI (l'.length + 1) from nI_m1 _] at e3
      subst e3
      rw [show nI (l'.length + 1) - (1 : Int32) = nI l'.length from pk_sub (a := l'.length + 1) (b := 1) (by omega)]
      refine ⟨hv, fun y2 e2 => ?_⟩
      have e2 := k0 y2 e2
      subst e2
      rw [show (11 : Int32) = nI 11 from rfl, cz 11 (by omega)]
      refine br2 (fun p => ?_) (fun p => ?_)
      · have p12 : pg s = 12 := by omega
        refine ⟨vp_in_nI (by omega) (by omega), fun y3 e3 => ?_⟩
        rw [ni_cl (by omega), t2] at e3
        subst e3
        rw [bI_z]
        refine br2 (fun pz => ?_) (fun pz => ⟨vp_in_nI (by omega) (by omega), fun y4 e4 => ?_⟩)
        · exact st true (by unfold pst; rw [if_neg (by omega), if_neg (by omega), if_pos p12]; cases z <;> simp_all)
        · rw [ni_cl (by omega), t1] at e4
          subst e4
          rw [bI_z]
          refine br1 (fun py => ?_) (fun py => ?_)
          · exact st false (by unfold pst; rw [if_neg (by omega), if_neg (by omega), if_pos p12]; simp [py, pz])
          · exact st true (by unfold pst; rw [if_neg (by omega), if_neg (by omega), if_pos p12]; cases y <;> simp_all)
      · refine ⟨vp_in_nI (by omega) (by omega), fun y3 e3 => ?_⟩
        rw [ni_cl (by omega), t2] at e3
        subst e3
        rw [bI_z]
        refine br1 (fun pz => ?_) (fun pz => ⟨vp_in_nI (by omega) (by omega), fun y4 e4 => ?_⟩)
        · exact st false (by unfold pst; rw [if_neg (by omega), if_pos p]; simp [pz])
        · rw [ni_cl (by omega), t1] at e4
          subst e4
          rw [bI_z]
          refine br1 (fun py => ?_) (fun py => ?_)
          · exact st false (by unfold pst; rw [if_neg (by omega), if_pos p]; simp [py])
          · exact st true (by unfold pst; rw [if_neg (by omega), if_pos p]; cases y <;> cases z <;> simp_all)
    refine ⟨hv, fun y3 e3 => ?_⟩
    have e3 := k0 y3 e3
    subst e3
    rw [show (10 : Int32) = nI 10 from rfl, cz 10 (by omega)]
    refine br2 (fun p10 => ?_) (fun p10 => ?_)
    · rw [if_neg p10] at hw
      refine ⟨hv, fun y4 e4 => ?_⟩
      have e4 := k0 y4 e4
      subst e4
      rw [show (11 : Int32) = nI 11 from rfl, cz 11 (by omega)]
      have jn : (pg s = 11 ∨ pg s = 12) → M_holdsAt_84 K kk (nI k) (nI g) (nI l.length) (nI s) u := by
        intro hor
        rw [if_pos hor] at hw
        cases l with
        | nil => exact absurd hw.1 (by simp)
        | cons b l =>
          cases l with
          | nil => exact absurd hw.1 (by simp)
          | cons b2 l => exact join b b2 l rfl hor (by simpa using hw.2)
      refine br1 (fun p11 => jn (Or.inl p11)) (fun p11 => ⟨hv, fun y5 e5 => ?_⟩)
      have e5 := k0 y5 e5
      subst e5
      rw [show (12 : Int32) = nI 12 from rfl, cz 12 (by omega)]
      refine br2 (fun p12 => ?_) (fun p12 => jn (Or.inr p12))
      rw [if_neg (by omega)] at hw
      have hm : pg s ≤ 4 := hw.1
      obtain ⟨r17, r18, -⟩ := qms hm
      obtain ⟨s1, s2, hnb⟩ := hms hm
      have hmb : msr n fx hd rd pg ft (pthc (fun h => qF eh ed t h N) (g + 1)) s ≤ 1000000 := msr_b hh hr hn (by rw [pthc_l]; omega) (fun e => ((qms hm).2.2 e).2) hm
      have uck : ckM u n fx hd N eh ed rd t := ckM_f hck uf (by decide) (by decide) (by decide)
      have upg : pgM u 0 n S pg sg nb ft := ⟨h80, fun s hs => by rw [uf.2.1 16 (by decide), uf.2.1 17 (by decide), uf.2.1 18 (by decide), uf.2.1 19 (by decide)]; exact hpg.2 s hs⟩
      have u17 : u.2.2.1 17 s = nI (sg s) := by rw [uf.2.1 17 (by decide)]; exact r17
      have u18 : u.2.2.1 18 s = nI (nb s) := by rw [uf.2.1 18 (by decide)]; exact r18
      refine mx_asks uck hg h40 (by rw [uf.2.1 11 (by decide)]; exact h11) hn hh hr upg hsS hm ?_
      have st : ∀ b : Bool, evS n fx hd rd pg sg nb ft (pthc (fun h => qF eh ed t h N) (g + 1)) s = b → M_holdsAt_258 K kk (nI k) (nI g) (nI l.length) (nI s) (bI b) (nI l.length) u := by
        intro b hb
        unfold M_holdsAt_258
        refine ⟨vp_in_nI (by omega) (by omega), fun u1 eu => ?_⟩
        rw [ni_cl (by omega), nar_b] at eu
        intro x3 e3
        subst e3
        have := nxt u1 (b :: l) (by rw [eu]; exact mf_a (by decide) uf) (by rw [List.length_cons]; omega) (by rw [eu, tha_s]; exact trT_p rfl hT) (by rw [List.length_cons]; exact hw.2.2) (by unfold pst; rw [if_neg p10, if_neg p11, if_neg p12, hb])
        rw [List.length_cons] at this
        rw [show nI l.length + (1 : Int32) = nI (l.length + 1) from nI_1 _]
        exact this
      unfold evS at st
      generalize hmm : msr n fx hd rd pg ft (pthc (fun h => qF eh ed t h N) (g + 1)) s = mm at *
      refine ⟨hv, fun y8 e8 => ?_⟩
      rw [hcl, u17] at e8
      subst e8
      rw [show (60 : Int32) = nI 60 from rfl, ni_eq (by omega) (by omega)]
      refine br2 (fun p60 => ⟨hv, fun y9 e9 => ?_⟩) (fun p60 => ⟨hv, fun y9 e9 => ?_⟩)
      · rw [hcl, u17] at e9
        subst e9
        rw [if_neg p60] at st
        rw [show (61 : Int32) = nI 61 from rfl, ni_eq (by omega) (by omega)]
        refine br2 (fun p61 => ⟨hv, fun y10 e10 => ?_⟩) (fun p61 => ⟨hv, fun y10 e10 => ?_⟩)
        · rw [hcl, u18] at e10
          subst e10
          rw [if_neg p61] at st
          rw [ni_le (by omega) (by omega)]
          exact br1 (fun p => st false (decide_eq_false (by omega))) (fun p => st true (decide_eq_true (by omega)))
        · rw [hcl, u18] at e10
          subst e10
          rw [if_pos p61] at st
          rw [ni_eq (by omega) (by omega)]
          exact br2 (fun p => st false (decide_eq_false (by omega))) (fun p => st true (decide_eq_true (by omega)))
      · rw [hcl, u18] at e9
        subst e9
        rw [if_pos p60] at st
        rw [ni_le (by omega) (by omega)]
        exact br1 (fun p => st false (decide_eq_false (by omega))) (fun p => st true (decide_eq_true (by omega)))
    · rw [if_pos p10] at hw
      cases l with
      | nil => exact absurd hw.1 (by simp)
      | cons b l =>
        rw [trT] at hT
        rw [List.length_cons] at hl40 hw
        rw [List.length_cons, show nI (l.length + 1) - (1 : Int32) = nI l.length from pk_sub (a := l.length + 1) (b := 1) (by omega)]
        refine ⟨vp_in_nI (by omega) (by omega), fun y13 e13 => ?_⟩
        rw [ni_cl (by omega), hT.1] at e13
        subst e13
        rw [bI_z]
        have st : ∀ b2 : Bool, b2 = !b → M_holdsAt_56 K kk (nI k) (nI g) (nI (l.length + 1)) (nI s) (bI b2) (nI l.length) u := by
          intro b2 hb2
          unfold M_holdsAt_56
          refine ⟨vp_in_nI (by omega) (by omega), fun u1 eu => ?_⟩
          rw [ni_cl (by omega), nar_b] at eu
          have := nxt u1 (b2 :: l) (by rw [eu]; exact mf_a (by decide) uf) (by rw [List.length_cons]; omega) (by rw [eu, tha_s]; exact trT_p rfl hT.2) (by rw [List.length_cons]; exact hw.2) (by unfold pst; rw [if_pos p10, hb2]; rfl)
          rw [List.length_cons] at this
          exact this
        exact br2 (fun p => st false (by cases b <;> simp_all)) (fun p => st true (by simp [p]))
theorem mx_isAlarm {K : Int32 → th_St → Prop} {A k h : Nat} (hck : ckM m n fx hd N eh ed rd t) (hg : h < thr eh ed t N) (h40 : thr eh ed t N ≤ 40) (h11 : m.2.2.1 11 0 = nI n) (hn : n ≤ 48) (hh : ∀ i, i < n → 1 ≤ hd i) (hr : ∀ j i, -99 ≤ rd j i ∧ rd j i ≤ 99) (hpg : pgM m 0 n S pg sg nb ft) (hpk : ∀ s, s < S → (pg s ≤ 4 ∨ (10 ≤ pg s ∧ pg s ≤ 12)) ∧ (pg s ≤ 4 → 60 ≤ sg s ∧ sg s ≤ 62 ∧ nb s ≤ 9999)) (hA6 : A ≤ 6) (hal : alM m 0 0 A al en) (hen : en k ≤ en (k + 1) ∧ en (k + 1) ≤ S ∧ pwf pg (en (k + 1) - en k) (en k) 0) (hal9 : 1 ≤ al k ∧ al k ≤ 9) (hk : k < A) (hK : ∀ y, mf [] [34] [] m y → K (bI (alm n fx hd rd pg sg nb ft (en k) (en (k + 1)) (al k) (pthc (fun h => qF eh ed t h N) (h + 1)))) y) : M_isAlarm (nI k) (nI h) m K := by
  obtain ⟨q10, -, -⟩ := hal.2 k hk
  rw [Nat.zero_add] at q10
  have hap := alm_p (n := n) (fx := fx) (hd := hd) (rd := rd) (pg := pg) (sg := sg) (nb := nb) (ft := ft) (e0 := en k) (e1 := en (k + 1)) (q := fun h => qF eh ed t h N) (al k) (h + 1)
  unfold M_isAlarm
  refine ⟨vp_in_nI (by omega) (by omega), fun y1 e1 => ?_⟩
  rw [ni_cl (by omega), q10] at e1
  subst e1
  rw [show nI h + (1 : Int32) = nI (h + 1) from nI_1 h, ni_lt (by omega) (by omega)]
  refine br1 (fun p => ?_) (fun p => ?_)
  · unfold M_isAlarm_17
    refine ⟨vp_in_nI (by omega) (by omega), fun y1 e1 => ?_⟩
    intro y2 e2
    refine ⟨1, ?_⟩
    show M_isAlarm_30 K (M_isAlarm_30_lp K 0) (nI k) (nI h) (0 : Int32) y2 m
    unfold M_isAlarm_30 M_isAlarm_54
    have hno : alm n fx hd rd pg sg nb ft (en k) (en (k + 1)) (al k) (pthc (fun h => qF eh ed t h N) (h + 1)) = false := by
      cases e : alm n fx hd rd pg sg nb ft (en k) (en (k + 1)) (al k) (pthc (fun h => qF eh ed t h N) (h + 1)) with
      | false => rfl
      | true => exact absurd (hap.mp e).1 (by omega)
    rw [hno] at hK
    exact br1 (fun _ => ⟨n010, hK m (mf_r m)⟩) (fun _ => ⟨fun _ => ⟨n010, hK m (mf_r m)⟩, fun q => absurd rfl q⟩)
  · unfold M_isAlarm_17
    refine ⟨vp_in_nI (by omega) (by omega), fun y1 e1 => ?_⟩
    rw [ni_cl (by omega), q10] at e1
    subst e1
    intro y2 e2
    rw [ii_nsub, show (1 : Int32) = iI 1 from rfl, ii_add, show ((h : Int) - (al k : Nat) + 1) = ((h + 1 - al k : Nat) : Int) by omega] at e2
    have e2 : y2 = nI (h + 1 - al k) := e2
    subst e2
    refine lqe5 (F := M_isAlarm_30_lp K) (G := M_isAlarm_30 K) (fun _ _ _ _ _ _ => rfl) (fun d a1 a2 a3 a4 u => a1 = nI k ∧ a2 = nI h ∧ mf [] [34] [] m u ∧ ∃ (g : Nat) (b : Bool), a3 = bI b ∧ a4 = nI g ∧ g + d = h + 1 ∧ h + 1 - al k ≤ g ∧ (b = true → ∀ g', h + 1 - al k ≤ g' → g' < g → hol n fx hd rd pg sg nb ft (en k) (en (k + 1)) (pthc (fun h => qF eh ed t h N) (g' + 1)) = true) ∧ (b = false → ∃ g', h + 1 - al k ≤ g' ∧ g' < h + 1 ∧ ¬ hol n fx hd rd pg sg nb ft (en k) (en (k + 1)) (pthc (fun h => qF eh ed t h N) (g' + 1)) = true)) ?_ (al k) _ _ _ _ _ ⟨rfl, rfl, mf_r m, h + 1 - al k, true, rfl, rfl, by omega, Nat.le_refl _, fun _ g' h1 h2 => by omega, fun q => (by cases q)⟩
    rintro kk d a1 a2 a3 a4 u ⟨rfl, rfl, uf, g, b, rfl, rfl, hgd, hg1, hbt, hbf⟩ ih
    have ubad : b = false → K (bI b) u := by
      intro hb
      obtain ⟨g', g1, g2, g3⟩ := hbf hb
      have hno : alm n fx hd rd pg sg nb ft (en k) (en (k + 1)) (al k) (pthc (fun h => qF eh ed t h N) (h + 1)) = b := by
        rw [hb]
        cases e : alm n fx hd rd pg sg nb ft (en k) (en (k + 1)) (al k) (pthc (fun h => qF eh ed t h N) (h + 1)) with
        | false => rfl
        | true => exact absurd ((hap.mp e).2 g' (by omega) g2) g3
      rw [hno] at hK
      exact hK u uf
    unfold M_isAlarm_30 M_isAlarm_54
    rw [ni_lt (by omega) (by omega)]
    refine br1 (fun q => ⟨bI_c b, ?_⟩) (fun q => ?_)
    · cases hb : b with
      | false => rw [hb] at ubad; exact ubad rfl
      | true =>
        have hyes : alm n fx hd rd pg sg nb ft (en k) (en (k + 1)) (al k) (pthc (fun h => qF eh ed t h N) (h + 1)) = true := hap.mpr ⟨by omega, fun g' g1 g2 => hbt hb g' (by omega) (by omega)⟩
        rw [hyes] at hK
        exact hK u uf
    · rw [bI_z]
      refine br1 (fun q2 => ⟨Or.inl q2, ubad q2⟩) (fun q2 => ?_)
      have hb : b = true := by cases b <;> simp_all
      have uck : ckM u n fx hd N eh ed rd t := ckM_f hck uf (by decide) (by decide) (by decide)
      have upg : pgM u 0 n S pg sg nb ft := ⟨hpg.1, fun s hs => by rw [uf.2.1 16 (by decide), uf.2.1 17 (by decide), uf.2.1 18 (by decide), uf.2.1 19 (by decide)]; exact hpg.2 s hs⟩
      have ual : alM u 0 0 A al en := by unfold alM; rw [uf.2.1 15 (by decide), uf.2.1 10 (by decide), uf.2.1 9 (by decide), uf.2.1 8 (by decide)]; exact hal
      refine mx_holdsAt (g := g) uck (by omega) h40 (by rw [uf.2.1 11 (by decide)]; exact h11) hn hh hr upg hpk hA6 ual hen hk (fun y yf => ?_)
      intro x4 e4
      subst e4
      refine ih (d - 1) _ _ _ _ _ (by omega) ⟨rfl, rfl, mf_t uf yf, g + 1, _, rfl, nI_1 g, by omega, by omega, fun e g' g1 g2 => ?_, fun e => ⟨g, hg1, by omega, by rw [e]; decide⟩⟩
      by_cases eg : g' = g
      · subst eg; exact e
      · exact hbt hb g' g1 (by omega)
end

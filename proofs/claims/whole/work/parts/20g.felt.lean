/-! felt, slips, read -/
def bq (x : xs_St) (m : th_St) (n : Nat) (fx : Nat → Bool) (hd : Nat → Int) (N : Nat) (eh ed er ea : Nat → Nat) (rd wd : Nat → Nat → Int) (P : Nat → List Nat) : Prop := txP x n fx hd ∧ txM m n fx hd ∧ lgX x n N eh ed er ea rd wd ∧ lgM m n N eh ed rd wd ∧ lgOk eh ed N ∧ trX x n fx hd N eh er rd P ∧ chM m n fx hd N eh ed rd ∧ xi x 504 = nI (hcn eh N) ∧ xi x 505 = nI (N - hcn eh N) ∧ ∀ j, j < N → (ed j : Int) ≤ (xi x 12).toInt
def sBody (x : xs_St) (m : th_St) : Prop := ∃ n fx hd N eh ed er ea rd wd P, bq x m n fx hd N eh ed er ea rd wd P
theorem bq_k {x x' : xs_St} {m m' : th_St} {n : Nat} {fx : Nat → Bool} {hd : Nat → Int} {N : Nat} {eh ed er ea : Nat → Nat} {rd wd : Nat → Nat → Int} {P P' : Nat → List Nat} {I A L : List Nat} (h : bq x m n fx hd N eh ed er ea rd wd P) (hx : fF x x') (h1 : lgX x' n N eh ed er ea rd wd) (h2 : trX x' n fx hd N eh er rd P') (hm : mf I A L m m') (hI : 30 ∉ I ∧ 31 ∉ I) (hA : 11 ∉ A ∧ 6 ∉ A ∧ 7 ∉ A ∧ 35 ∉ A ∧ 36 ∉ A ∧ 37 ∉ A) (h3 : chM m' n fx hd N eh ed rd) : bq x' m' n fx hd N eh ed er ea rd wd P' := by
  obtain ⟨b1, b2, b3, b4, b5, b6, b7, b8, b9, b10⟩ := h
  refine ⟨txP_f b1 hx.1, txM_f b2 hm hA.1 hA.2.1 hA.2.2.1, h1, lgM_f b4 hm hI.1 hI.2 hA.2.2.2.1 hA.2.2.2.2.1 hA.2.2.2.2.2, b5, h2, h3, ?_, ?_, ?_⟩
  · unfold xi; rw [hx.1]; exact b8
  · unfold xi; rw [hx.1]; exact b9
  · unfold xi; rw [hx.1]; exact b10
theorem sx_hasF {x : xs_St} {n : Nat} {a : Int32} {K : Int32 → xs_St → Prop} (hn : n ≤ 48) (h300 : xi x 300 = nI n) (h0 : ¬ (0 ≤ a.toInt ∧ a.toInt < n) → K 0 x) (h1 : ∀ i : Nat, a = nI i → i < n → K 1 x) : X_T_hasFoot_A a x K := by
  unfold X_T_hasFoot_A X_T_hasFoot_A_16 X_T_hasFoot_A_17
  rw [h300, ti_lt, tt_0, ti_le, ti_nI (by omega)]
  refine br1 (fun q => ⟨n010, h0 (by omega)⟩) (fun q => br1 (fun q2 => ⟨n010, h0 (by omega)⟩) (fun q2 => ⟨n011, ?_⟩))
  obtain ⟨i, hi⟩ := Int.eq_ofNat_of_zero_le (Int.not_lt.mp q)
  exact h1 i (ti_of hi) (by omega)
theorem nI_inj {a b : Nat} (ha : a ≤ 2147483647) (hb : b ≤ 2147483647) (h : nI a = nI b) : a = b := by
  rw [ni_eq ha hb] at h; exact h
theorem sx_felt {x : xs_St} {m : th_St} (hB : sBody x m) {a b c : Int32} {KT : xs_St → Int32 → th_St → Prop} {K : Int32 → xs_St → Int32 → th_St → Prop}
    (k0 : ∀ r x' m', fF x x' → mf [0, 40, 41, 42] [38, 39] [] m m' → m'.1 0 = 1 → sBody x' m' → KT x' r m')
    (k1 : ∀ r x' m', fF x x' → mf [0, 40, 41, 42] [38, 39] [] m m' → m'.1 0 = 0 → sBody x' m' → K r x' r m') : X_TH_felt (fun x' => M_felt a b c m (fun r' m' => KT x' r' m')) a b c x (fun r x' => M_felt a b c m (fun r' m' => K r x' r' m')) := by
  obtain ⟨n, fx, hd, N, eh, ed, er, ea, rd, wd, P, hq⟩ := hB
  obtain ⟨b1, b2, b3, b4, b5, b6, b7, b8, b9, b10⟩ := id hq
  have hn := b1.1
  have h40 := thr_40 b3 c.toInt
  have bad : ¬ ((0 ≤ a.toInt ∧ a.toInt < n) ∧ 0 ≤ b.toInt ∧ b.toInt < thr eh ed c.toInt N) → ∀ (x' : xs_St) (P' : Nat → List Nat), fF x x' → lgX x' n N eh ed er ea rd wd → trX x' n fx hd N eh er rd P' → M_felt a b c m (fun r' m' => KT x' r' m') := by
    intro hno x' P' g1 g2 g3
    unfold M_felt
    refine mx_there b2 b4 b5 b7 b3.2.2.2.2.1 (fun _ y yf ych => ⟨fun g => absurd rfl g, fun _ => ?_⟩) (fun i j ei hi ej hj => absurd ?_ hno)
    · unfold M_felt_16
      refine mx_throws (b := 1) (by omega) ⟨fun g => absurd g (by decide), fun _ => ?_⟩
      have f1 : mf [0, 40, 41, 42] [38, 39] [] m (th_si y 0 (nI 1)) := mf_i (by decide) (mf_w yf (by decide) (by decide) (by decide))
      refine k0 _ _ _ g1 f1 rfl ⟨n, fx, hd, N, eh, ed, er, ea, rd, wd, P', bq_k hq g1 g2 g3 f1 (by decide) (by decide) ?_⟩
      exact chM_f (I := [0]) (A := []) (L := []) ych (mf_i (by decide) (mf_r y)) (by decide) (by decide) (by decide) (by decide) (by decide)
    · subst ei; subst ej
      rw [ti_nI (by omega), ti_nI (by omega)]; omega
  unfold X_TH_felt X_TH_felt_31
  refine sx_feelOf b1 b3 b5 b6 (fun hno x' P' g1 g2 g3 => ?_) (fun h eb hh x' P' f g1 g2 g3 g4 g5 => ?_)
  · exact ⟨fun _ => bad (fun q => hno q.2) x' P' g1 g2 g3, fun q => absurd rfl q⟩
  · have b1' := txP_f b1 g1.1
    refine ⟨fun q => (by cases q), fun _ => ?_⟩
    refine sx_hasF hn.2 b1'.2.1 (fun q => ⟨fun g => absurd rfl g, fun _ => bad (fun q2 => q q2.1) x' P' g1 g2 g3⟩) (fun i ei hi => ⟨fun _ => ?_, fun g => absurd g (by decide)⟩)
    obtain ⟨arr, hA⟩ := ndX_A (g3.2 f g4)
    subst ei; subst eb
    refine ⟨f, rfl, g4, ?_⟩
    refine sx_of (z := (i : Int)) g4 hA hn.2 (by omega) (by omega) ?_
    rw [inF_n hi, g5]
    unfold M_felt
    refine mx_there b2 b4 b5 b7 b3.2.2.2.2.1 (fun g => absurd (by rw [ti_nI (by omega), ti_nI (by omega)]; omega) g) (fun i' j' ei hi' ej hj' y yf ych yck => ⟨fun _ => ?_, fun g => absurd g (by decide)⟩)
    have e1 := nI_inj (by omega) (by omega) ei
    have e2 := nI_inj (by omega) (by omega) ej
    subst e1; subst e2
    unfold M_felt_16
    refine mx_throws (b := 0) (by omega) ⟨fun _ => ?_, fun g => absurd rfl g⟩
    rw [show nI h + (1 : Int32) = nI (h + 1) from nI_1 h, show (48 : Int32) = nI 48 from rfl, pk_mul, nI_add]
    refine ⟨vp_in_nI (by omega) (by omega), ?_⟩
    intro y3 e3
    have e3 : y3 = iI ((flG n fx hd rd (pthc (fun h => qF eh ed c.toInt h N) (h + 1))).1 i) := by
      rw [e3, ni_cl (by omega)]
      exact yck.2.1 (h + 1) i (by omega) hi
    subst e3
    have f1 : mf [0, 40, 41, 42] [38, 39] [] m (th_si y 0 (nI 0)) := mf_i (by decide) (mf_w yf (by decide) (by decide) (by decide))
    refine k1 _ _ _ g1 f1 rfl ⟨n, fx, hd, N, eh, ed, er, ea, rd, wd, P', bq_k hq g1 g2 g3 f1 (by decide) (by decide) ?_⟩
    exact chM_f (I := [0]) (A := []) (L := []) ych (mf_i (by decide) (mf_r y)) (by decide) (by decide) (by decide) (by decide) (by decide)
theorem bq_0 {x : xs_St} {m : th_St} {n : Nat} {fx : Nat → Bool} {hd : Nat → Int} {N : Nat} {eh ed er ea : Nat → Nat} {rd wd : Nat → Nat → Int} {P : Nat → List Nat} (h : bq x m n fx hd N eh ed er ea rd wd P) (v : Int32) : bq x (th_si m 0 v) n fx hd N eh ed er ea rd wd P := by
  have f : mf [0] [] [] m (th_si m 0 v) := mf_i (by decide) (mf_r m)
  exact bq_k h (fF_r x) h.2.2.1 h.2.2.2.2.2.1 f (by decide) (by decide) (chM_f h.2.2.2.2.2.2.1 f (by decide) (by decide) (by decide) (by decide) (by decide))
theorem sx_slips {x : xs_St} {m : th_St} (hB : sBody x m) {b c : Int32} {K : Int32 → xs_St → Int32 → th_St → Prop}
    (k1 : ∀ r x' m', fF x x' → mf [0, 40, 41, 42] [38, 39] [] m m' → sBody x' m' → K r x' r m') : X_TH_slips b c x (fun r x' => M_slips b c m (fun r' m' => K r x' r' m')) := by
  obtain ⟨n, fx, hd, N, eh, ed, er, ea, rd, wd, P, hq0⟩ := hB
  have hq := bq_0 hq0 0
  obtain ⟨b1, b2, b3, b4, b5, b6, b7, b8, b9, b10⟩ := id hq
  have hn := b1.1
  have h40 := thr_40 b3 c.toInt
  have fz : mf [0, 40, 41, 42] [38, 39] [] m (th_si m 0 0) := mf_i (by decide) (mf_r m)
  unfold X_TH_slips X_TH_slips_26
  refine sx_feelOf b1 b3 b5 b6 (fun hno x' P' g1 g2 g3 => ?_) (fun h eb hh x' P' f g1 g2 g3 g4 g5 => ?_)
  · refine ⟨fun q => absurd rfl q, fun _ => ?_⟩
    unfold M_slips M_slips_25
    intro u1 e1; subst e1
    refine mx_there b2 b4 b5 b7 b3.2.2.2.2.1 (fun _ y yf ych => ⟨fun _ => ?_, fun g => absurd rfl g⟩) (fun i j ei hi ej hj => absurd ?_ hno)
    · exact k1 _ _ _ g1 (mf_t fz (mf_w yf (by decide) (by decide) (by decide))) ⟨n, fx, hd, N, eh, ed, er, ea, rd, wd, P', bq_k hq g1 g2 g3 yf (by decide) (by decide) ych⟩
    · subst ej
      rw [ti_nI (by omega)]; omega
  · subst eb
    refine ⟨fun _ => ⟨f, rfl, g4, ?_⟩, fun q => (by cases q)⟩
    have hI : xdI x' 2 f = nI (flG n fx hd rd (P' f)).2 := by
      rcases (g3.2 f g4).2 with ⟨q1, -⟩ | ⟨j, js, a, arr, q1, -, -, -, -, -, -, -, q9, -⟩
      · rw [g5] at q1; cases q1
      · rw [q1]; exact q9
    rw [hI, g5]
    unfold M_slips M_slips_25
    intro u1 e1; subst e1
    refine mx_there b2 b4 b5 b7 b3.2.2.2.2.1 (fun g => absurd (by rw [tt_0, ti_nI (by omega)]; omega) g) (fun i' j' ei hi' ej hj' y yf ych yck => ⟨fun g => absurd g (by decide), fun _ => ⟨vp_in_nI (by omega) (by omega), ?_⟩⟩)
    intro y4 e4
    rw [ni_cl (by omega), yck.2.2 h (by omega)] at e4
    subst e4
    exact k1 _ _ _ g1 (mf_t fz (mf_w yf (by decide) (by decide) (by decide))) ⟨n, fx, hd, N, eh, ed, er, ea, rd, wd, P', bq_k hq g1 g2 g3 yf (by decide) (by decide) ych⟩
theorem sx_sens {x : xs_St} {c arr r a n : Nat} {g s w : Nat → Int} {z p q : Int} {K : Int32 → xs_St → Prop} (hc : xd_is x c 3) (hA : nA x c arr n g) (h1 : xdR x 1 c = some r) (hR : rA x r a n s w) (hn : n ≤ 48) (hz1 : -1000 ≤ z) (hz2 : z ≤ 1000) (h : K (iI (p * inF n g z + q * inF n w z)) x) : X_Feel_sensed_d c (iI z) (iI p) (iI q) x K := by
  unfold X_Feel_sensed_d
  refine ⟨hc, ?_⟩
  refine sx_of hc hA hn hz1 hz2 ?_
  refine ⟨hc, r, h1, hR.1, ?_⟩
  refine sx_warm hR hn hz1 hz2 ?_
  rw [ii_mul, ii_mul, ii_add]; exact h
def sPH (x : xs_St) (m : th_St) : Prop := xi x 301 = m.2.2.1 12 0 ∧ xi x 302 = m.2.2.1 13 0
/-- one foot's part of a reading -/
def rdV (n : Nat) (g w : Nat → Int) (p q z : Int) : Int := p * inF n g z + q * inF n w z
theorem mx_readL {m : th_St} {n i h r : Nat} {g w : Nat → Int} {p q : Int} {bx : Int32} {K : Int32 → th_St → Prop} (hn : n ≤ 48) (hi : i < n) (hh : h < 40) (hr : r < 100) (h11 : m.2.2.1 11 0 = nI n) (h13 : m.2.2.1 13 0 = iI q) (h12 : bx = 0 → m.2.2.1 12 0 = iI p) (hp : ¬ bx = 0 → p = 0) (hw : ∀ i, i < n → m.2.2.1 35 (96 * r + 48 + i) = iI (w i)) (hg : ∀ i, i < n → m.2.2.1 38 (48 * (h + 1) + i) = iI (g i)) (hK : K (iI (2 * rdV n g w p q i + rdV n g w p q ((i : Int) - 1) + rdV n g w p q ((i : Int) + 1))) m) : ∃ k, M_read__50_lp K k (nI i) (nI h) bx (nI r) (0 : Int32) (nI i - (1 : Int32)) m := by
  have out : ∀ z : Int, ¬ (0 ≤ z ∧ z < n) → rdV n g w p q z = 0 := fun z hz => by
    unfold rdV inF; rw [if_neg hz, if_neg hz, Int.mul_zero, Int.mul_zero]; rfl
  have step : ∀ (k : Nat) (sum z : Int), (i : Int) - 1 ≤ z → z ≤ (i : Int) + 1 → M_read__50_lp K k (nI i) (nI h) bx (nI r) (iI (sum + (if z = i then 2 * rdV n g w p q z else rdV n g w p q z))) (iI (z + 1)) m → M_read__50_lp K (k + 1) (nI i) (nI h) bx (nI r) (iI sum) (iI z) m := by
    intro k sum z hz1 hz2 hnext
    show M_read__50 K (M_read__50_lp K k) (nI i) (nI h) bx (nI r) (iI sum) (iI z) m
    unfold M_read__50
    rw [show nI i + (1 : Int32) = nI (i + 1) from nI_1 i, ii_ltR (by omega) (by omega) (by omega)]
    refine ⟨fun q1 => by omega, fun _ => ⟨vp_in_nI (n := 0) (by omega) (by omega), ?_⟩⟩
    intro y1 e1
    have e1 : y1 = nI n := by rw [e1]; exact h11
    subst e1
    refine mx_in1 (by omega) (fun q1 => ⟨fun g1 => absurd rfl g1, fun _ => ?_⟩) (fun j hj ej => ⟨fun _ => ?_, fun g1 => absurd g1 (by decide)⟩)
    · rw [ii_toInt (by omega) (by omega)] at q1
      rw [if_neg (by omega), out z q1, Int.add_zero] at hnext
      unfold M_read__154
      intro x7 e7
      rw [show (1 : Int32) = iI 1 from rfl, ii_add] at e7
      subst e7; exact hnext
    · have ez : z = (j : Int) := by
        have e := congrArg Int32.toInt ej
        rw [ii_toInt (by omega) (by omega), ti_nI (by omega)] at e
        exact e
      subst ez
      have fin : ∀ v : Int, v = rdV n g w p q j → M_read__131 K (M_read__50_lp K k) (nI i) (nI h) bx (nI r) (iI sum) (nI j) (iI (v - q * w j)) (iI (q * w j)) m := by
        intro v hv
        have fin2 : ∀ u : Int, u = (if (j : Int) = i then 2 * rdV n g w p q j else rdV n g w p q j) → M_read__151 K (M_read__50_lp K k) (nI i) (nI h) bx (nI r) (nI j) (iI u) (iI sum) m := by
          intro u hu
          unfold M_read__151
          intro y1 e1
          rw [ii_add] at e1
          subst e1
          unfold M_read__154
          intro x7 e7
          rw [show nI j + (1 : Int32) = nI (j + 1) from nI_1 j] at e7
          subst e7
          rw [← hu] at hnext
          exact hnext
        unfold M_read__131
        intro y1 e1
        rw [ii_add, show q * w j + (v - q * w j) = v by omega] at e1
        subst e1
        rw [ni_eq (by omega) (by omega)]
        refine br2 (fun q2 => fin2 _ (by rw [if_neg (by omega)]; exact hv)) (fun q2 => ?_)
        rw [show (2 : Int32) = iI 2 from rfl, ii_mul]
        exact fin2 _ (by rw [if_pos (by omega), hv])
      have ein : inF n g j = g j := inF_n hj
      have eiw : inF n w j = w j := inF_n hj
      refine ⟨vp_in_nI (n := 0) (by omega) (by omega), ?_⟩
      intro y4 e4
      have e4 : y4 = iI q := by rw [e4]; exact h13
      subst e4
      rw [show iI ((j : Nat) : Int) = nI j from rfl, show (96 : Int32) = nI 96 from rfl, show (48 : Int32) = nI 48 from rfl, pk_mul, nI_add, nI_add]
      refine ⟨vp_in_nI (by omega) (by omega), ?_⟩
      intro y5 e5
      rw [ni_cl (by omega), hw j hj] at e5
      subst e5
      rw [ii_mul]
      refine br2 (fun q2 => ?_) (fun q2 => ⟨vp_in_nI (n := 0) (by omega) (by omega), ?_⟩)
      · have := fin (rdV n g w p q j) rfl
        rw [show rdV n g w p q j - q * w j = 0 by unfold rdV; rw [hp q2, eiw, Int.zero_mul]; omega] at this
        exact this
      · intro y6 e6
        have e6 : y6 = iI p := by rw [e6]; exact h12 q2
        subst e6
        rw [show nI h + (1 : Int32) = nI (h + 1) from nI_1 h, pk_mul, nI_add]
        refine ⟨vp_in_nI (by omega) (by omega), ?_⟩
        intro y7 e7
        rw [ni_cl (by omega), hg j hj] at e7
        subst e7
        rw [ii_mul]
        have := fin (rdV n g w p q j) rfl
        rw [show rdV n g w p q j - q * w j = p * g j by unfold rdV; rw [ein, eiw]; omega] at this
        exact this
  have hstart : nI i - (1 : Int32) = iI ((i : Int) - 1) := ii_nsub i 1
  rw [hstart, show (0 : Int32) = iI 0 from rfl]
  refine ⟨4, ?_⟩
  refine step _ _ _ (by omega) (by omega) ?_
  refine step _ _ _ (by omega) (by omega) ?_
  refine step _ _ _ (by omega) (by omega) ?_
  show M_read__50 K _ (nI i) (nI h) bx (nI r) _ _ m
  unfold M_read__50
  rw [show nI i + (1 : Int32) = nI (i + 1) from nI_1 i, ii_ltR (by omega) (by omega) (by omega)]
  refine ⟨fun _ => ?_, fun q1 => by omega⟩
  rw [if_neg (by omega), show (i : Int) - 1 + 1 = i by omega, if_pos rfl, if_neg (by omega)]
  rw [show 0 + rdV n g w p q ((i : Int) - 1) + 2 * rdV n g w p q i + rdV n g w p q ((i : Int) + 1) = 2 * rdV n g w p q i + rdV n g w p q ((i : Int) - 1) + rdV n g w p q ((i : Int) + 1) by omega]
  exact hK
theorem sx_read {x : xs_St} {m : th_St} (hB : sBody x m) (hPH : sPH x m) {a b c e : Int32} {KT : xs_St → Int32 → th_St → Prop} {K : Int32 → xs_St → Int32 → th_St → Prop}
    (k0 : ∀ r x' m', fF x x' → mf [0, 40, 41, 42] [38, 39] [] m m' → m'.1 0 = 1 → sBody x' m' → KT x' r m')
    (k1 : ∀ r x' m', fF x x' → mf [0, 40, 41, 42] [38, 39] [] m m' → m'.1 0 = 0 → sBody x' m' → K r x' r m') : X_TH_read (fun x' => M_read_ a b c e m (fun r' m' => KT x' r' m')) a b c e x (fun r x' => M_read_ a b c e m (fun r' m' => K r x' r' m')) := by
  obtain ⟨n, fx, hd, N, eh, ed, er, ea, rd, wd, P, hq⟩ := hB
  obtain ⟨b1, b2, b3, b4, b5, b6, b7, b8, b9, b10⟩ := id hq
  have hn := b1.1
  have h40 := thr_40 b3 c.toInt
  have c1 : (1 : Int32).toInt = 1 := by decide
  have bad : ¬ (((0 ≤ a.toInt ∧ a.toInt < n) ∧ 0 ≤ b.toInt ∧ b.toInt < thr eh ed c.toInt N) ∧ 0 ≤ e.toInt ∧ e.toInt ≤ 1) → ∀ (x' : xs_St) (P' : Nat → List Nat), fF x x' → lgX x' n N eh ed er ea rd wd → trX x' n fx hd N eh er rd P' → M_read_ a b c e m (fun r' m' => KT x' r' m') := by
    intro hno x' P' g1 g2 g3
    have thrw : ∀ y, mf [40, 41, 42] [38, 39] [] m y → chM y n fx hd N eh ed rd → M_read__21 (fun r' m' => KT x' r' m') a b c e y := by
      intro y yf ych
      unfold M_read__21 M_read__26
      refine mx_throws (b := 1) (by omega) ⟨fun g => absurd g (by decide), fun _ => ?_⟩
      have f1 : mf [0, 40, 41, 42] [38, 39] [] m (th_si y 0 (nI 1)) := mf_i (by decide) (mf_w yf (by decide) (by decide) (by decide))
      refine k0 _ _ _ g1 f1 rfl ⟨n, fx, hd, N, eh, ed, er, ea, rd, wd, P', bq_k hq g1 g2 g3 f1 (by decide) (by decide) ?_⟩
      exact chM_f (I := [0]) (A := []) (L := []) ych (mf_i (by decide) (mf_r y)) (by decide) (by decide) (by decide) (by decide) (by decide)
    unfold M_read_
    refine mx_there b2 b4 b5 b7 b3.2.2.2.2.1 (fun _ y yf ych => ⟨fun _ => thrw y yf ych, fun g => absurd rfl g⟩) (fun i j ei hi ej hj y yf ych yck => ⟨fun g => absurd g (by decide), fun _ => ?_⟩)
    refine mx_is2 (lo := 0) (hi := 1) tt_0 c1 (fun q1 q2 => ?_) (fun _ => ⟨fun g => absurd rfl g, fun _ => thrw y yf ych⟩)
    exfalso
    apply hno
    subst ei; subst ej
    rw [ti_nI (by omega), ti_nI (by omega)]; omega
  unfold X_TH_read X_TH_read_42
  refine sx_feelOf b1 b3 b5 b6 (fun hno x' P' g1 g2 g3 => ?_) (fun h eb hh x' P' f g1 g2 g3 g4 g5 => ?_)
  · exact ⟨fun _ => bad (fun q => hno q.1.2) x' P' g1 g2 g3, fun q => absurd rfl q⟩
  · have b1' := txP_f b1 g1.1
    refine ⟨fun q => (by cases q), fun _ => ?_⟩
    refine sx_hasF hn.2 b1'.2.1 (fun q => ⟨fun _ => bad (fun q2 => q q2.1.1) x' P' g1 g2 g3, fun g => absurd rfl g⟩) (fun i ei hi => ⟨fun g => absurd g (by decide), fun _ => ?_⟩)
    rw [ti_lt, tt_0, ti_le, c1]
    refine br1 (fun q => bad (fun q2 => by omega) x' P' g1 g2 g3) (fun q => br1 (fun q2 => ?_) (fun q2 => bad (fun q3 => by omega) x' P' g1 g2 g3))
    obtain ⟨arr, hA⟩ := ndX_A (g3.2 f g4)
    have hrow : xdR x' 1 f = some (er (qF eh ed c.toInt h N)) := by
      rcases (g3.2 f g4).2 with ⟨q1, -⟩ | ⟨j, js, a', arr', q1, -, -, -, -, -, q7, -⟩
      · rw [g5] at q1; cases q1
      · rw [g5, pthc] at q1
        injection q1 with q1
        rw [q7, q1]
    have hqh := qF_ok (eh := eh) (ed := ed) (t := c.toInt) (h := h) b5 hh
    have hR := (g2.2.2.1 _ hqh.1).2.1
    subst ei; subst eb
    have e301 : xi x' 301 = iI (m.2.2.1 12 0).toInt := by
      rw [ii_self, ← hPH.1]; unfold xi; rw [g1.1]
    have e302 : xi x' 302 = iI (m.2.2.1 13 0).toInt := by
      rw [ii_self, ← hPH.2]; unfold xi; rw [g1.1]
    have fin : ∀ (p : Int) (z : Int32), z = iI p → (e = 0 → m.2.2.1 12 0 = iI p) → (¬ e = 0 → p = 0) → X_TH_read_68 (fun x' => M_read_ (nI i) (nI h) c e m (fun r' m' => KT x' r' m')) (fun r x' => M_read_ (nI i) (nI h) c e m (fun r' m' => K r x' r' m')) (nI i) (some f) z x' := by
      intro p z ez h12 hp
      subst ez
      unfold X_TH_read_68
      rw [e302]
      refine ⟨f, rfl, g4, ?_⟩
      refine sx_sens (z := (i : Int)) g4 hA hrow hR hn.2 (by omega) (by omega) ?_
      rw [e302]
      refine ⟨f, rfl, g4, ?_⟩
      rw [show nI i - (1 : Int32) = iI ((i : Int) - 1) from ii_nsub i 1]
      refine sx_sens g4 hA hrow hR hn.2 (by omega) (by omega) ?_
      rw [e302]
      refine ⟨f, rfl, g4, ?_⟩
      rw [show nI i + (1 : Int32) = iI ((i : Int) + 1) from ii_addR i 1]
      refine sx_sens g4 hA hrow hR hn.2 (by omega) (by omega) ?_
      rw [show (2 : Int32) = iI 2 from rfl, ii_mul, ii_add, ii_add, g5]
      unfold M_read_
      refine mx_there b2 b4 b5 b7 b3.2.2.2.2.1 (fun g => absurd (by rw [ti_nI (by omega), ti_nI (by omega)]; omega) g) (fun i' j' ei hi' ej hj' y yf ych yck => ⟨fun g => absurd g (by decide), fun _ => ?_⟩)
      refine mx_is2 (lo := 0) (hi := 1) tt_0 c1 (fun _ _ => ⟨fun _ => ?_, fun g => absurd g (by decide)⟩) (fun g => absurd ⟨by omega, by omega⟩ g)
      unfold M_read__26
      refine mx_throws (b := 0) (by omega) ⟨fun _ => ?_, fun g => absurd rfl g⟩
      have f0 : mf [0] [] [] y (th_si y 0 (nI 0)) := mf_i (by decide) (mf_r y)
      have f1 : mf [0, 40, 41, 42] [38, 39] [] m (th_si y 0 (nI 0)) := mf_i (by decide) (mf_w yf (by decide) (by decide) (by decide))
      have ylg := lgM_f b4 f1 (by decide) (by decide) (by decide) (by decide) (by decide)
      have yT := txM_f b2 f1 (by decide) (by decide) (by decide)
      have yck' := ckM_f yck f0 (by decide) (by decide) (by decide)
      have y0 : (th_si y 0 (nI 0)).1 0 = 0 := rfl
      have ych' := chM_f ych f0 (by decide) (by decide) (by decide) (by decide) (by decide)
      generalize th_si y 0 (nI 0) = w at *
      refine mx_rowOf ylg b5 hh ?_
      intro y5 e5
      subst e5
      refine mx_readL (g := (flG n fx hd rd (pthc (fun h => qF eh ed c.toInt h N) (h + 1))).1) (w := wd (qF eh ed c.toInt h N)) (p := p) (q := (m.2.2.1 13 0).toInt) hn.2 hi (by omega) (emr_l ylg b5 hqh.1) yT.2.1 (by rw [f1.2.1 13 (by decide), ii_self]) (fun g => by rw [f1.2.1 12 (by decide)]; exact h12 g) hp (fun i' hi2 => ((ylg.2.2.2 _ hqh.1).2.2.2 i' hi2).2) (fun i' hi2 => yck'.2.1 (h + 1) i' (by omega) hi2) ?_
      exact k1 _ _ _ g1 f1 y0 ⟨n, fx, hd, N, eh, ed, er, ea, rd, wd, P', bq_k hq g1 g2 g3 f1 (by decide) (by decide) ych'⟩
    refine br2 (fun q3 => fin 0 _ rfl (fun g => absurd g q3) (fun _ => rfl)) (fun q3 => fin _ _ e301 (fun _ => (ii_self _).symm) (fun g => absurd q3 g))

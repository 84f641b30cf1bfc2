/-! alarm, alarmed: both -/
def sAl (x : xs_St) (m : th_St) : Prop := ∃ (n A S : Nat) (pg sg nb ft al en : Nat → Nat), xi x 300 = nI n ∧ n ≤ 48 ∧ pgX x 0 n S pg sg nb ft ∧ pgM m 0 n S pg sg nb ft ∧ alX x 0 A S pg al en ∧ alM m 0 0 A al en
theorem pgX_f {x y : xs_St} {n S : Nat} {pg sg nb ft : Nat → Nat} (h : pgX x 0 n S pg sg nb ft) (e : fF x y) : pgX y 0 n S pg sg nb ft := by
  refine ⟨h.1, fun s hs => ?_⟩
  rw [e.2.2 (311 + 0) (by decide), e.2.2 (312 + 0) (by decide)]
  unfold xa
  rw [e.1]; exact h.2 s hs
theorem alX_f {x y : xs_St} {A S : Nat} {pg al en : Nat → Nat} (h : alX x 0 A S pg al en) (e : y.1 = x.1) : alX y 0 A S pg al en := by
  unfold alX xi xa at *; rw [e]; exact h
theorem pgM_f {m y : th_St} {n S f : Nat} {pg sg nb ft : Nat → Nat} {I A L : List Nat} (h : pgM m f n S pg sg nb ft) (e : mf I A L m y) (hA : 16 ∉ A ∧ 17 ∉ A ∧ 18 ∉ A ∧ 19 ∉ A) : pgM y f n S pg sg nb ft := ⟨h.1, fun s hs => by rw [e.2.1 16 hA.1, e.2.1 17 hA.2.1, e.2.1 18 hA.2.2.1, e.2.1 19 hA.2.2.2]; exact h.2 s hs⟩
theorem alM_f {m y : th_St} {f z A : Nat} {al en : Nat → Nat} {I A' L : List Nat} (h : alM m f z A al en) (e : mf I A' L m y) (hA : 15 ∉ A' ∧ 10 ∉ A' ∧ 9 ∉ A' ∧ 8 ∉ A') : alM y f z A al en := by
  unfold alM; rw [e.2.1 15 hA.1, e.2.1 10 hA.2.1, e.2.1 9 hA.2.2.1, e.2.1 8 hA.2.2.2]; exact h
theorem sx_alarm {x : xs_St} {m : th_St} (hB : sBody x m) (hA : sAl x m) {a b c : Int32} {K : Int32 → xs_St → Int32 → th_St → Prop}
    (k1 : ∀ r x' m', fF x x' → mf [0, 40, 41, 42] [34, 38, 39] [] m m' → sBody x' m' → K r x' r m') : X_TH_alarm a b c x (fun r x' => M_alarm a b c m (fun r' m' => K r x' r' m')) := by
  obtain ⟨n, fx, hd, N, eh, ed, er, ea, rd, wd, P, hq0⟩ := hB
  have hq := bq_0 hq0 0
  obtain ⟨b1, b2, b3, b4, b5, b6, b7, b8, b9, b10⟩ := id hq
  obtain ⟨n', A, S, pg, sg, nb, ft, al, en, e300, hn', hpX, hpM, haX, haM⟩ := hA
  have hn := b1.1
  have en' := nI_inj (by omega) (by omega) (e300.symm.trans b1.2.1)
  subst en'
  have h40 := thr_40 b3 c.toInt
  have hA6 := haX.1
  have hh : ∀ i, i < n' → 1 ≤ hd i := fun i hi => (b1.2.2 i (by omega)).2.2.1
  have hpk : ∀ s, s < S → (pg s ≤ 4 ∨ (10 ≤ pg s ∧ pg s ≤ 12)) ∧ (pg s ≤ 4 → 60 ≤ sg s ∧ sg s ≤ 62 ∧ nb s ≤ 9999) := fun s hs => ⟨(hpX.2 s hs).1, fun q => ⟨((hpX.2 s hs).2.2 q).2.1, ((hpX.2 s hs).2.2 q).2.2.1, ((hpX.2 s hs).2.2 q).2.2.2.2.1⟩⟩
  have fz : mf [0, 40, 41, 42] [34, 38, 39] [] m (th_si m 0 0) := mf_i (by decide) (mf_r m)
  have z0 : mf [0] [] [] m (th_si m 0 0) := mf_i (by decide) (mf_r m)
  have hpM0 : pgM (th_si m 0 0) 0 n' S pg sg nb ft := pgM_f hpM z0 (by decide)
  have haM0 : alM (th_si m 0 0) 0 0 A al en := alM_f haM z0 (by decide)
  have fin : ∀ r x' P' y, fF x x' → lgX x' n' N eh ed er ea rd wd → trX x' n' fx hd N eh er rd P' → mf [40, 41, 42] [34, 38, 39] [] (th_si m 0 0) y → chM y n' fx hd N eh ed rd → K r x' r y := fun r x' P' y g1 g2 g3 yf ych =>
    k1 r x' y g1 (mf_t fz (mf_w yf (by decide) (by decide) (by decide))) ⟨n', fx, hd, N, eh, ed, er, ea, rd, wd, P', bq_k hq g1 g2 g3 yf (by decide) (by decide) ych⟩
  have c15 : ∀ y2 : Int32, y2 = (th_si m 0 0).2.2.1 15 ((0 : Int32)).toNatClampNeg → y2 = nI A := fun y2 e2 => by rw [e2]; exact haM0.1
  have bad : ∀ x' P', ¬ ((0 ≤ a.toInt ∧ a.toInt < A) ∧ 0 ≤ b.toInt ∧ b.toInt < thr eh ed c.toInt N) → fF x x' → lgX x' n' N eh ed er ea rd wd → trX x' n' fx hd N eh er rd P' → M_alarm a b c m (fun r' m' => K (-1) x' r' m') := by
    intro x' P' hno g1 g2 g3
    unfold M_alarm M_alarm_31
    intro u1 e1; subst e1
    refine ⟨vp_in_nI (n := 0) (by omega) (by omega), fun y2 e2 => ?_⟩
    have e2 := c15 y2 e2
    subst e2
    refine mx_in0 (by omega) (fun _ => ⟨fun _ => fin _ _ _ _ g1 g2 g3 (mf_r _) b7, fun g => absurd rfl g⟩) (fun j hj ej => ⟨fun g => absurd g (by decide), fun _ => ?_⟩)
    refine mx_there b2 b4 b5 b7 b3.2.2.2.2.1 (fun _ y yf ych => ⟨fun g => absurd rfl g, fun _ => fin _ _ _ _ g1 g2 g3 (mf_w yf (by decide) (by decide) (by decide)) ych⟩) (fun i c' ei hi ec hc => absurd ?_ hno)
    rw [ej, ec, ti_nI (by omega), ti_nI (by omega)]; omega
  unfold X_TH_alarm X_TH_alarm_35 X_TH_alarm_55
  refine sx_feelOf b1 b3 b5 b6 (fun hno x' P' g1 g2 g3 => ⟨fun _ => bad x' P' (fun q => hno q.2) g1 g2 g3, fun q => absurd rfl q⟩) (fun h eb hh' x' P' f g1 g2 g3 g4 g5 => ⟨fun q => (by cases q), fun _ => ?_⟩)
  have haX' := alX_f haX g1.1
  have x305 : xi x' 305 = nI A := haX'.2.1
  rw [x305, ti_lt, tt_0, ti_lt, ti_nI (by omega)]
  refine br1 (fun q => bad x' P' (by omega) g1 g2 g3) (fun q => br1 (fun q2 => ?_) (fun q2 => bad x' P' (by omega) g1 g2 g3))
  obtain ⟨k, ek⟩ := Int.eq_ofNat_of_zero_le (Int.not_lt.mp q)
  have ea1 := ti_of ek
  subst ea1
  rw [ti_nI (by omega)] at q2
  have hk : k < A := by omega
  obtain ⟨-, hal9, -, k2, k3, k4⟩ := haX.2.2.2 k hk
  subst eb
  have main : ∀ bb, alm n' fx hd rd pg sg nb ft (en k) (en (k + 1)) (al k) (pthc (fun h => qF eh ed c.toInt h N) (h + 1)) = bb → M_alarm (nI k) (nI h) c m (fun r' m' => K (bI bb) x' r' m') := by
    intro bb ebb
    unfold M_alarm M_alarm_31 M_alarm_47
    intro u1 e1; subst e1
    refine ⟨vp_in_nI (n := 0) (by omega) (by omega), fun y2 e2 => ?_⟩
    have e2 := c15 y2 e2
    subst e2
    refine mx_in0 (by omega) (fun g => ?_) (fun j hj ej => ⟨fun g => absurd g (by decide), fun _ => ?_⟩)
    · exfalso
      rw [show (0 : Int32) = nI 0 from rfl, ni_lt (by omega) (by omega), ni_le (by omega) (by omega)] at g
      omega
    refine mx_there b2 b4 b5 b7 b3.2.2.2.2.1 (fun g => absurd (by rw [tt_0, ti_nI (by omega)]; omega) g) (fun i c' ei hi ec hc y yf ych yck => ⟨fun _ => ?_, fun g => absurd g (by decide)⟩)
    refine mx_isAlarm (A := A) yck hh' h40 (by rw [yf.2.1 11 (by decide)]; exact b2.2.1) hn' hh b3.2.2.2.2.1 (pgM_f hpM0 yf (by decide)) hpk hA6 (alM_f haM0 yf (by decide)) ⟨k2, k3, k4⟩ hal9 hk (fun w wf => ?_)
    rw [ebb, bI_z]
    have wch : chM w n' fx hd N eh ed rd := chM_f ych wf (by decide) (by decide) (by decide) (by decide) (by decide)
    have wff : mf [40, 41, 42] [34, 38, 39] [] (th_si m 0 0) w := mf_t (mf_w yf (by decide) (by decide) (by decide)) (mf_w wf (by decide) (by decide) (by decide))
    cases bb with
    | false => exact ⟨fun _ => fin _ _ _ _ g1 g2 g3 wff wch, fun g => absurd rfl g⟩
    | true => exact ⟨fun g => (by cases g), fun _ => fin _ _ _ _ g1 g2 g3 wff wch⟩
  refine sx_alAt g2 g3 g4 (pgX_f hpX g1) haX' hk hn' hh ?_
  rw [g5, bI_z]
  cases ebb : alm n' fx hd rd pg sg nb ft (en k) (en (k + 1)) (al k) (pthc (fun h => qF eh ed c.toInt h N) (h + 1)) with
  | false => exact ⟨fun _ => main false ebb, fun g => absurd rfl g⟩
  | true => exact ⟨fun g => (by cases g), fun _ => main true ebb⟩
def fstA (T : Nat) (p : Nat → Bool) (r : Int32) : Prop := (r = -1 ∧ ∀ h, h < T → p h = false) ∨ ∃ h, h < T ∧ r = nI h ∧ p h = true ∧ ∀ h', h' < h → p h' = false
theorem sx_fstA {x : xs_St} {n : Nat} {fx : Nat → Bool} {hd : Nat → Int} {N : Nat} {eh ed er ea : Nat → Nat} {rd wd : Nat → Nat → Int} {P : Nat → List Nat} {pg sg nb ft al en : Nat → Nat} {S A k : Nat} {a3 : Int32} {K : Int32 → xs_St → Prop} (hT : txP x n fx hd) (hlg : lgX x n N eh ed er ea rd wd) (hok : lgOk eh ed N) (htr : trX x n fx hd N eh er rd P) (hpg : pgX x 0 n S pg sg nb ft) (hal : alX x 0 A S pg al en) (hk : k < A)
    (h : ∀ r x' P', fstA (thr eh ed a3.toInt N) (fun h => alm n fx hd rd pg sg nb ft (en k) (en (k + 1)) (al k) (pthc (fun h => qF eh ed a3.toInt h N) (h + 1))) r → fF x x' → lgX x' n N eh ed er ea rd wd → trX x' n fx hd N eh er rd P' → K r x') : X_BD_firstAlarmed (nI k) a3 x K := by
  have h40 := thr_40 hlg a3.toInt
  have hn := hT.1
  have hA6 := hal.1
  have hh : ∀ i, i < n → 1 ≤ hd i := fun i hi => (hT.2.2 i (by omega)).2.2.1
  unfold X_BD_firstAlarmed
  obtain ⟨st, s1, s2, s3⟩ := htr.1
  refine sx_lookB hlg hok (fun f hf => ?_) (fun e0 => ?_)
  · refine ⟨thr eh ed a3.toInt N + 1, by omega, ?_⟩
    have e502 : xr (xs_so x 501 f) 502 = some st := s1
    rw [e502]
    have h501 : ∀ k, k < thr eh ed a3.toInt N → xo (xs_so x 501 f) 501 k = some (er (qF eh ed a3.toInt k N)) := fun k hk => by
      show va_up x.2.2.1 501 f 501 k = _
      rw [xu_s]; exact hf k hk
    refine lq5 (F := X_BD_firstAlarmed_16_lp K) (G := X_BD_firstAlarmed_16 K) (fun _ _ _ _ _ _ => rfl) (fun d b1 b2 b3 b4 u => b1 = nI k ∧ b2 = nI (thr eh ed a3.toInt N) ∧ fF x u ∧ (∀ k, k < thr eh ed a3.toInt N → xo u 501 k = some (er (qF eh ed a3.toInt k N))) ∧ lgX u n N eh ed er ea rd wd ∧ ∃ (P' : Nat → List Nat) (c i : Nat), b3 = some c ∧ b4 = nI i ∧ i + d = thr eh ed a3.toInt N ∧ trX u n fx hd N eh er rd P' ∧ xd_is u c 3 ∧ P' c = pthc (fun h => qF eh ed a3.toInt h N) i ∧ ∀ h', h' < i → alm n fx hd rd pg sg nb ft (en k) (en (k + 1)) (al k) (pthc (fun h => qF eh ed a3.toInt h N) (h' + 1)) = false) ?_ (thr eh ed a3.toInt N + 1) (thr eh ed a3.toInt N) _ _ _ _ _ (by omega) ⟨rfl, rfl, fF_so x f, h501, lgX_so hlg, P, st, 0, rfl, rfl, by omega, trX_so htr, s2, s3, fun h' hh' => by omega⟩
    rintro kk d b1 b2 b3 b4 u ⟨rfl, rfl, hfu, u501, ulg, P', c, i, rfl, rfl, hd', utr, uc, uP, hno⟩ ih
    unfold X_BD_firstAlarmed_16 X_BD_firstAlarmed_65
    rw [ni_le (by omega) (by omega)]
    refine br1 (fun q3 => ?_) (fun q3 => ?_)
    · exact h (-1) u P' (Or.inl ⟨rfl, fun h' hh' => hno h' (by omega)⟩) hfu ulg utr
    · have c1 : ((40 : Int32) ≤ nI i) = (40 ≤ i) := ni_le (a := 40) (by omega) (by omega)
      rw [c1]
      refine br1 (fun q4 => by omega) (fun q4 => ⟨vp_in_nI (by omega) (by omega), ?_⟩)
      intro y1 e1
      rw [ni_cl (by omega)] at e1
      subst e1
      refine sx_step (t := a3.toInt) (txP_f hT hfu.1) ulg hok utr uc (by omega) uP (u501 i (by omega)) (fun y P2 b g1 g2 g3 g4 g5 => ?_)
      have fy : fF x y := fF_t hfu (fF_sm g1)
      refine sx_alAt g2 g3 g4 (pgX_f hpg fy) (alX_f hal fy.1) hk hn.2 hh ?_
      rw [g5, bI_z]
      cases ebb : alm n fx hd rd pg sg nb ft (en k) (en (k + 1)) (al k) (pthc (fun h => qF eh ed a3.toInt h N) (i + 1)) with
      | false =>
        refine ⟨fun _ x6 e6 => ?_, fun g => absurd rfl g⟩
        subst e6
        refine ih (d - 1) _ _ _ _ _ (by omega) ⟨rfl, rfl, fy, fun k hk => ?_, g2, P2, b, i + 1, rfl, nI_1 i, by omega, g3, g4, g5, fun h' hh' => ?_⟩
        · unfold xo
          rw [g1.2.2]; exact u501 k hk
        · by_cases e : h' = i
          · subst e; exact ebb
          · exact hno h' (by omega)
      | true => exact ⟨fun g => (by cases g), fun _ => h (nI i) y P2 (Or.inr ⟨i, by omega, rfl, ebb, hno⟩) fy g2 g3⟩
  · refine ⟨1, by omega, ?_⟩
    show X_BD_firstAlarmed_16 K (X_BD_firstAlarmed_16_lp K 0) (nI k) (nI 0) (xr x 502) (nI 0) x
    unfold X_BD_firstAlarmed_16 X_BD_firstAlarmed_65
    rw [ni_le (by omega) (by omega)]
    exact br1 (fun _ => h (-1) x P (Or.inl ⟨rfl, fun h' hh' => by omega⟩) (fF_r x) hlg htr) (fun q => by omega)
theorem sx_alarmed {x : xs_St} {m : th_St} (hB : sBody x m) (hA : sAl x m) {a c : Int32} {K : Int32 → xs_St → Int32 → th_St → Prop}
    (k1 : ∀ r x' m', fF x x' → mf [0, 40, 41, 42] [34, 38, 39] [] m m' → sBody x' m' → K r x' r m') : X_TH_alarmed a c x (fun r x' => M_alarmed a c m (fun r' m' => K r x' r' m')) := by
  obtain ⟨n, fx, hd, N, eh, ed, er, ea, rd, wd, P, hq0⟩ := hB
  have hq := bq_0 hq0 0
  obtain ⟨b1, b2, b3, b4, b5, b6, b7, b8, b9, b10⟩ := id hq
  obtain ⟨n', A, S, pg, sg, nb, ft, al, en, e300, hn', hpX, hpM, haX, haM⟩ := hA
  have hn := b1.1
  have en' := nI_inj (by omega) (by omega) (e300.symm.trans b1.2.1)
  subst en'
  have h40 := thr_40 b3 c.toInt
  have hA6 := haX.1
  have hh : ∀ i, i < n' → 1 ≤ hd i := fun i hi => (b1.2.2 i (by omega)).2.2.1
  have hpk : ∀ s, s < S → (pg s ≤ 4 ∨ (10 ≤ pg s ∧ pg s ≤ 12)) ∧ (pg s ≤ 4 → 60 ≤ sg s ∧ sg s ≤ 62 ∧ nb s ≤ 9999) := fun s hs => ⟨(hpX.2 s hs).1, fun q => ⟨((hpX.2 s hs).2.2 q).2.1, ((hpX.2 s hs).2.2 q).2.2.1, ((hpX.2 s hs).2.2 q).2.2.2.2.1⟩⟩
  have fz : mf [0, 40, 41, 42] [34, 38, 39] [] m (th_si m 0 0) := mf_i (by decide) (mf_r m)
  have z0 : mf [0] [] [] m (th_si m 0 0) := mf_i (by decide) (mf_r m)
  have hpM0 : pgM (th_si m 0 0) 0 n' S pg sg nb ft := pgM_f hpM z0 (by decide)
  have haM0 : alM (th_si m 0 0) 0 0 A al en := alM_f haM z0 (by decide)
  have fin : ∀ r x' P' y, fF x x' → lgX x' n' N eh ed er ea rd wd → trX x' n' fx hd N eh er rd P' → mf [40, 41, 42] [34, 38, 39] [] (th_si m 0 0) y → chM y n' fx hd N eh ed rd → K r x' r y := fun r x' P' y g1 g2 g3 yf ych =>
    k1 r x' y g1 (mf_t fz (mf_w yf (by decide) (by decide) (by decide))) ⟨n', fx, hd, N, eh, ed, er, ea, rd, wd, P', bq_k hq g1 g2 g3 yf (by decide) (by decide) ych⟩
  have c15 : ∀ y2 : Int32, y2 = (th_si m 0 0).2.2.1 15 ((0 : Int32)).toNatClampNeg → y2 = nI A := fun y2 e2 => by rw [e2]; exact haM0.1
  have x305 : xi x 305 = nI A := haX.2.1
  have bad : ¬ (0 ≤ a.toInt ∧ a.toInt < A) → M_alarmed a c m (fun r' m' => K (-1) x r' m') := by
    intro hno
    unfold M_alarmed
    intro u1 e1; subst e1
    refine ⟨vp_in_nI (n := 0) (by omega) (by omega), fun y2 e2 => ?_⟩
    have e2 := c15 y2 e2
    subst e2
    refine mx_in0 (by omega) (fun _ => ⟨fun g => absurd rfl g, fun _ => fin _ _ _ _ (fF_r x) b3 b6 (mf_r _) b7⟩) (fun j hj ej => absurd ?_ hno)
    rw [ej, ti_nI (by omega)]; omega
  unfold X_TH_alarmed X_TH_alarmed_15
  rw [x305, ti_lt, tt_0, ti_lt, ti_nI (by omega)]
  refine br1 (fun q => bad (by omega)) (fun q => br1 (fun q2 => ?_) (fun q2 => bad (by omega)))
  obtain ⟨k, ek⟩ := Int.eq_ofNat_of_zero_le (Int.not_lt.mp q)
  have ea1 := ti_of ek
  subst ea1
  rw [ti_nI (by omega)] at q2
  have hk : k < A := by omega
  obtain ⟨-, hal9, -, k2, k3, k4⟩ := haX.2.2.2 k hk
  refine sx_fstA b1 b3 b5 b6 hpX haX hk (fun r x' P' hr g1 g2 g3 => ?_)
  unfold M_alarmed
  intro u1 e1; subst e1
  refine ⟨vp_in_nI (n := 0) (by omega) (by omega), fun y2 e2 => ?_⟩
  have e2 := c15 y2 e2
  subst e2
  refine mx_in0 (by omega) (fun g => ?_) (fun j hj ej => ⟨fun _ => ?_, fun g => absurd g (by decide)⟩)
  · exfalso
    rw [show (0 : Int32) = nI 0 from rfl, ni_lt (by omega) (by omega), ni_le (by omega) (by omega)] at g
    omega
  refine mx_look b2 b4 b5 b7 b3.2.2.2.2.1 (fun y yf ych yck => ?_)
  refine lqe3 (F := M_alarmed_30_lp (fun r' m'=>K r x' r' m')) (G := M_alarmed_30 (fun r' m'=>K r x' r' m')) (fun _ _ _ _ => rfl) (fun d a1 a2 u => a1 = nI k ∧ mf [] [34] [] y u ∧ ∃ i, a2 = nI i ∧ i + d = thr eh ed c.toInt N ∧ ∀ h', h' < i → alm n' fx hd rd pg sg nb ft (en k) (en (k + 1)) (al k) (pthc (fun h => qF eh ed c.toInt h N) (h' + 1)) = false) ?_ (thr eh ed c.toInt N) _ _ _ ⟨rfl, mf_r y, 0, rfl, by omega, fun h' hh' => by omega⟩
  rintro kk d a1 a2 u ⟨rfl, uf, i, rfl, hid, hno⟩ ih
  have u42 : u.1 42 = nI (thr eh ed c.toInt N) := (uf.1 42 (by decide)).trans yck.1
  have uff : mf [40, 41, 42] [34, 38, 39] [] (th_si m 0 0) u := mf_t (mf_w yf (by decide) (by decide) (by decide)) (mf_w uf (by decide) (by decide) (by decide))
  unfold M_alarmed_30
  rw [u42, ni_le (by omega) (by omega)]
  refine br1 (fun q3 => ?_) (fun q3 => ?_)
  · have er' : r = -1 := by
      rcases hr with ⟨e, -⟩ | ⟨h, h1, -, h3, -⟩
      · exact e
      · exact absurd (h3.symm.trans (hno h (by omega))) (by decide)
    rw [er']
    exact fin _ _ _ _ g1 g2 g3 uff (chM_f ych uf (by decide) (by decide) (by decide) (by decide) (by decide))
  · refine mx_isAlarm (A := A) (ckM_f yck uf (by decide) (by decide) (by decide)) (by omega) h40 (by rw [uf.2.1 11 (by decide), yf.2.1 11 (by decide)]; exact b2.2.1) hn' hh b3.2.2.2.2.1 (pgM_f (pgM_f hpM0 yf (by decide)) uf (by decide)) hpk hA6 (alM_f (alM_f haM0 yf (by decide)) uf (by decide)) ⟨k2, k3, k4⟩ hal9 hk (fun w wf => ?_)
    rw [bI_z]
    cases ebb : alm n' fx hd rd pg sg nb ft (en k) (en (k + 1)) (al k) (pthc (fun h => qF eh ed c.toInt h N) (i + 1)) with
    | false =>
      refine ⟨fun _ x3 e3 => ?_, fun g => absurd rfl g⟩
      subst e3
      refine ih (d - 1) _ _ _ (by omega) ⟨rfl, mf_t uf wf, i + 1, nI_1 i, by omega, fun h' hh' => ?_⟩
      by_cases e : h' = i
      · subst e; exact ebb
      · exact hno h' (by omega)
    | true =>
      refine ⟨fun g => (by cases g), fun _ => ?_⟩
      have er' : r = nI i := by
        rcases hr with ⟨-, h2⟩ | ⟨h, h1, h2, h3, h4⟩
        · have := h2 i (by omega)
          exact absurd (ebb.symm.trans this) (by decide)
        · rw [h2]
          rcases Nat.lt_trichotomy h i with g | g | g
          · exact absurd (h3.symm.trans (hno h g)) (by decide)
          · rw [g]
          · have := h4 i g
            exact absurd (ebb.symm.trans this) (by decide)
      rw [er']
      exact fin _ _ _ _ g1 g2 g3 (mf_t uff (mf_w wf (by decide) (by decide) (by decide))) (chM_f ych (mf_t uf wf) (by decide) (by decide) (by decide) (by decide) (by decide))

/-! the tree of nodes -/
theorem sx_settle {x : xs_St} {b arr c arr2 r ra a0 a1 n : Nat} {fx : Nat → Bool} {hd ga s s0 w w0 : Nat → Int} {K : xs_St → Prop} (hT : txP x n fx hd) (hb : xd_is x b 3) (hc : xd_is x c 3) (h2 : xdR x 2 b = some c) (h1 : xdR x 1 b = some r) (hr : rA x r ra n s w) (hc1 : xdR x 1 c = some a0) (hr0 : rA x a0 a1 n s0 w0) (hga : nA x c arr2 n ga) (h3 : xdR x 3 b = some arr) (h4 : xd_is x arr 4) (hN : xdN x arr = n) (hI : ∀ f, xdI x f b = 0) (hne2 : arr2 ≠ arr) (hne3 : ra ≠ arr) (hne4 : a1 ≠ arr)
    (bga : bdd ga n 7900) (bs1 : ∀ i, -99 ≤ s i ∧ s i ≤ 99) (bs0 : ∀ i, -99 ≤ s0 i ∧ s0 i ≤ 99)
    (h : ∀ y (g : Nat → Int), g = (slF n fx hd (fun i => ga i + s i - s0 i)).1 → kp x y b arr → nA y b arr n g → xdI y 2 b = nI (slF n fx hd (fun i => ga i + s i - s0 i)).2 → xdI y 3 b = nI (mxT (fun i => (g i - ga i).natAbs) n) → xdI y 4 b = nI (fsT (fun i => (g i - ga i).natAbs) n) → K y) : X_Feel_settle_d b x K := by
  have hn := hT.1
  unfold X_Feel_settle_d
  refine ⟨hb, fun _ => ?_, fun q => by rw [h2] at q; cases q⟩
  refine lqe3 (F := X_Feel_settle_d_10_lp K) (G := X_Feel_settle_d_10 K) (fun _ _ _ _ => rfl) (fun d a1' a2 u => a1' = b ∧ kp x u b arr ∧ (∀ f, xdI u f b = 0) ∧ ∃ i, a2 = nI i ∧ i + d = n ∧ ∀ j, j < i → xdA u arr j = iI (ga j + s j - s0 j)) ?_ n _ _ _ ⟨rfl, kp_r x b arr, hI, 0, rfl, by omega, fun j hj => by omega⟩
  rintro k d a1' a2 u ⟨rfl, hk, uI, i, rfl, hdi, uV⟩ ih
  have hb' := (kp_is hk).mpr hb
  have hc' := (kp_is hk).mpr hc
  have h4' := (kp_is hk).mpr h4
  have r3' : xdR u 3 a1' = some arr := by rw [hk.2.2.2.2.2.1]; exact h3
  have r2' : xdR u 2 a1' = some c := by rw [hk.2.2.2.2.2.1]; exact h2
  have r1' : xdR u 1 a1' = some r := by rw [hk.2.2.2.2.2.1]; exact h1
  have rc1' : xdR u 1 c = some a0 := by rw [hk.2.2.2.2.2.1]; exact hc1
  have N' : xdN u arr = n := by rw [hk.2.2.2.2.2.2.2.1]; exact hN
  unfold X_Feel_settle_d_10
  refine ⟨hb', arr, r3', h4', ?_⟩
  rw [N', ni_le (by omega) (by omega)]
  refine br1 (fun q => ⟨hb', ?_⟩) (fun q => ?_)
  · have bd0 : bdd (fun i => ga i + s i - s0 i) n 10000 := fun j hj => by
      have t1 := bga j hj
      have t2 := bs1 j
      have t3 := bs0 j
      show -10000 ≤ ga j + s j - s0 j ∧ ga j + s j - s0 j ≤ 10000
      omega
    refine sx_slipA (txP_f hT hk.1) hb' r3' h4' N' (fun j hj => uV j (by omega)) bd0 (uI 2) (fun y hy yV ys yI => ?_)
    have hbd : bdd (slF n fx hd (fun i => ga i + s i - s0 i)).1 n 10000 := slR_b (fun j hj => (hT.2.2 j (by omega)).2.2.1) _ _ _ _ bd0
    generalize hgg : slF n fx hd (fun i => ga i + s i - s0 i) = gg at *
    have Ly : ∀ j, j < n → ((gg.1 j - ga j).natAbs) ≤ 20000 := fun j hj => by
      have t1 := bga j hj
      have t2 := hbd j hj
      omega
    have ky := kp_t hk hy
    refine lqe3 (F := X_Feel_settle_d_67_lp K) (G := X_Feel_settle_d_67 K) (fun _ _ _ _ => rfl) (fun d2 a1 a2 v => a1 = a1' ∧ kp x v a1' arr ∧ (∀ j, j < n → xdA v arr j = iI (gg.1 j)) ∧ xdI v 2 a1' = nI gg.2 ∧ ∃ i, a2 = nI i ∧ i + d2 = n ∧ xdI v 3 a1' = nI (mxT (fun i => (gg.1 i - ga i).natAbs) i) ∧ xdI v 4 a1' = nI (fsT (fun i => (gg.1 i - ga i).natAbs) i)) ?_ n _ _ _ ⟨rfl, ky, yV, ys, 0, rfl, by omega, by rw [yI 3 (by decide), uI]; rfl, by rw [yI 4 (by decide), uI]; rfl⟩
    rintro k2 d2 a1'' a2 v ⟨rfl, hkv, vV, vs, i2, rfl, hd2, v3, v4⟩ ih2
    have hb2 := (kp_is hkv).mpr hb
    have hc2 := (kp_is hkv).mpr hc
    have h42 := (kp_is hkv).mpr h4
    have r32 : xdR v 3 a1'' = some arr := by rw [hkv.2.2.2.2.2.1]; exact h3
    have r22 : xdR v 2 a1'' = some c := by rw [hkv.2.2.2.2.2.1]; exact h2
    have N2 : xdN v arr = n := by rw [hkv.2.2.2.2.2.2.2.1]; exact hN
    have nA2 : nA v a1'' arr n gg.1 := ⟨r32, h42, Or.inl ⟨N2, vV⟩⟩
    unfold X_Feel_settle_d_67
    refine ⟨hb2, arr, r32, h42, ?_⟩
    rw [N2, ni_le (by omega) (by omega)]
    refine br1 (fun q2 => ?_) (fun q2 => ⟨hb2, ?_⟩)
    · have : i2 = n := by omega
      subst this
      exact h v gg.1 rfl hkv nA2 vs v3 v4
    · have t1 := bga i2 (by omega)
      have t2 := hbd i2 (by omega)
      have t3 := Ly i2 (by omega)
      have t4 := mxT_b (f := fun i => (gg.1 i - ga i).natAbs) (B := 20000) i2 (fun j hj => Ly j (by omega))
      have t5 := fsT_bd (f := fun i => (gg.1 i - ga i).natAbs) (B := 20000) i2 (fun j hj => Ly j (by omega))
      refine sx_loud hb2 hc2 r22 nA2 (kp_nA hkv hne2 hga) hn.2 (by omega) (by omega) (by omega) ?_
      refine ⟨hb2, hb2, ?_⟩
      intro u4 e4
      rw [v4, nI_add] at e4
      have k4 : kp x u4 a1'' arr := by rw [e4]; exact kp_i hkv
      have u4V : xdA u4 arr = xdA v arr := by rw [e4]; rfl
      have u4I : ∀ f, xdI u4 f a1'' = if f = 4 then nI (fsT (fun i => (gg.1 i - ga i).natAbs) (i2 + 1)) else xdI v f a1'' := fun f => by
        rw [e4, xq_dI]
        by_cases e : f = 4
        · rw [if_pos ⟨e, rfl⟩, if_pos e]; rfl
        · rw [if_neg (fun q => e q.1), if_neg e]
      clear e4
      have hb4 := (kp_is k4).mpr hb
      have e3 : xdI u4 3 a1'' = nI (mxT (fun i => (gg.1 i - ga i).natAbs) i2) := by rw [u4I 3, if_neg (by decide)]; exact v3
      refine ⟨hb4, ?_⟩
      rw [e3, ni_le (by omega) (by omega)]
      have fin : ∀ z : Nat, z = mxT (fun i => (gg.1 i - ga i).natAbs) (i2 + 1) → X_Feel_settle_d_109 K k2 a1'' (nI i2) (nI z) a1'' u4 := by
        intro z hz
        unfold X_Feel_settle_d_109
        refine ⟨hb4, ?_⟩
        intro u5 e5 x2 e6
        subst e5; subst e6
        refine ih2 (d2 - 1) _ _ _ (by omega) ⟨rfl, kp_i k4, fun j hj => ?_, ?_, i2 + 1, nI_1 i2, by omega, ?_, ?_⟩
        · show xdA u4 arr j = _
          rw [u4V]; exact vV j hj
        · rw [xq_dI, if_neg (fun q => by cases q.1), u4I 2, if_neg (by decide)]; exact vs
        · rw [xq_dI, if_pos ⟨rfl, rfl⟩, hz]
        · rw [xq_dI, if_neg (fun q => by cases q.1), u4I 4, if_pos rfl]
      refine br1 (fun q3 => ⟨hb4, ?_⟩) (fun q3 => ?_)
      · exact fin _ (by rw [mxT]; omega)
      · exact fin _ (by rw [mxT]; omega)
  · refine ⟨hb', hb', c, r2', hc', ?_⟩
    refine sx_of (z := (i : Int)) hc' (kp_nA hk hne2 hga) hn.2 (by omega) (by omega) ?_
    rw [inF_n (by omega)]
    refine ⟨hb', r, r1', ((kp_rA hk hne3 hr)).1, ?_⟩
    refine sx_str (kp_rA hk hne3 hr) hn.2 (by omega) ?_
    refine ⟨hb', c, r2', hc', a0, rc1', (kp_rA hk hne4 hr0).1, ?_⟩
    refine sx_str (kp_rA hk hne4 hr0) hn.2 (by omega) ?_
    refine ⟨arr, r3', h4', by rw [N']; exact vp_in_nI (by omega) (by omega), ?_⟩
    intro u14 e14
    rw [ni_cl (by omega), ii_add, ii_sub] at e14
    subst e14
    intro x2 e2
    subst e2
    refine ih (d - 1) _ _ _ (by omega) ⟨rfl, kp_a hk, uI, i + 1, nI_1 i, by omega, fun j hj => ?_⟩
    rw [xq_dA, if_pos rfl]
    by_cases e : j = i
    · subst e; rw [pk_us]
    · rw [pk_un e]; exact uV j (by omega)
/-- a list of nodes hanging from o by the field 5 -/
def lkX (x : xs_St) : Option Nat → List Nat → Prop
  | o, [] => o = none
  | o, b :: l => o = some b ∧ lkX x (xdR x 5 b) l
theorem sx_by {x : xs_St} {o r : Option Nat} {K : Option Nat → xs_St → Prop} : ∀ (l : List Nat) (o : Option Nat), lkX x o l → (∀ b, b ∈ l → xd_is x b 3) → (∀ b, b ∈ l → xdR x 1 b = r → K (some b) x) → K none x → ∃ n, X_Feel_behindBy_d_5_lp K n r o x := by
  intro l
  induction l with
  | nil =>
    intro o h _ _ kn
    rw [lkX] at h
    subst h
    refine ⟨1, ?_⟩
    show X_Feel_behindBy_d_5 K _ r none x
    unfold X_Feel_behindBy_d_5 X_Feel_behindBy_d_25
    exact ⟨fun _ => kn, fun q => absurd rfl q⟩
  | cons b l ih =>
    intro o h h3 ks kn
    rw [lkX] at h
    obtain ⟨rfl, h⟩ := h
    obtain ⟨n, hn⟩ := ih _ h (fun c hc => h3 c (List.mem_cons_of_mem _ hc)) (fun c hc => ks c (List.mem_cons_of_mem _ hc)) kn
    refine ⟨n + 1, ?_⟩
    show X_Feel_behindBy_d_5 K (X_Feel_behindBy_d_5_lp K n) r (some b) x
    unfold X_Feel_behindBy_d_5 X_Feel_behindBy_d_25
    have hb := h3 b List.mem_cons_self
    refine ⟨fun q => (by cases q), fun _ => ⟨b, rfl, hb, fun q => ks b List.mem_cons_self q, fun q => ⟨b, rfl, hb, hn⟩⟩⟩
theorem nA0 {x : xs_St} {c arr n : Nat} (h : nA x c arr 0 (fun _ => 0)) : nA x c arr n (fun _ => 0) := by
  refine ⟨h.1, h.2.1, Or.inr ?_⟩
  rcases h.2.2 with ⟨q, -⟩ | q
  · exact ⟨q, fun _ => rfl⟩
  · exact q
theorem rA0 {x : xs_St} {r a n : Nat} (h : rA x r a 0 (fun _ => 0) (fun _ => 0)) : rA x r a n (fun _ => 0) (fun _ => 0) := by
  refine ⟨h.1, h.2.1, h.2.2.1, Or.inr ?_⟩
  rcases h.2.2.2 with ⟨q, -⟩ | q
  · exact ⟨q, fun _ => ⟨rfl, rfl⟩⟩
  · exact q
/-- the log of rows, as it lies there -/
def lgX (x : xs_St) (n N : Nat) (eh ed er ea : Nat → Nat) (rd wd : Nat → Nat → Int) : Prop := N ≤ 100 ∧ xi x 503 = nI N ∧ (∀ j, j < N → xo x 500 j = some (er j) ∧ rA x (er j) (ea j) n (rd j) (wd j) ∧ xdI x 0 (er j) = nI (eh j) ∧ xdI x 1 (er j) = nI (ed j) ∧ eh j < 40 ∧ ed j ≤ 999) ∧ (∀ i j, i < N → j < N → er i = er j → i = j) ∧ (∀ j i, -99 ≤ rd j i ∧ rd j i ≤ 99) ∧ ∀ j i, -50 ≤ wd j i ∧ wd j i ≤ 50
def ndX (x : xs_St) (n : Nat) (fx : Nat → Bool) (hd : Nat → Int) (N : Nat) (eh er : Nat → Nat) (rd : Nat → Nat → Int) (P : Nat → List Nat) (c : Nat) : Prop :=
  (∃ l : List Nat, lkX x (xdR x 4 c) l ∧ ∀ b, b ∈ l → xd_is x b 3 ∧ xdR x 2 b = some c) ∧
  ((P c = [] ∧ xdR x 2 c = none ∧ (∃ r a, xdR x 1 c = some r ∧ rA x r a 0 (fun _ => 0) (fun _ => 0)) ∧ ∃ arr, nA x c arr 0 (fun _ => 0)) ∨
   ∃ j js a arr, P c = j :: js ∧ j < N ∧ eh j = js.length ∧ xdR x 2 c = some a ∧ xd_is x a 3 ∧ P a = js ∧ xdR x 1 c = some (er j) ∧ nA x c arr n (flG n fx hd rd (j :: js)).1 ∧ xdI x 2 c = nI (flG n fx hd rd (j :: js)).2 ∧ xdI x 3 c = nI (mxT (flL n fx hd rd (j :: js)) n) ∧ xdI x 4 c = nI (fsT (flL n fx hd rd (j :: js)) n))
def trX (x : xs_St) (n : Nat) (fx : Nat → Bool) (hd : Nat → Int) (N : Nat) (eh er : Nat → Nat) (rd : Nat → Nat → Int) (P : Nat → List Nat) : Prop := (∃ st, xr x 502 = some st ∧ xd_is x st 3 ∧ P st = []) ∧ ∀ c, xd_is x c 3 → ndX x n fx hd N eh er rd P c
/-- y's pool goes on from x's; of cc the field 4 may change -/
def pxT (x y : xs_St) (cc : Nat) : Prop := ∀ c, c ∈ xdL x → c ∈ xdL y ∧ xdK y c = xdK x c ∧ (∀ f, (f ≠ 4 ∨ c ≠ cc) → xdR y f c = xdR x f c) ∧ (∀ f, xdI y f c = xdI x f c) ∧ xdN y c = xdN x c ∧ xdA y c = xdA x c
theorem pxT_r (x : xs_St) (cc : Nat) : pxT x x cc := fun c h => ⟨h, rfl, fun _ _ => rfl, fun _ => rfl, rfl, rfl⟩
theorem pxT_is {x y : xs_St} {cc c k : Nat} (h : pxT x y cc) (hc : xd_is x c k) : xd_is y c k := ⟨(h c hc.1).1, (h c hc.1).2.1.trans hc.2⟩
theorem pxT_rA {x y : xs_St} {cc r a n : Nat} {s w : Nat → Int} (h : pxT x y cc) (hA : rA x r a n s w) : rA y r a n s w := by
  obtain ⟨a0, a1, a2, a3⟩ := hA
  refine ⟨pxT_is h a0, by rw [(h r a0.1).2.2.1 0 (Or.inl (by decide))]; exact a1, pxT_is h a2, ?_⟩
  rw [(h a a2.1).2.2.2.2.1, (h a a2.1).2.2.2.2.2]; exact a3
theorem pxT_nA {x y : xs_St} {cc c arr n : Nat} {g : Nat → Int} (h : pxT x y cc) (hc : c ∈ xdL x) (hA : nA x c arr n g) : nA y c arr n g := by
  obtain ⟨a1, a2, a3⟩ := hA
  refine ⟨by rw [(h c hc).2.2.1 3 (Or.inl (by decide))]; exact a1, pxT_is h a2, ?_⟩
  rw [(h arr a2.1).2.2.2.2.1, (h arr a2.1).2.2.2.2.2]; exact a3
theorem pxT_lk {x y : xs_St} {cc : Nat} (h : pxT x y cc) : ∀ (l : List Nat) (o : Option Nat), (∀ b, b ∈ l → xd_is x b 3) → lkX x o l → lkX y o l := by
  intro l
  induction l with
  | nil => intro o _ hl; exact hl
  | cons b l ih =>
    intro o h3 hl
    rw [lkX] at hl ⊢
    refine ⟨hl.1, ih _ (fun c hc => h3 c (List.mem_cons_of_mem _ hc)) ?_⟩
    rw [(h b (h3 b List.mem_cons_self).1).2.2.1 5 (Or.inl (by decide))]; exact hl.2
/-- all entries of a path are of the log -/
theorem trX_m {x : xs_St} {n : Nat} {fx : Nat → Bool} {hd : Nat → Int} {N : Nat} {eh er : Nat → Nat} {rd : Nat → Nat → Int} {P : Nat → List Nat} (h : trX x n fx hd N eh er rd P) : ∀ k c, xd_is x c 3 → (P c).length = k → ∀ j, j ∈ P c → j < N := by
  intro k
  induction k with
  | zero =>
    intro c hc hl j hj
    have : P c = [] := List.length_eq_zero_iff.mp hl
    rw [this] at hj; cases hj
  | succ k ih =>
    intro c hc hl j hj
    rcases (h.2 c hc).2 with ⟨h1, -⟩ | ⟨j0, js, a, arr, h1, h2, h3, h4, h5, h6, -⟩
    · rw [h1] at hl; cases hl
    · rw [h1] at hl hj
      rcases List.mem_cons.mp hj with rfl | hj
      · exact h2
      · refine ih a h5 (by rw [h6]; rw [List.length_cons] at hl; omega) j (by rw [h6]; exact hj)
theorem pxT_nd2 {x y : xs_St} {cc c n : Nat} {fx : Nat → Bool} {hd : Nat → Int} {N N' : Nat} {eh er eh' er' : Nat → Nat} {rd rd' : Nat → Nat → Int} {P P' : Nat → List Nat} (h : pxT x y cc) (htr : trX x n fx hd N eh er rd P) (hc : xd_is x c 3) (hP : ∀ c, xd_is x c 3 → P' c = P c) (hN : N ≤ N') (heh : ∀ j, j < N → eh' j = eh j ∧ er' j = er j ∧ rd' j = rd j) : (P' c = [] ∧ xdR y 2 c = none ∧ (∃ r a, xdR y 1 c = some r ∧ rA y r a 0 (fun _ => 0) (fun _ => 0)) ∧ ∃ arr, nA y c arr 0 (fun _ => 0)) ∨
   ∃ j js a arr, P' c = j :: js ∧ j < N' ∧ eh' j = js.length ∧ xdR y 2 c = some a ∧ xd_is y a 3 ∧ P' a = js ∧ xdR y 1 c = some (er' j) ∧ nA y c arr n (flG n fx hd rd' (j :: js)).1 ∧ xdI y 2 c = nI (flG n fx hd rd' (j :: js)).2 ∧ xdI y 3 c = nI (mxT (flL n fx hd rd' (j :: js)) n) ∧ xdI y 4 c = nI (fsT (flL n fx hd rd' (j :: js)) n) := by
  have hmem := trX_m htr (P c).length c hc rfl
  obtain ⟨-, hcase⟩ := htr.2 c hc
  rcases hcase with ⟨h1, h2, ⟨r, a, h3, h4⟩, arr, h5⟩ | ⟨j, js, a, arr, h1, h2, h3, h4, h5, h6, h7, h8, h9, h10, h11⟩
  · refine Or.inl ⟨(hP c hc).trans h1, ?_, ⟨r, a, ?_, pxT_rA h h4⟩, arr, pxT_nA h hc.1 h5⟩
    · rw [(h c hc.1).2.2.1 2 (Or.inl (by decide))]; exact h2
    · rw [(h c hc.1).2.2.1 1 (Or.inl (by decide))]; exact h3
  · have ek := heh j h2
    have hfl : flG n fx hd rd' (j :: js) = flG n fx hd rd (j :: js) := flG_k _ (fun q hq => (heh q (hmem q (by rw [h1]; exact hq))).2.2)
    have hfl2 : flG n fx hd rd' js = flG n fx hd rd js := flG_k _ (fun q hq => (heh q (hmem q (by rw [h1]; exact List.mem_cons_of_mem _ hq))).2.2)
    have hfL : flL n fx hd rd' (j :: js) = flL n fx hd rd (j :: js) := by
      funext i
      unfold flL
      rw [List.tail_cons, hfl, hfl2]
    refine Or.inr ⟨j, js, a, arr, (hP c hc).trans h1, by omega, by rw [ek.1]; exact h3, ?_, pxT_is h h5, (hP a h5).trans h6, ?_, ?_, ?_, ?_, ?_⟩
    · rw [(h c hc.1).2.2.1 2 (Or.inl (by decide))]; exact h4
    · rw [(h c hc.1).2.2.1 1 (Or.inl (by decide)), ek.2.1]; exact h7
    · rw [hfl]; exact pxT_nA h hc.1 h8
    · rw [hfl, (h c hc.1).2.2.2.1]; exact h9
    · rw [hfL, (h c hc.1).2.2.2.1]; exact h10
    · rw [hfL, (h c hc.1).2.2.2.1]; exact h11
theorem pxT_nd {x y : xs_St} {cc c n : Nat} {fx : Nat → Bool} {hd : Nat → Int} {N N' : Nat} {eh er eh' er' : Nat → Nat} {rd rd' : Nat → Nat → Int} {P P' : Nat → List Nat} (h : pxT x y cc) (htr : trX x n fx hd N eh er rd P) (hc : xd_is x c 3) (hne : c ≠ cc) (hP : ∀ c, xd_is x c 3 → P' c = P c) (hN : N ≤ N') (heh : ∀ j, j < N → eh' j = eh j ∧ er' j = er j ∧ rd' j = rd j) : ndX y n fx hd N' eh' er' rd' P' c := by
  obtain ⟨⟨l, hl1, hl2⟩, -⟩ := htr.2 c hc
  refine ⟨⟨l, ?_, fun b hb => ?_⟩, pxT_nd2 h htr hc hP hN heh⟩
  · rw [(h c hc.1).2.2.1 4 (Or.inr hne)]
    exact pxT_lk h l _ (fun b hb => (hl2 b hb).1) hl1
  · have q := hl2 b hb
    exact ⟨pxT_is h q.1, by rw [(h b q.1.1).2.2.1 2 (Or.inl (by decide))]; exact q.2⟩
/-- what a node says of its path -/
theorem ndX_A {x : xs_St} {n : Nat} {fx : Nat → Bool} {hd : Nat → Int} {N : Nat} {eh er : Nat → Nat} {rd : Nat → Nat → Int} {P : Nat → List Nat} {c : Nat} (h : ndX x n fx hd N eh er rd P c) : ∃ arr, nA x c arr n (flG n fx hd rd (P c)).1 := by
  rcases h.2 with ⟨h1, -, -, arr, h5⟩ | ⟨j, js, a, arr, h1, -, -, -, -, -, -, h8, -⟩
  · exact ⟨arr, by rw [h1, flG]; exact nA0 h5⟩
  · exact ⟨arr, by rw [h1]; exact h8⟩
theorem ndX_R {x : xs_St} {n : Nat} {fx : Nat → Bool} {hd : Nat → Int} {N : Nat} {eh ed er ea : Nat → Nat} {rd wd : Nat → Nat → Int} {P : Nat → List Nat} {c : Nat} (hlg : lgX x n N eh ed er ea rd wd) (h : ndX x n fx hd N eh er rd P c) : ∃ r a w, xdR x 1 c = some r ∧ rA x r a n (rd0 rd (P c)) w := by
  rcases h.2 with ⟨h1, -, ⟨r, a, h3, h4⟩, -⟩ | ⟨j, js, a, arr, h1, h2, -, -, -, -, h7, -⟩
  · exact ⟨r, a, fun _ => 0, h3, by rw [h1]; exact rA0 h4⟩
  · exact ⟨er j, ea j, wd j, h7, by rw [h1]; exact (hlg.2.2.1 j h2).2.1⟩
theorem ndX_l {x : xs_St} {n : Nat} {fx : Nat → Bool} {hd : Nat → Int} {N : Nat} {eh ed er ea : Nat → Nat} {rd wd : Nat → Nat → Int} {P : Nat → List Nat} {c : Nat} (hlg : lgX x n N eh ed er ea rd wd) (h : ndX x n fx hd N eh er rd P c) : (P c).length ≤ 40 := by
  rcases h.2 with ⟨h1, -⟩ | ⟨j, js, a, arr, h1, h2, h3, -⟩
  · rw [h1]; exact Nat.zero_le _
  · have := (hlg.2.2.1 j h2).2.2.2.2.1
    rw [h1, List.length_cons]; omega
theorem pxT_lg {x y : xs_St} {cc n N : Nat} {eh ed er ea : Nat → Nat} {rd wd : Nat → Nat → Int} (h : pxT x y cc) (h1 : xi y 503 = xi x 503) (h2 : xo y 500 = xo x 500) (hlg : lgX x n N eh ed er ea rd wd) : lgX y n N eh ed er ea rd wd := by
  obtain ⟨g1, g2, g3, g4, g5, g6⟩ := hlg
  refine ⟨g1, h1.trans g2, fun j hj => ?_, g4, g5, g6⟩
  obtain ⟨q1, q2, q3, q4, q5⟩ := g3 j hj
  refine ⟨by rw [h2]; exact q1, pxT_rA h q2, ?_, ?_, q5⟩
  · rw [(h _ q2.1.1).2.2.2.1]; exact q3
  · rw [(h _ q2.1.1).2.2.2.1]; exact q4

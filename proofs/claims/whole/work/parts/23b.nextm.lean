/-! text: the reference's tokens -/
def pkN (f : Nat → Nat) (p : Nat) : Nat → Nat
  | 0 => 0
  | i + 1 => 256 * pkN f p i + f (p + i)
theorem pkN_b {f : Nat → Nat} {p : Nat} : ∀ i, (∀ j, j < i → f (p + j) < 128) → 2 * pkN f p i + 1 ≤ 256 ^ i := by
  intro i
  induction i with
  | zero => intro _; rw [pkN]; decide
  | succ i ih =>
    intro h
    have h1 := ih (fun j hj => h j (by omega))
    have h2 := h i (by omega)
    rw [pkN, Nat.pow_succ]
    omega
theorem pkN_i {f g : Nat → Nat} {p r : Nat} : ∀ n m, (∀ j, j < n → 1 ≤ f (p + j) ∧ f (p + j) < 256) → (∀ j, j < m → 1 ≤ g (r + j) ∧ g (r + j) < 256) → pkN f p n = pkN g r m → n = m ∧ ∀ j, j < n → f (p + j) = g (r + j) := by
  intro n
  induction n with
  | zero =>
    intro m _ hg e
    cases m with
    | zero => exact ⟨rfl, fun j hj => by omega⟩
    | succ m =>
      rw [pkN, pkN] at e
      have := hg m (by omega)
      omega
  | succ n ih =>
    intro m hf hg e
    cases m with
    | zero =>
      rw [pkN, pkN] at e
      have := hf n (by omega)
      omega
    | succ m =>
      rw [pkN, pkN] at e
      have h1 := hf n (by omega)
      have h2 := hg m (by omega)
      obtain ⟨e1, e2⟩ := ih m (fun j hj => hf j (by omega)) (fun j hj => hg j (by omega)) (by omega)
      subst e1
      refine ⟨rfl, fun j hj => ?_⟩
      by_cases q : j = n
      · subst q; omega
      · exact e2 j (by omega)
theorem pkN_k {f g : Nat → Nat} {p r : Nat} : ∀ n, (∀ j, j < n → f (p + j) = g (r + j)) → pkN f p n = pkN g r n := by
  intro n
  induction n with
  | zero => intro _; rfl
  | succ n ih => intro h; rw [pkN, pkN, ih (fun j hj => h j (by omega)), h n (by omega)]
def wC (t : Nat) : Int64 := lN (pkN (chN t) 0 (lnN t))
theorem w_s8 : ((((8 : Int32)).toInt64 &&& 63)) = (8 : Int64) := by decide
theorem w_smd8 : ((8 : Int64).toBitVec.smod 64) = 8#64 := by decide
theorem l_pk {a c : Nat} (ha : a < 36028797018963968) (hc : c < 256) : (lN a <<< (((8 : Int32)).toInt64 &&& 63)) ||| (nI c).toInt64 = lN (256 * a + c) := by
  have e1 : (lN a).toBitVec = BitVec.ofNat 64 a := rfl
  have e2 : (lN c).toBitVec = BitVec.ofNat 64 c := rfl
  have e3 : (lN (256 * a + c)).toBitVec = BitVec.ofNat 64 (256 * a + c) := rfl
  rw [nI_l (by omega)]
  apply Int64.toBitVec_inj.1
  rw [Int64.toBitVec_or, w_s8, Int64.toBitVec_shiftLeft, w_smd8, e1, e2, e3]
  apply BitVec.eq_of_toNat_eq
  rw [BitVec.toNat_or, BitVec.shiftLeft_eq', BitVec.toNat_shiftLeft, show (8#64).toNat = 8 from rfl, BitVec.toNat_ofNat, BitVec.toNat_ofNat, BitVec.toNat_ofNat]
  rw [Nat.mod_eq_of_lt (show a < 2 ^ 64 by omega), Nat.mod_eq_of_lt (show c < 2 ^ 64 by omega), Nat.mod_eq_of_lt (show 256 * a + c < 2 ^ 64 by omega)]
  have e4 : a <<< 8 = 256 * a := by rw [Nat.shiftLeft_eq]; omega
  rw [Nat.mod_eq_of_lt (show a <<< 8 < 2 ^ 64 by rw [e4]; omega), ← Nat.shiftLeft_add_eq_or_of_lt (show c < 2 ^ 8 by omega), e4]
/-- how the reference has a token of this kind -/
def mTk (u : th_St) (k : Nat) (v : Int32) (L : Nat) : Prop := (k = 0 → (L ≤ 400 → u.1 24 = 0) ∧ (400 < L → u.1 24 = 4)) ∧ (k = 1 → u.1 24 = 4 ∨ (u.1 24 = 1 ∧ ∀ t, 9 ≤ t → t < 27 → u.2.1 32 ≠ wC t)) ∧ (k = 2 → u.1 24 = 2 ∧ u.1 27 = v) ∧ (3 ≤ k → k ≤ 8 → u.1 24 = 3 ∧ u.1 27 = nI (chN k 0)) ∧ (9 ≤ k → k < 27 → u.1 24 = 1 ∧ u.2.1 32 = wC k)
def tkA (b : Nat → Nat) (L T : Nat) (KD PL PP : Nat → Nat) (VL : Nat → Int32) : Prop := T ≤ 400 ∧ tkB b L T KD PL PP VL ∧ KD T = 0 ∧ PL T = min L 400 ∧ PP T ≤ L ∧ ∀ i, PP T ≤ i → i < min L 400 → whc (b i)
theorem bM_f {u y : th_St} {L : Nat} {b : Nat → Nat} {I A J : List Nat} (h : bM u L b) (hy : mf I A J u y) (h3 : 3 ∉ I) (h1 : 1 ∉ A) : bM y L b := by
  unfold bM; rw [hy.1 3 h3, hy.2.1 1 h1]; exact h
theorem mx_small {u : th_St} {c : Nat} {K : Int32 → th_St → Prop} (hc : c < 1000) (h : K (bI (decide (97 ≤ c ∧ c ≤ 122))) u) : M_isSmall (nI c) u K := by
  unfold M_isSmall M_isSmall_16 M_isSmall_17
  have c1 : (nI c < (97 : Int32)) = (c < 97) := ni_lt (b := 97) (by omega) (by omega)
  have c2 : ((122 : Int32) < nI c) = (122 < c) := ni_lt (a := 122) (by omega) (by omega)
  rw [c1, c2]
  refine br1 (fun q => ⟨n010, ?_⟩) (fun q => br1 (fun q2 => ⟨n010, ?_⟩) (fun q2 => ⟨n011, ?_⟩))
  · rw [decide_eq_false (by omega)] at h; exact h
  · rw [decide_eq_false (by omega)] at h; exact h
  · rw [decide_eq_true (by omega)] at h; exact h
theorem mx_digit {u : th_St} {c : Nat} {K : Int32 → th_St → Prop} (hc : c < 1000) (h : K (bI (decide (48 ≤ c ∧ c ≤ 57))) u) : M_isDigit (nI c) u K := by
  unfold M_isDigit M_isDigit_16 M_isDigit_17
  have c1 : (nI c < (48 : Int32)) = (c < 48) := ni_lt (b := 48) (by omega) (by omega)
  have c2 : ((57 : Int32) < nI c) = (57 < c) := ni_lt (a := 57) (by omega) (by omega)
  rw [c1, c2]
  refine br1 (fun q => ⟨n010, ?_⟩) (fun q => br1 (fun q2 => ⟨n010, ?_⟩) (fun q2 => ⟨n011, ?_⟩))
  · rw [decide_eq_false (by omega)] at h; exact h
  · rw [decide_eq_false (by omega)] at h; exact h
  · rw [decide_eq_true (by omega)] at h; exact h
theorem mx_sm1 {u : th_St} {K : Int32 → th_St → Prop} (h : K 0 u) : M_isSmall (-1 : Int32) u K := by
  unfold M_isSmall M_isSmall_16 M_isSmall_17
  exact ⟨fun _ => ⟨n010, h⟩, fun g => absurd (by decide) g⟩
theorem mx_dg1 {u : th_St} {K : Int32 → th_St → Prop} (h : K 0 u) : M_isDigit (-1 : Int32) u K := by
  unfold M_isDigit M_isDigit_16 M_isDigit_17
  exact ⟨fun _ => ⟨n010, h⟩, fun g => absurd (by decide) g⟩
theorem thj_s (m : th_St) (k : Nat) (v : Int64) : (th_sj m k v).2.1 k = v := va_up_self _ _ _
theorem mf_j {I A L : List Nat} {x y : th_St} {k : Nat} {v : Int64} (h : mf I A L x y) : mf I A L x (th_sj y k v) := ⟨h.1, h.2.1, h.2.2⟩
/-- a run, read -/
theorem mx_run {u : th_St} {L q e : Nat} {b : Nat → Nat} {K : th_St → Prop} (hb : bM u L b) (hrun : isRun b L q e) (hqe : q < e) (h4 : u.1 4 = nI q) (h26 : u.1 26 = nI 0)
    (hK : ∀ (y : th_St) (z : Nat), mf [4, 24, 26, 27] [] [] u y → y.1 4 = nI e → y.1 24 = nI z → y.1 27 = iI (nmZ b q (min (e - q) 4)) → y.2.1 32 = lN (pkN b q (min (e - q) 8)) → (((∀ i, q ≤ i → i < e → 97 ≤ b i ∧ b i ≤ 122) ∧ e - q ≤ 8 ∧ z = 1) ∨ ((∀ i, q ≤ i → i < e → 48 ≤ b i ∧ b i ≤ 57) ∧ e - q ≤ 4 ∧ z = 2) ∨ (¬ ((∀ i, q ≤ i → i < e → 97 ≤ b i ∧ b i ≤ 122) ∧ e - q ≤ 8) ∧ ¬ ((∀ i, q ≤ i → i < e → 48 ≤ b i ∧ b i ≤ 57) ∧ e - q ≤ 4) ∧ z = 4)) → K y) : M_next__161 K (nI (b q)) u := by
  have hL := hb.1
  have heL := hrun.2.1
  have hld : ∀ i, q ≤ i → i < e → ldc (b i) := hrun.2.2.1
  have hbq : ∀ i, i < L → b i < 256 := fun i hi => (hb.2.2 i hi).2
  have hb128 : ∀ j, j < e - q → b (q + j) < 128 := fun j hj => by
    have := hld (q + j) (by omega) (by omega)
    unfold ldc at this; omega
  unfold M_next__161
  refine mx_small (by have := hbq q (by omega); omega) ?_
  intro u3 e3 u4 e4
  have f4 : mf [4, 24, 26, 27] [] [] u u4 := by rw [e4, e3]; exact mf_i (by decide) (mf_j (mf_r u))
  have g4 : u4.1 4 = nI q := by rw [e4, thi_n (by decide), e3]; exact h4
  have g26 : u4.1 26 = nI 0 := by rw [e4, thi_n (by decide), e3]; exact h26
  have g27 : u4.1 27 = iI (nmZ b q 0) := by rw [e4]; exact thi_s _ _ _
  have g32 : u4.2.1 32 = lN (pkN b q 0) := by rw [e4, e3]; exact thj_s _ _ _
  clear e3 e4
  generalize hsm : decide (97 ≤ b q ∧ b q ≤ 122) = sm
  refine lqe3 (F := M_next__178_lp K) (G := M_next__178 K) (fun _ _ _ _ => rfl) (fun d a1 a2 v => a1 = bI sm ∧ mf [4, 24, 26, 27] [] [] u v ∧ ∃ (i : Nat) (al : Bool), a2 = bI al ∧ i + d = e - q ∧ v.1 4 = nI (q + i) ∧ v.1 26 = nI i ∧ v.1 27 = iI (nmZ b q (min i 4)) ∧ v.2.1 32 = lN (pkN b q (min i 8)) ∧ (al = true ↔ ∀ j, j < i → decide (97 ≤ b (q + j) ∧ b (q + j) ≤ 122) = sm)) ?_ (e - q) _ _ _ ⟨rfl, f4, 0, true, rfl, by omega, g4, g26, g27, g32, fun _ j hj => by omega, fun _ => rfl⟩
  rintro kk d a1 a2 v ⟨rfl, vf, i, al, rfl, hid, v4, v26, v27, v32, hal⟩ ih
  have vb := bM_f hb vf (by decide) (by decide)
  have exit : i = e - q → ((bI al = 0 → M_next__317 K v) ∧ (¬ bI al = 0 → ((bI sm = 0 → M_next__314 K (bI sm) (4 : Int32) (v.1 26) v) ∧ (¬ bI sm = 0 → M_next__314 K (bI sm) (8 : Int32) (v.1 26) v)))) := by
    intro hie
    have fin : ∀ z : Nat, (((∀ i, q ≤ i → i < e → 97 ≤ b i ∧ b i ≤ 122) ∧ e - q ≤ 8 ∧ z = 1) ∨ ((∀ i, q ≤ i → i < e → 48 ≤ b i ∧ b i ≤ 57) ∧ e - q ≤ 4 ∧ z = 2) ∨ (¬ ((∀ i, q ≤ i → i < e → 97 ≤ b i ∧ b i ≤ 122) ∧ e - q ≤ 8) ∧ ¬ ((∀ i, q ≤ i → i < e → 48 ≤ b i ∧ b i ≤ 57) ∧ e - q ≤ 4) ∧ z = 4)) → M_next__330 K (nI z) v := by
      intro z hz
      unfold M_next__330
      intro u1 e1
      refine hK u1 z (by rw [e1]; exact mf_i (by decide) vf) (by rw [e1, thi_n (by decide), v4, show q + i = e by omega]) (by rw [e1]; exact thi_s _ _ _) (by rw [e1, thi_n (by decide), v27, hie]) (by rw [e1, ← hie]; exact v32) hz
    rw [bI_z, bI_z, v26]
    unfold M_next__317 M_next__314
    have c4 : (nI i ≤ (4 : Int32)) = (i ≤ 4) := ni_le (b := 4) (by omega) (by omega)
    have c8 : (nI i ≤ (8 : Int32)) = (i ≤ 8) := ni_le (b := 8) (by omega) (by omega)
    have q0 : decide (97 ≤ b q ∧ b q ≤ 122) = sm := hsm
    refine br1 (fun q1 => ?_) (fun q1 => br1 (fun q2 => ?_) (fun q2 => ?_))
    · have hno : ¬ ∀ j, j < i → decide (97 ≤ b (q + j) ∧ b (q + j) ≤ 122) = sm := fun g => by rw [hal.mpr g] at q1; cases q1
      refine fin 4 (Or.inr (Or.inr ⟨fun g => hno (fun j hj => ?_), fun g => hno (fun j hj => ?_), rfl⟩))
      · have h1 := g.1 (q + j) (by omega) (by omega)
        have h2 := g.1 q (by omega) (by omega)
        rw [← q0, decide_eq_true h1, decide_eq_true h2]
      · have h1 := g.1 (q + j) (by omega) (by omega)
        have h2 := g.1 q (by omega) (by omega)
        rw [← q0, decide_eq_false (by omega), decide_eq_false (by omega)]
    · have hall := hal.mp (by cases al with | true => rfl | false => exact absurd rfl q1)
      have hdig : ∀ i', q ≤ i' → i' < e → 48 ≤ b i' ∧ b i' ≤ 57 := fun i' h1 h2 => by
        have h3 := hall (i' - q) (by omega)
        rw [show q + (i' - q) = i' by omega, q2] at h3
        have h3 := of_decide_eq_false h3
        have h4 := hld i' h1 h2
        unfold ldc at h4; omega
      rw [c4, bI_z]
      refine br1 (fun q3 => ⟨fun _ => fin 2 (Or.inr (Or.inl ⟨hdig, by omega, rfl⟩)), fun g => absurd q2 g⟩) (fun q3 => ?_)
      refine fin 4 (Or.inr (Or.inr ⟨fun g => ?_, fun g => by omega, rfl⟩))
      have h1 := g.1 q (by omega) (by omega)
      have h2 := hdig q (by omega) (by omega)
      omega
    · have hall := hal.mp (by cases al with | true => rfl | false => exact absurd rfl q1)
      have hsmt : sm = true := by cases sm with | true => rfl | false => exact absurd rfl q2
      have hlet : ∀ i', q ≤ i' → i' < e → 97 ≤ b i' ∧ b i' ≤ 122 := fun i' h1 h2 => by
        have h3 := hall (i' - q) (by omega)
        rw [show q + (i' - q) = i' by omega, hsmt] at h3
        exact of_decide_eq_true h3
      rw [c8, bI_z]
      refine br1 (fun q3 => ⟨fun g => absurd g q2, fun _ => fin 1 (Or.inl ⟨hlet, by omega, rfl⟩)⟩) (fun q3 => ?_)
      refine fin 4 (Or.inr (Or.inr ⟨fun g => by omega, fun g => ?_, rfl⟩))
      have h1 := g.1 q (by omega) (by omega)
      have h2 := hlet q (by omega) (by omega)
      omega
  unfold M_next__178
  by_cases hie : i = e - q
  · have hx := exit hie
    by_cases heq : e < L
    · have hno := hrun.2.2.2 heq
      unfold ldc at hno
      have hbe := hbq e heq
      refine mx_pk vb v4 (by omega) (fun g => by omega) (fun _ => ?_)
      rw [show q + i = e by omega]
      refine mx_small (by omega) ?_
      rw [decide_eq_false (by omega)]
      refine ⟨fun g => absurd rfl g, fun _ => ?_⟩
      refine mx_pk vb v4 (by omega) (fun g => by omega) (fun _ => ?_)
      rw [show q + i = e by omega]
      refine mx_digit (by omega) ?_
      rw [decide_eq_false (by omega)]
      exact ⟨fun _ => hx, fun g => absurd rfl g⟩
    · refine mx_pk vb v4 (by omega) (fun _ => ?_) (fun g => by omega)
      refine mx_sm1 ⟨fun g => absurd rfl g, fun _ => ?_⟩
      refine mx_pk vb v4 (by omega) (fun _ => ?_) (fun g => by omega)
      exact mx_dg1 ⟨fun _ => hx, fun g => absurd rfl g⟩
  · have hi : i < e - q := by omega
    have hqi : q + i < L := by omega
    have hl := hld (q + i) (by omega) (by omega)
    have hbi := hbq (q + i) hqi
    have g272 : ∀ (al' : Bool) (w : th_St), mf [4, 24, 26, 27] [] [] u w → w.1 4 = nI (q + i) → w.1 26 = nI i → w.1 27 = iI (nmZ b q (min (i + 1) 4)) → w.2.1 32 = lN (pkN b q (min (i + 1) 8)) → (al' = true ↔ ∀ j, j < i + 1 → decide (97 ≤ b (q + j) ∧ b (q + j) ≤ 122) = sm) → M_next__272 K kk (bI sm) (bI al') w := by
      intro al' w wf w4 w26 w27 w32 hal'
      unfold M_next__272
      rw [w26, show nI i + (1 : Int32) = nI (i + 1) from nI_1 i]
      intro u1 e1
      have a4 : u1.1 4 = nI (q + i) := by rw [e1, thi_n (by decide)]; exact w4
      rw [a4, show nI (q + i) + (1 : Int32) = nI (q + i + 1) from nI_1 _]
      intro u2 e2
      refine ih (d - 1) _ _ _ (by omega) ⟨rfl, by rw [e2, e1]; exact mf_i (by decide) (mf_i (by decide) wf), i + 1, al', rfl, by omega, by rw [e2]; exact thi_s _ _ _, by rw [e2, thi_n (by decide), e1]; exact thi_s _ _ _, by rw [e2, thi_n (by decide), e1, thi_n (by decide)]; exact w27, by rw [e2, e1]; exact w32, hal'⟩
    have g245 : ∀ (al' : Bool) (w : th_St), mf [4, 24, 26, 27] [] [] u w → w.1 4 = nI (q + i) → w.1 26 = nI i → w.1 27 = iI (nmZ b q (min i 4)) → w.2.1 32 = lN (pkN b q (min (i + 1) 8)) → (al' = true ↔ ∀ j, j < i + 1 → decide (97 ≤ b (q + j) ∧ b (q + j) ≤ 122) = sm) → M_next__245 K kk (bI sm) (bI al') w := by
      intro al' w wf w4 w26 w27 w32 hal'
      unfold M_next__245
      have c4 : ((4 : Int32) ≤ nI i) = (4 ≤ i) := ni_le (a := 4) (by omega) (by omega)
      rw [w26, c4]
      refine br1 (fun q1 => g272 al' w wf w4 w26 (by rw [w27, show min (i + 1) 4 = min i 4 by omega]) w32 hal') (fun q1 => ?_)
      refine mx_pk (bM_f hb wf (by decide) (by decide)) w4 (by omega) (fun g => absurd hqi g) (fun _ => ?_)
      intro u3 e3
      refine g272 al' u3 (by rw [e3]; exact mf_i (by decide) wf) (by rw [e3, thi_n (by decide)]; exact w4) (by rw [e3, thi_n (by decide)]; exact w26) ?_ (by rw [e3]; exact w32) hal'
      rw [e3, thi_s, w27, show (10 : Int32) = iI 10 from rfl, ii_mul, ii_addL, show (48 : Int32) = iI 48 from rfl, ii_sub, show min (i + 1) 4 = i + 1 by omega, show min i 4 = i by omega, nmZ]
    have g218 : ∀ al' : Bool, (al' = true ↔ ∀ j, j < i + 1 → decide (97 ≤ b (q + j) ∧ b (q + j) ≤ 122) = sm) → M_next__218 K kk (bI sm) (bI al') v := by
      intro al' hal'
      unfold M_next__218
      have c8 : ((8 : Int32) ≤ nI i) = (8 ≤ i) := ni_le (a := 8) (by omega) (by omega)
      rw [v26, c8]
      refine br1 (fun q1 => g245 al' v vf v4 v26 v27 (by rw [v32, show min (i + 1) 8 = min i 8 by omega]) hal') (fun q1 => ?_)
      refine mx_pk vb v4 (by omega) (fun g => absurd hqi g) (fun _ => ?_)
      intro u3 e3
      refine g245 al' u3 (by rw [e3]; exact mf_j vf) (by rw [e3]; exact v4) (by rw [e3]; exact v26) (by rw [e3]; exact v27) ?_ hal'
      have hpb := pkN_b (f := b) (p := q) i (fun j hj => hb128 j (by omega))
      have hp7 : 256 ^ i ≤ 256 ^ 7 := Nat.pow_le_pow_right (by decide) (by omega)
      rw [show (256 : Nat) ^ 7 = 72057594037927936 from rfl] at hp7
      rw [e3, thj_s, v32, show min i 8 = i by omega, show min (i + 1) 8 = i + 1 by omega, l_pk (by omega) hbi, pkN]
    have g198 : M_next__198 K kk (bI sm) (bI al) v := by
      unfold M_next__198 M_next__217
      rw [bI_z]
      refine br1 (fun q1 => ?_) (fun q1 => ?_)
      · refine g218 false ⟨fun g => (by cases g), fun g => ?_⟩
        have := hal.mpr (fun j hj => g j (by omega))
        rw [q1] at this; cases this
      · have halt : al = true := by cases al with | true => rfl | false => exact absurd rfl q1
        refine mx_pk vb v4 (by omega) (fun g => absurd hqi g) (fun _ => ?_)
        refine mx_small (by omega) ?_
        have hcmp : (bI (decide (97 ≤ b (q + i) ∧ b (q + i) ≤ 122)) = bI sm) = (decide (97 ≤ b (q + i) ∧ b (q + i) ≤ 122) = sm) := by
          cases decide (97 ≤ b (q + i) ∧ b (q + i) ≤ 122) <;> cases sm <;> simp [bI]
        rw [hcmp]
        refine br2 (fun q2 => ?_) (fun q2 => ?_)
        · exact g218 false ⟨fun g => (by cases g), fun g => absurd (g i (by omega)) q2⟩
        · refine g218 true ⟨fun _ j hj => ?_, fun _ => rfl⟩
          by_cases ej : j = i
          · subst ej; exact q2
          · exact hal.mp halt j (by omega)
    refine mx_pk vb v4 (by omega) (fun g => absurd hqi g) (fun _ => ?_)
    refine mx_small (by omega) ?_
    rw [bI_z]
    refine br2 (fun q1 => g198) (fun q1 => ?_)
    refine mx_pk vb v4 (by omega) (fun g => absurd hqi g) (fun _ => ?_)
    refine mx_digit (by omega) ?_
    rw [bI_z]
    refine br1 (fun q2 => ?_) (fun q2 => g198)
    have h1 := of_decide_eq_false q1
    have h2 := of_decide_eq_false q2
    unfold ldc at hl
    exact absurd hl (by omega)
theorem tx_1 : ∀ t : Fin 27, 3 ≤ t.val → (lnN t.val = 1 ∧ t.val ≤ 8 ∧ (chN t.val 0 = 59 ∨ chN t.val 0 = 40 ∨ chN t.val 0 = 41 ∨ chN t.val 0 = 60 ∨ chN t.val 0 = 61 ∨ chN t.val 0 = 62)) ∨ (9 ≤ t.val ∧ 2 ≤ lnN t.val) := by decide
theorem tx_2 : ∀ t : Fin 27, 9 ≤ t.val → ∀ j : Fin 5, j.val < lnN t.val → 97 ≤ chN t.val j.val ∧ chN t.val j.val ≤ 122 := by decide
theorem mx_next {u : th_St} {L T k : Nat} {b : Nat → Nat} {KD PL PP : Nat → Nat} {VL : Nat → Int32} {K : th_St → Prop} (hb : bM u L b) (hA : tkA b L T KD PL PP VL) (hk : k ≤ T) (h4 : u.1 4 = nI (PP k))
    (hK : ∀ y, mf [4, 24, 25, 26, 27] [] [] u y → y.1 25 = nI (PL k) → (k < T → y.1 4 = nI (PP (k + 1))) → mTk y (KD k) (VL k) L → K y) : M_next_ u K := by
  obtain ⟨hT, htb, hKT, hPT, hPL, hwT⟩ := hA
  have hL := hb.1
  have hbq : ∀ i, i < L → b i < 256 := fun i hi => (hb.2.2 i hi).2
  have hPk : PP k ≤ L := by
    rcases Nat.lt_or_ge k T with g | g
    · exact (htb.2 k g).1.1
    · rw [show k = T by omega]; exact hPL
  have hex : ∀ c p, p + c = L → ∃ q, p ≤ q ∧ q ≤ L ∧ (∀ i, p ≤ i → i < q → whc (b i)) ∧ (q < L → ¬ whc (b q)) := by
    intro c
    induction c with
    | zero => intro p hp; exact ⟨p, by omega, by omega, fun i h1 h2 => by omega, fun h => by omega⟩
    | succ c ih =>
      intro p hp
      by_cases hw : whc (b p)
      · obtain ⟨q, h1, h2, h3, h5⟩ := ih (p + 1) (by omega)
        refine ⟨q, by omega, h2, fun i g1 g2 => ?_, h5⟩
        by_cases e : i = p
        · subst e; exact hw
        · exact h3 i (by omega) g2
      · exact ⟨p, by omega, by omega, fun i h1 h2 => by omega, fun _ => hw⟩
  obtain ⟨q, hq1, hq2, hq3, hq4⟩ := hex (L - PP k) (PP k) (by omega)
  unfold M_next_
  refine lqe1 (F := M_next__0_lp K) (G := M_next__0 K) (fun _ _ => rfl) (fun d v => mf [4] [] [] u v ∧ ∃ i, v.1 4 = nI i ∧ PP k ≤ i ∧ i + d = q) ?_ (q - PP k) _ ⟨mf_r u, PP k, h4, Nat.le_refl _, by omega⟩
  rintro kk d v ⟨vf, i, v4, hPi, hid⟩ ih
  have vb := bM_f hb vf (by decide) (by decide)
  unfold M_next__0
  have white : i < q → M_next__18 K kk v := by
    intro hi
    unfold M_next__18
    rw [v4, show nI i + (1 : Int32) = nI (i + 1) from nI_1 i]
    intro u1 e1
    exact ih (d - 1) _ (by omega) ⟨by rw [e1]; exact mf_i (by decide) vf, i + 1, by rw [e1]; exact thi_s _ _ _, by omega, by omega⟩
  have main : i = q → (∀ u_5 : th_St, u_5 = th_si v 25 (v.1 4) → ∀ u_6 : th_St, u_6 = th_si u_5 26 (0 : Int32) → (((u_6.1 3) ≤ (400 : Int32) → M_next__77 K u_6) ∧ (¬ (u_6.1 3) ≤ (400 : Int32) → (((u_6.1 4) < (400 : Int32) → M_next__77 K u_6) ∧ (¬ (u_6.1 4) < (400 : Int32) → ∀ u_7 : th_St, u_7 = th_si u_6 25 (400 : Int32) → ∀ u_8 : th_St, u_8 = th_si u_7 24 (4 : Int32) → K u_8))))) := by
    intro hi
    subst hi
    intro u5 e5 u6 e6
    have f6 : mf [4, 24, 25, 26, 27] [] [] u u6 := by rw [e6, e5]; exact mf_i (by decide) (mf_i (by decide) (mf_w vf (by decide) (by decide) (by decide)))
    have b6 := bM_f hb f6 (by decide) (by decide)
    have g4 : u6.1 4 = nI i := by rw [e6, thi_n (by decide), e5, thi_n (by decide)]; exact v4
    have g25 : u6.1 25 = nI i := by rw [e6, thi_n (by decide), e5, thi_s]; exact v4
    have g26 : u6.1 26 = nI 0 := by rw [e6]; exact thi_s _ _ _
    clear e5 e6
    have c1 : (nI L ≤ (400 : Int32)) = (L ≤ 400) := ni_le (b := 400) (by omega) (by omega)
    have c2 : (nI i < (400 : Int32)) = (i < 400) := ni_lt (b := 400) (by omega) (by omega)
    rw [b6.2.1, c1, g4, c2]
    have stop : ¬ i < L → L ≤ 400 → M_next__77 K u6 := by
      intro hiL hL4
      have hkT : k = T := by
        rcases Nat.lt_or_ge k T with g | g
        · have h1 := htb.2 k g
          have h2 := h1.2.1
          have : ¬ whc (b (PL k)) := h1.2.2.1
          exact absurd (hq3 (PL k) h1.1.2.2 (by omega)) this
        · omega
      unfold M_next__77
      refine mx_pk b6 g4 (by omega) (fun _ => ?_) (fun g => absurd g hiL)
      refine ⟨fun g => absurd g (by decide), fun _ u7 e7 => ?_⟩
      refine hK u7 (by rw [e7]; exact mf_i (by decide) f6) ?_ (fun g => by omega) ?_
      · rw [e7, thi_n (by decide), g25, hkT, hPT, show min L 400 = i by omega]
      · rw [hkT, hKT]
        exact ⟨fun _ => ⟨fun _ => by rw [e7]; exact thi_s _ _ _, fun g => by omega⟩, fun g => by omega, fun g => by omega, fun g => by omega, fun g => by omega⟩
    have tokn : i < L → i < 400 → M_next__77 K u6 := by
      intro hiL hi4
      have hkT : k < T := by
        rcases Nat.lt_or_ge k T with g | g
        · exact g
        · have ekT : k = T := by omega
          rw [ekT] at hPi
          exact absurd (hwT i hPi (by omega)) (hq4 hiL)
      obtain ⟨⟨-, hw1, hw2⟩, hp1, hp2, ⟨e, he, hPe⟩, hkd, hvl⟩ := htb.2 k hkT
      have hiP : i = PL k := by
        rcases Nat.lt_trichotomy i (PL k) with g | g | g
        · exact absurd (hw1 i hPi g) (hq4 hiL)
        · exact g
        · exact absurd (hq3 (PL k) hw2 g) hp2
      have hbi := hbq i hiL
      unfold M_next__77
      refine mx_pk b6 g4 (by omega) (fun g => absurd hiL g) (fun _ => ?_)
      have c0 : ((0 : Int32) ≤ nI (b i)) = (0 ≤ b i) := ni_le (a := 0) (by omega) (by omega)
      rw [c0]
      refine ⟨fun _ => ?_, fun g => absurd (Nat.zero_le _) g⟩
      rw [← hiP] at he hPe hkd hvl
      have run : ldc (b i) → M_next__161 K (nI (b i)) u6 := by
        intro hl
        have hie : i < e := by
          rcases Nat.lt_or_ge i e with g | g
          · exact g
          · have h1 := he.1
            have : e = i := by omega
            exact absurd hl (by have := he.2.2.2 (by omega); rw [‹e = i›] at this; exact this)
        rw [show max e (i + 1) = e by omega] at hPe
        rw [hPe] at hkd hvl
        have heL := he.2.1
        refine mx_run b6 he hie g4 g26 (fun y z yf y4 y24 y27 y32 hz => ?_)
        refine hK y (mf_t f6 (mf_w yf (by decide) (by decide) (by decide))) (by rw [yf.1 25 (by decide), g25, hiP]) (fun _ => by rw [y4, hPe]) ?_
        rcases hkd with ⟨k1, k2, hwr⟩ | ⟨hno, ⟨hdg, hd4, hk2⟩ | ⟨hnd, hk1⟩⟩
        · rcases tx_1 ⟨KD k, k2⟩ k1 with ⟨l1, l2, l3⟩ | ⟨l1, l2⟩
          · exfalso
            have h1 := hwr.2 0 (by rw [show lnN (KD k) = 1 from l1]; decide)
            rw [Nat.add_zero] at h1
            have l3 : chN (KD k) 0 = 59 ∨ chN (KD k) 0 = 40 ∨ chN (KD k) 0 = 41 ∨ chN (KD k) 0 = 60 ∨ chN (KD k) 0 = 61 ∨ chN (KD k) 0 = 62 := l3
            unfold ldc at hl
            omega
          · have l1 : 9 ≤ KD k := l1
            have h5 : lnN (KD k) ≤ 5 := (ln_t ⟨KD k, k2⟩).2
            have hlet : ∀ i', i ≤ i' → i' < e → 97 ≤ b i' ∧ b i' ≤ 122 := fun i' h1 h2 => by
              have hw := hwr.1
              have h3 := hwr.2 (i' - i) (by omega)
              rw [show i + (i' - i) = i' by omega] at h3
              have h6 : 97 ≤ chN (KD k) (i' - i) ∧ chN (KD k) (i' - i) ≤ 122 := tx_2 ⟨KD k, k2⟩ l1 ⟨i' - i, by omega⟩ (by show i' - i < lnN (KD k); omega)
              omega
            have hw1' := hwr.1
            have z1 : z = 1 := by
              rcases hz with ⟨-, -, g⟩ | ⟨g, -, -⟩ | ⟨g, -, -⟩
              · exact g
              · have h1 := g i (by omega) hie
                have h2 := hlet i (by omega) hie
                omega
              · exact absurd ⟨hlet, by omega⟩ g
            refine ⟨fun g => by omega, fun g => by omega, fun g => by omega, fun _ g => by omega, fun _ _ => ⟨by rw [y24, z1]; rfl, ?_⟩⟩
            rw [y32, show min (e - i) 8 = lnN (KD k) by omega]
            unfold wC
            rw [pkN_k (f := b) (g := chN (KD k)) (p := i) (r := 0) (lnN (KD k)) (fun j hj => by rw [Nat.zero_add]; exact hwr.2 j hj)]
        · have z2 : z = 2 := by
            rcases hz with ⟨g, -, -⟩ | ⟨-, -, g⟩ | ⟨-, g, -⟩
            · have h1 := g i (by omega) hie
              have h2 := hdg i (by omega) hie
              omega
            · exact g
            · exact absurd ⟨hdg, hd4⟩ g
          refine ⟨fun g => by omega, fun g => by omega, fun _ => ⟨by rw [y24, z2]; rfl, ?_⟩, fun g => by omega, fun g => by omega⟩
          rw [y27, hvl]
        · refine ⟨fun g => by omega, fun _ => ?_, fun g => by omega, fun g => by omega, fun g => by omega⟩
          rcases hz with ⟨g1, g2, g3⟩ | ⟨g1, g2, -⟩ | ⟨-, -, g3⟩
          · refine Or.inr ⟨by rw [y24, g3]; rfl, fun t t1 t2 et => ?_⟩
            have h5 : lnN t ≤ 5 := (ln_t ⟨t, t2⟩).2
            rw [y32, show min (e - i) 8 = e - i by omega] at et
            unfold wC at et
            have hb1 := pkN_b (f := b) (p := i) (e - i) (fun j hj => by have := g1 (i + j) (by omega) (by omega); omega)
            have hc5 : ∀ j, j < lnN t → 97 ≤ chN t j ∧ chN t j ≤ 122 := fun j hj => tx_2 ⟨t, t2⟩ t1 ⟨j, by omega⟩ hj
            have hb2 := pkN_b (f := chN t) (p := 0) (lnN t) (fun j hj => by rw [Nat.zero_add]; have := hc5 j hj; omega)
            have hp8 : 256 ^ (e - i) ≤ 256 ^ 8 := Nat.pow_le_pow_right (by decide) (by omega)
            have hp9 : 256 ^ (lnN t) ≤ 256 ^ 8 := Nat.pow_le_pow_right (by decide) (by omega)
            rw [show (256 : Nat) ^ 8 = 18446744073709551616 from rfl] at hp8 hp9
            rw [ll_eq (by omega) (by omega)] at et
            obtain ⟨i1, i2⟩ := pkN_i (f := b) (g := chN t) (p := i) (r := 0) (e - i) (lnN t) (fun j hj => by have := g1 (i + j) (by omega) (by omega); omega) (fun j hj => by rw [Nat.zero_add]; have := hc5 j hj; omega) et
            exact hno t (by omega) t2 ⟨i1.symm, fun j hj => by have := i2 j (by omega); rw [Nat.zero_add] at this; exact this⟩
          · exact absurd ⟨g1, g2⟩ hnd
          · exact Or.inl (by rw [y24, g3]; rfl)
      refine mx_small (by omega) ?_
      rw [bI_z]
      refine br2 (fun g => run (Or.inl (of_decide_eq_true (by revert g; cases decide (97 ≤ b i ∧ b i ≤ 122) <;> simp)))) (fun g1 => ?_)
      refine mx_digit (by omega) ?_
      rw [bI_z]
      refine br2 (fun g => run (Or.inr (of_decide_eq_true (by revert g; cases decide (48 ≤ b i ∧ b i ≤ 57) <;> simp)))) (fun g2 => ?_)
      have n1 := of_decide_eq_false g1
      have n2 := of_decide_eq_false g2
      have hei : e = i := by
        rcases Nat.lt_or_ge i e with g | g
        · have := he.2.2.1 i (by omega) g
          unfold ldc at this; omega
        · have := he.1; omega
      rw [show max e (i + 1) = i + 1 by omega] at hPe
      rw [hPe] at hkd
      have hcase : ((3 ≤ KD k ∧ KD k ≤ 8) ∧ b i = chN (KD k) 0 ∧ (b i = 59 ∨ b i = 40 ∨ b i = 41 ∨ b i = 60 ∨ b i = 61 ∨ b i = 62)) ∨ (KD k = 1 ∧ ¬ (b i = 59 ∨ b i = 40 ∨ b i = 41 ∨ b i = 60 ∨ b i = 61 ∨ b i = 62)) := by
        rcases hkd with ⟨k1, k2, hwr⟩ | ⟨hno, ⟨hdg, -, -⟩ | ⟨-, hk1⟩⟩
        · have hw := hwr.1
          rcases tx_1 ⟨KD k, k2⟩ k1 with ⟨l1, l2, l3⟩ | ⟨l1, l2⟩
          · have l1 : lnN (KD k) = 1 := l1
            have l2 : KD k ≤ 8 := l2
            have h1 := hwr.2 0 (by omega)
            rw [Nat.add_zero] at h1
            exact Or.inl ⟨⟨k1, l2⟩, h1, by rw [h1]; exact l3⟩
          · have l2 : 2 ≤ lnN (KD k) := l2
            omega
        · exact absurd (hdg i (by omega) (by omega)) n2
        · refine Or.inr ⟨hk1, fun g => ?_⟩
          have w1 : ∀ t, 3 ≤ t → t < 27 → lnN t = 1 → b i = chN t 0 → False := fun t t1 t2 t3 t4 => hno t t1 t2 ⟨by omega, fun j hj => by rw [show j = 0 by omega, Nat.add_zero]; exact t4⟩
          rcases g with g | g | g | g | g | g
          · exact w1 3 (by decide) (by decide) rfl g
          · exact w1 4 (by decide) (by decide) rfl g
          · exact w1 5 (by decide) (by decide) rfl g
          · exact w1 6 (by decide) (by decide) rfl g
          · exact w1 7 (by decide) (by decide) rfl g
          · exact w1 8 (by decide) (by decide) rfl g
      have fin : ∀ z : Nat, (z = 3 ∧ (b i = 59 ∨ b i = 40 ∨ b i = 41 ∨ b i = 60 ∨ b i = 61 ∨ b i = 62)) ∨ (z = 4 ∧ ¬ (b i = 59 ∨ b i = 40 ∨ b i = 41 ∨ b i = 60 ∨ b i = 61 ∨ b i = 62)) → M_next__142 K (nI (b i)) (nI z) u6 := by
        intro z hz
        unfold M_next__142
        intro u1 e1 u2 e2
        have a4 : u2.1 4 = nI i := by rw [e2, thi_n (by decide), e1, thi_n (by decide)]; exact g4
        rw [a4, show nI i + (1 : Int32) = nI (i + 1) from nI_1 i]
        intro u3 e3
        have a24 : u3.1 24 = nI z := by rw [e3, thi_n (by decide), e2, thi_n (by decide), e1]; exact thi_s _ _ _
        have a27 : u3.1 27 = nI (b i) := by rw [e3, thi_n (by decide), e2]; exact thi_s _ _ _
        refine hK u3 (by rw [e3, e2, e1]; exact mf_i (by decide) (mf_i (by decide) (mf_i (by decide) f6))) (by rw [e3, thi_n (by decide), e2, thi_n (by decide), e1, thi_n (by decide), g25, hiP]) (fun _ => by rw [e3, thi_s, hPe]) ?_
        rcases hcase with ⟨⟨c3, c4⟩, c5, c6⟩ | ⟨c3, c4⟩
        · have z3 : z = 3 := by
            rcases hz with ⟨g, -⟩ | ⟨-, g⟩
            · exact g
            · exact absurd c6 g
          exact ⟨fun g => by omega, fun g => by omega, fun g => by omega, fun _ _ => ⟨by rw [a24, z3]; rfl, by rw [a27, c5]⟩, fun g => by omega⟩
        · have z4 : z = 4 := by
            rcases hz with ⟨-, g⟩ | ⟨g, -⟩
            · exact absurd g c4
            · exact g
          exact ⟨fun g => by omega, fun _ => Or.inl (by rw [a24, z4]; rfl), fun g => by omega, fun g => by omega, fun g => by omega⟩
      unfold M_next__137 M_next__141
      have d1 : (nI (b i) = (59 : Int32)) = (b i = 59) := ni_eq (b := 59) (by omega) (by omega)
      have d2 : (nI (b i) = (40 : Int32)) = (b i = 40) := ni_eq (b := 40) (by omega) (by omega)
      have d3 : (nI (b i) = (41 : Int32)) = (b i = 41) := ni_eq (b := 41) (by omega) (by omega)
      have d4 : (nI (b i) < (60 : Int32)) = (b i < 60) := ni_lt (b := 60) (by omega) (by omega)
      have d5 : ((62 : Int32) < nI (b i)) = (62 < b i) := ni_lt (a := 62) (by omega) (by omega)
      rw [d1, d2, d3, d4, d5]
      exact br1 (fun p => fin 3 (Or.inl ⟨rfl, by omega⟩)) (fun p1 => br1 (fun p => fin 3 (Or.inl ⟨rfl, by omega⟩)) (fun p2 => br1 (fun p => fin 3 (Or.inl ⟨rfl, by omega⟩)) (fun p3 => br1 (fun p => fin 4 (Or.inr ⟨rfl, by omega⟩)) (fun p4 => br1 (fun p => fin 4 (Or.inr ⟨rfl, by omega⟩)) (fun p => fin 3 (Or.inl ⟨rfl, by omega⟩))))))
    have hboth : L ≤ 400 → M_next__77 K u6 := fun h4' => by
      by_cases g : i < L
      · exact tokn g (by omega)
      · exact stop g h4'
    refine br1 hboth (fun g4' => br1 (fun g5 => tokn (by omega) g5) (fun g5 => ?_))
    intro u7 e7 u8 e8
    have hkT : k = T := by
      rcases Nat.lt_or_ge k T with g | g
      · have h1 := htb.2 k g
        have h2 := h1.2.1
        exact absurd (hq3 (PL k) h1.1.2.2 (by omega)) h1.2.2.1
      · omega
    refine hK u8 (by rw [e8, e7]; exact mf_i (by decide) (mf_i (by decide) f6)) ?_ (fun g => by omega) ?_
    · rw [e8, thi_n (by decide), e7, thi_s, hkT, hPT, show min L 400 = 400 by omega]; rfl
    · rw [hkT, hKT]
      exact ⟨fun _ => ⟨fun g => by omega, fun _ => by rw [e8]; exact thi_s _ _ _⟩, fun g => by omega, fun g => by omega, fun g => by omega, fun g => by omega⟩
  by_cases hiq : i = q
  · have hm := main hiq
    by_cases hiL : i < L
    · have hnw := hq4 (by omega)
      rw [← hiq] at hnw
      unfold whc at hnw
      have hbi := hbq i hiL
      have d1 : (nI (b i) = (32 : Int32)) = (b i = 32) := ni_eq (b := 32) (by omega) (by omega)
      have d2 : (nI (b i) = (10 : Int32)) = (b i = 10) := ni_eq (b := 10) (by omega) (by omega)
      refine mx_pk vb v4 (by omega) (fun g => absurd hiL g) (fun _ => ?_)
      rw [d1]
      refine ⟨fun g => by omega, fun _ => ?_⟩
      refine mx_pk vb v4 (by omega) (fun g => absurd hiL g) (fun _ => ?_)
      rw [d2]
      exact ⟨fun _ => hm, fun g => by omega⟩
    · refine mx_pk vb v4 (by omega) (fun _ => ?_) (fun g => absurd g hiL)
      refine ⟨fun g => absurd g (by decide), fun _ => ?_⟩
      refine mx_pk vb v4 (by omega) (fun _ => ?_) (fun g => absurd g hiL)
      exact ⟨fun _ => hm, fun g => absurd g (by decide)⟩
  · have hi : i < q := by omega
    have hw := hq3 i hPi hi
    unfold whc at hw
    have hbi := hbq i (by omega)
    have d1 : (nI (b i) = (32 : Int32)) = (b i = 32) := ni_eq (b := 32) (by omega) (by omega)
    have d2 : (nI (b i) = (10 : Int32)) = (b i = 10) := ni_eq (b := 10) (by omega) (by omega)
    refine mx_pk vb v4 (by omega) (fun g => by omega) (fun _ => ?_)
    rw [d1]
    refine br1 (fun _ => white hi) (fun g => ?_)
    refine mx_pk vb v4 (by omega) (fun g => by omega) (fun _ => ?_)
    rw [d2]
    exact ⟨fun g2 => by omega, fun _ => white hi⟩

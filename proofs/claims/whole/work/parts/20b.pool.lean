/-! the pool: reading nodes and rows; the slipping of a new node -/
theorem xu_s {α : Type} (f : Nat → α) (k : Nat) (v : α) : va_up f k v k = v := by rw [va_upE, if_pos rfl]
theorem xu_n {α : Type} (f : Nat → α) {k j : Nat} (v : α) (h : j ≠ k) : va_up f k v j = f j := by rw [va_upE, if_neg h]
/-- an array of numbers of n feet, or none at all: all is 0 -/
def nA (x : xs_St) (c arr n : Nat) (g : Nat → Int) : Prop := xdR x 3 c = some arr ∧ xd_is x arr 4 ∧ ((xdN x arr = n ∧ ∀ i, i < n → xdA x arr i = iI (g i)) ∨ (xdN x arr = 0 ∧ ∀ i, g i = 0))
def rA (x : xs_St) (r a n : Nat) (s w : Nat → Int) : Prop := xd_is x r 1 ∧ xdR x 0 r = some a ∧ xd_is x a 2 ∧ ((xdN x a = 2 * n ∧ ∀ i, i < n → xdA x a i = iI (s i) ∧ xdA x a (n + i) = iI (w i)) ∨ (xdN x a = 0 ∧ ∀ i, s i = 0 ∧ w i = 0))
def inF (n : Nat) (g : Nat → Int) (z : Int) : Int := if 0 ≤ z ∧ z < n then g z.toNat else 0
theorem inF_n {n : Nat} {g : Nat → Int} {i : Nat} (h : i < n) : inF n g i = g i := by
  unfold inF; rw [if_pos (by omega)]; rfl
theorem sx_of {x : xs_St} {c arr n : Nat} {g : Nat → Int} {z : Int} {K : Int32 → xs_St → Prop} (hc : xd_is x c 3) (hA : nA x c arr n g) (hn : n ≤ 48) (h1 : -1000 ≤ z) (h2 : z ≤ 1000) (h : K (iI (inF n g z)) x) : X_Feel_of_d c (iI z) x K := by
  obtain ⟨a1, a2, a3⟩ := hA
  have c0 : (iI z < (0 : Int32)) = (z < 0) := ii_lt (b := 0) (by omega) (by omega) (by omega) (by omega)
  unfold X_Feel_of_d X_Feel_of_d_22 X_Feel_of_d_23
  rw [c0]
  refine br1 (fun q => ?_) (fun q => ?_)
  · have : inF n g z = 0 := by unfold inF; rw [if_neg (by omega)]
    rw [this] at h; exact h
  · refine ⟨hc, arr, a1, a2, ?_⟩
    rcases a3 with ⟨hN, hV⟩ | ⟨hN, hV⟩
    · rw [hN]
      have c1 : (nI n ≤ iI z) = ((n : Int) ≤ z) := ii_leR (by omega) (by omega) (by omega)
      rw [c1]
      refine br1 (fun q2 => ?_) (fun q2 => ?_)
      · have : inF n g z = 0 := by unfold inF; rw [if_neg (by omega)]
        rw [this] at h; exact h
      · refine ⟨hc, arr, a1, a2, ?_⟩
        obtain ⟨i, hi⟩ := Int.eq_ofNat_of_zero_le (Int.not_lt.mp q)
        subst hi
        rw [hN]
        refine ⟨vp_in_nI (n := i) (by omega) (by omega), ?_⟩
        intro y e
        rw [show iI ((i : Nat) : Int) = nI i from rfl, ni_cl (by omega), hV i (by omega)] at e
        rw [inF_n (by omega)] at h
        rw [e]; exact h
    · have : inF n g z = 0 := by
        unfold inF
        by_cases e : 0 ≤ z ∧ z < n
        · rw [if_pos e]; exact hV _
        · rw [if_neg e]
      rw [this] at h
      rw [hN]
      have c1 : (nI 0 ≤ iI z) = (((0 : Nat) : Int) ≤ z) := ii_leR (by omega) (by omega) (by omega)
      rw [c1]
      exact br1 (fun _ => h) (fun q2 => by omega)
theorem sx_str {x : xs_St} {r a n : Nat} {s w : Nat → Int} {i : Nat} {K : Int32 → xs_St → Prop} (hR : rA x r a n s w) (hn : n ≤ 48) (hi : i < n) (h : K (iI (s i)) x) : X_Row_stretch_d r (nI i) x K := by
  obtain ⟨a0, a1, a2, a3⟩ := hR
  unfold X_Row_stretch_d X_Row_stretch_d_24 X_Row_stretch_d_25
  rw [show (0 : Int32) = nI 0 from rfl, ni_lt (by omega) (by omega)]
  refine br1 (fun q => by omega) (fun q => ?_)
  refine ⟨a0, a, a1, a2, by decide, ?_⟩
  rcases a3 with ⟨hN, hV⟩ | ⟨hN, hV⟩
  · rw [hN, show (2 : Int32) = nI 2 from rfl, ni_div (by omega) (by omega) (by omega), show 2 * n / 2 = n by omega, ni_le (by omega) (by omega)]
    refine br1 (fun q2 => by omega) (fun q2 => ⟨a0, a, a1, a2, ?_⟩)
    rw [hN]
    refine ⟨vp_in_nI (by omega) (by omega), ?_⟩
    intro y e
    rw [ni_cl (by omega), (hV i hi).1] at e
    rw [e]; exact h
  · rw [hN, show (2 : Int32) = nI 2 from rfl, ni_div (by omega) (by omega) (by omega), show 0 / 2 = 0 from rfl, ni_le (by omega) (by omega)]
    refine br1 (fun q2 => ?_) (fun q2 => by omega)
    rw [(hV i).1] at h; exact h
theorem sx_warm {x : xs_St} {r a n : Nat} {s w : Nat → Int} {z : Int} {K : Int32 → xs_St → Prop} (hR : rA x r a n s w) (hn : n ≤ 48) (h1 : -1000 ≤ z) (h2 : z ≤ 1000) (h : K (iI (inF n w z)) x) : X_Row_warmth_d r (iI z) x K := by
  obtain ⟨a0, a1, a2, a3⟩ := hR
  have c0 : (iI z < (0 : Int32)) = (z < 0) := ii_lt (b := 0) (by omega) (by omega) (by omega) (by omega)
  unfold X_Row_warmth_d X_Row_warmth_d_39 X_Row_warmth_d_40
  refine ⟨a0, a, a1, a2, by decide, ?_⟩
  intro y2 e2
  rcases a3 with ⟨hN, hV⟩ | ⟨hN, hV⟩
  · rw [hN, show (2 : Int32) = nI 2 from rfl, ni_div (by omega) (by omega) (by omega), show 2 * n / 2 = n by omega] at e2
    subst e2
    rw [c0]
    refine br1 (fun q => ?_) (fun q => ?_)
    · have : inF n w z = 0 := by unfold inF; rw [if_neg (by omega)]
      rw [this] at h; exact h
    · have c1 : (nI n ≤ iI z) = ((n : Int) ≤ z) := ii_leR (by omega) (by omega) (by omega)
      rw [c1]
      refine br1 (fun q2 => ?_) (fun q2 => ?_)
      · have : inF n w z = 0 := by unfold inF; rw [if_neg (by omega)]
        rw [this] at h; exact h
      · obtain ⟨i, hi⟩ := Int.eq_ofNat_of_zero_le (Int.not_lt.mp q)
        subst hi
        refine ⟨a0, a, a1, a2, ?_⟩
        rw [hN, show iI ((i : Nat) : Int) = nI i from rfl, nI_add, ni_le (by omega) (by omega)]
        refine br1 (fun q3 => by omega) (fun q3 => ⟨a0, a, a1, a2, ?_⟩)
        rw [hN]
        refine ⟨vp_in_nI (by omega) (by omega), ?_⟩
        intro y e
        rw [ni_cl (by omega), (hV i (by omega)).2] at e
        rw [inF_n (by omega)] at h
        rw [e]; exact h
  · have hz : inF n w z = 0 := by
      unfold inF
      by_cases e : 0 ≤ z ∧ z < n
      · rw [if_pos e]; exact (hV _).2
      · rw [if_neg e]
    rw [hz] at h
    rw [hN, show (2 : Int32) = nI 2 from rfl, ni_div (by omega) (by omega) (by omega), show 0 / 2 = 0 from rfl] at e2
    subst e2
    have c1 : (nI 0 ≤ iI z) = (((0 : Nat) : Int) ≤ z) := ii_leR (by omega) (by omega) (by omega)
    rw [c0, c1]
    exact br1 (fun _ => h) (fun q => br1 (fun _ => h) (fun q2 => by omega))
/-- the change of a foot without its sign -/
theorem sx_loud {x : xs_St} {c a arr arr2 n : Nat} {g g2 : Nat → Int} {i : Nat} {K : Int32 → xs_St → Prop} (hc : xd_is x c 3) (ha : xd_is x a 3) (hca : xdR x 2 c = some a) (hA : nA x c arr n g) (hA2 : nA x a arr2 n g2) (hn : n ≤ 48) (hi : i < n) (b1 : -10000 ≤ g i ∧ g i ≤ 10000) (b2 : -10000 ≤ g2 i ∧ g2 i ≤ 10000) (h : K (nI (g i - g2 i).natAbs) x) : X_Feel_loudness_d c (nI i) x K := by
  unfold X_Feel_loudness_d
  refine ⟨hc, fun _ => ⟨hc, ?_⟩, fun q => by rw [hca] at q; cases q⟩
  refine sx_of (z := (i : Int)) hc hA hn (by omega) (by omega) ?_
  refine ⟨hc, a, hca, ha, ?_⟩
  refine sx_of (z := (i : Int)) ha hA2 hn (by omega) (by omega) ?_
  rw [inF_n hi, inF_n hi, ii_sub]
  unfold X_Feel_loudness_d_25 X_Feel_loudness_d_36
  have e : ((0 : Int32) ≤ iI (g i - g2 i)) = (0 ≤ g i - g2 i) := ii_le (a := 0) (by omega) (by omega) (by omega) (by omega)
  rw [e]
  refine br1 (fun q => ?_) (fun q => ?_)
  · rw [ii_nA q]; exact h
  · rw [ii_neg, ii_nB (by omega)]; exact h
/-- the text's feet and bed -/
def txP (x : xs_St) (n : Nat) (fx : Nat → Bool) (hd : Nat → Int) : Prop := (4 ≤ n ∧ n ≤ 48) ∧ xi x 300 = nI n ∧ ∀ i, i < 48 → xa x 307 i = (if fx i = true then 1 else 0) ∧ xa x 308 i = iI (hd i) ∧ 1 ≤ hd i ∧ hd i ≤ 99
theorem txP_f {x y : xs_St} {n : Nat} {fx : Nat → Bool} {hd : Nat → Int} (h : txP x n fx hd) (e : y.1 = x.1) : txP y n fx hd := by
  unfold txP xi xa at *; rw [e]; exact h
theorem b01 {b : Bool} : ((if b = true then (1 : Int32) else 0) = 0) = (b = false) := by cases b <;> simp <;> decide
theorem sx_slS {x : xs_St} {arr n i : Nat} {fx : Nat → Bool} {hd g : Nat → Int} {K : Int32 → xs_St → Prop} (hT : txP x n fx hd) (h4 : xd_is x arr 4) (hN : xdN x arr = n) (hV : ∀ i, i < n → xdA x arr i = iI (g i)) (hb : bdd g n 10000) (hi : i + 1 < n) (h1 : slS fx hd g i = true → K 1 x) (h0 : ¬ slS fx hd g i = true → K 0 x) : X_T_slipsAt_A (nI i) (some arr) x K := by
  obtain ⟨hn, h300, hF⟩ := hT
  have f1 := hF i (by omega)
  have f2 := hF (i + 1) (by omega)
  have g1 := hb i (by omega)
  have g2 := hb (i + 1) hi
  have K0 : ¬ slS fx hd g i = true → X_T_slipsAt_A_42 K x := fun q => by unfold X_T_slipsAt_A_42; exact ⟨n010, h0 q⟩
  have K1 : slS fx hd g i = true → X_T_slipsAt_A_75 K x := fun q => by unfold X_T_slipsAt_A_75 X_T_slipsAt_A_80; exact ⟨n011, h1 q⟩
  unfold X_T_slipsAt_A
  rw [show nI i + (1 : Int32) = nI (i + 1) from nI_1 i, h300]
  have c0 : (nI i < (0 : Int32)) = (i < 0) := ni_lt (b := 0) (by omega) (by omega)
  rw [c0]
  refine br1 (fun q => by omega) (fun q => ⟨arr, rfl, h4, ?_⟩)
  rw [hN, ni_le (by omega) (by omega)]
  refine br1 (fun q => by omega) (fun q => br1 (fun q2 => by omega) (fun q2 => ⟨vp_in_nI (by omega) (by omega), ?_⟩))
  intro y2 e2
  rw [ni_cl (by omega), f1.1] at e2
  subst e2
  rw [b01]
  refine br2 (fun q3 => K0 (fun q4 => q3 (slS_i.mp q4).1)) (fun q3 => ⟨vp_in_nI (by omega) (by omega), ?_⟩)
  intro y3 e3
  rw [ni_cl (by omega), f2.1] at e3
  subst e3
  rw [b01]
  refine br1 (fun q4 => ⟨arr, rfl, h4, ?_⟩) (fun q4 => K0 (fun q5 => q4 (slS_i.mp q5).2.1))
  refine ⟨by rw [hN]; exact vp_in_nI (by omega) (by omega), ?_⟩
  intro y4 e4
  rw [ni_cl (by omega), hV i (by omega)] at e4
  subst e4
  refine ⟨arr, rfl, h4, by rw [hN]; exact vp_in_nI (by omega) (by omega), ?_⟩
  intro y6 e6
  rw [ni_cl (by omega), hV (i + 1) hi] at e6
  subst e6
  intro y8 e8
  rw [ii_sub] at e8
  subst e8
  refine ⟨vp_in_nI (by omega) (by omega), ?_⟩
  intro y9 e9
  rw [ni_cl (by omega), f1.2.1] at e9
  subst e9
  rw [ii_lt (by omega) (by omega) (by omega) (by omega)]
  refine br1 (fun q5 => K1 (slS_i.mpr ⟨q3, q4, by omega⟩)) (fun q5 => ⟨vp_in_nI (by omega) (by omega), ?_⟩)
  intro y10 e10
  rw [ni_cl (by omega), f1.2.1] at e10
  subst e10
  rw [ii_neg, ii_le (by omega) (by omega) (by omega) (by omega)]
  unfold X_T_slipsAt_A_80
  refine br1 (fun q6 => ⟨n010, h0 (fun q7 => ?_)⟩) (fun q6 => K1 (slS_i.mpr ⟨q3, q4, by omega⟩))
  have := (slS_i.mp q7).2.2
  omega
/-- all is kept but the ints of b and the contents of arr -/
def kp (x u : xs_St) (b arr : Nat) : Prop := u.1 = x.1 ∧ u.2.1 = x.2.1 ∧ u.2.2.1 = x.2.2.1 ∧ xdL u = xdL x ∧ (∀ c, xdK u c = xdK x c) ∧ (∀ f c, xdR u f c = xdR x f c) ∧ (∀ f c, c ≠ b → xdI u f c = xdI x f c) ∧ (∀ c, xdN u c = xdN x c) ∧ ∀ c, c ≠ arr → xdA u c = xdA x c
theorem kp_r (x : xs_St) (b arr : Nat) : kp x x b arr := ⟨rfl, rfl, rfl, rfl, fun _ => rfl, fun _ _ => rfl, fun _ _ _ => rfl, fun _ => rfl, fun _ _ => rfl⟩
theorem kp_t {x y z : xs_St} {b arr : Nat} (h : kp x y b arr) (h2 : kp y z b arr) : kp x z b arr := ⟨h2.1.trans h.1, h2.2.1.trans h.2.1, h2.2.2.1.trans h.2.2.1, h2.2.2.2.1.trans h.2.2.2.1, fun c => (h2.2.2.2.2.1 c).trans (h.2.2.2.2.1 c), fun f c => (h2.2.2.2.2.2.1 f c).trans (h.2.2.2.2.2.1 f c), fun f c hc => (h2.2.2.2.2.2.2.1 f c hc).trans (h.2.2.2.2.2.2.1 f c hc), fun c => (h2.2.2.2.2.2.2.2.1 c).trans (h.2.2.2.2.2.2.2.1 c), fun c hc => (h2.2.2.2.2.2.2.2.2 c hc).trans (h.2.2.2.2.2.2.2.2 c hc)⟩
theorem kp_is {x u : xs_St} {b arr c k : Nat} (h : kp x u b arr) : xd_is u c k ↔ xd_is x c k := by
  unfold xd_is; rw [h.2.2.2.1, h.2.2.2.2.1 c]
theorem xq_dI (u : xs_St) (f a : Nat) (v : Int32) (g c : Nat) : xdI (xs_di u f a v) g c = if g = f ∧ c = a then v else xdI u g c := by
  show va_up u.2.2.2.2.2.2.1 f (va_up (u.2.2.2.2.2.2.1 f) a v) g c = _
  by_cases h1 : g = f
  · subst h1
    rw [xu_s]
    by_cases h2 : c = a
    · subst h2; rw [xu_s, if_pos ⟨rfl, rfl⟩]
    · rw [xu_n _ _ h2, if_neg (fun q => h2 q.2)]
  · rw [xu_n _ _ h1, if_neg (fun q => h1 q.1)]
theorem xq_dR (u : xs_St) (f a : Nat) (v : Option Nat) (g c : Nat) : xdR (xs_dr u f a v) g c = if g = f ∧ c = a then v else xdR u g c := by
  show va_up u.2.2.2.2.2.1 f (va_up (u.2.2.2.2.2.1 f) a v) g c = _
  by_cases h1 : g = f
  · subst h1
    rw [xu_s]
    by_cases h2 : c = a
    · subst h2; rw [xu_s, if_pos ⟨rfl, rfl⟩]
    · rw [xu_n _ _ h2, if_neg (fun q => h2 q.2)]
  · rw [xu_n _ _ h1, if_neg (fun q => h1 q.1)]
theorem xq_dA (u : xs_St) (a : Nat) (f : Nat → Int32) (c : Nat) : xdA (xs_da u a f) c = if c = a then f else xdA u c := va_upE _ _ _ _
theorem kp_i {x u : xs_St} {b arr f : Nat} {v : Int32} (h : kp x u b arr) : kp x (xs_di u f b v) b arr := by
  refine ⟨h.1, h.2.1, h.2.2.1, h.2.2.2.1, h.2.2.2.2.1, h.2.2.2.2.2.1, fun g c hc => ?_, h.2.2.2.2.2.2.2.1, h.2.2.2.2.2.2.2.2⟩
  rw [xq_dI, if_neg (fun q => hc q.2)]; exact h.2.2.2.2.2.2.1 g c hc
theorem kp_a {x u : xs_St} {b arr : Nat} {f : Nat → Int32} (h : kp x u b arr) : kp x (xs_da u arr f) b arr := by
  refine ⟨h.1, h.2.1, h.2.2.1, h.2.2.2.1, h.2.2.2.2.1, h.2.2.2.2.2.1, h.2.2.2.2.2.2.1, h.2.2.2.2.2.2.2.1, fun c hc => ?_⟩
  rw [xq_dA, if_neg hc]; exact h.2.2.2.2.2.2.2.2 c hc
theorem kp_nA {x u : xs_St} {b arr c a2 n : Nat} {g : Nat → Int} (h : kp x u b arr) (hne : a2 ≠ arr) (hA : nA x c a2 n g) : nA u c a2 n g := by
  obtain ⟨a1, a2', a3⟩ := hA
  refine ⟨by rw [h.2.2.2.2.2.1]; exact a1, (kp_is h).mpr a2', ?_⟩
  rw [h.2.2.2.2.2.2.2.1, h.2.2.2.2.2.2.2.2 _ hne]; exact a3
theorem kp_rA {x u : xs_St} {b arr r a n : Nat} {s w : Nat → Int} (h : kp x u b arr) (hne : a ≠ arr) (hA : rA x r a n s w) : rA u r a n s w := by
  obtain ⟨a0, a1, a2', a3⟩ := hA
  refine ⟨(kp_is h).mpr a0, by rw [h.2.2.2.2.2.1]; exact a1, (kp_is h).mpr a2', ?_⟩
  rw [h.2.2.2.2.2.2.2.1, h.2.2.2.2.2.2.2.2 _ hne]; exact a3
theorem sx_slip1 {x : xs_St} {b arr n i : Nat} {fx : Nat → Bool} {hd g : Nat → Int} {s : Nat} {K : xs_St → Prop} (hb : xd_is x b 3) (hr : xdR x 3 b = some arr) (h4 : xd_is x arr 4) (hn : n ≤ 48) (hN : xdN x arr = n) (hV : ∀ i, i < n → xdA x arr i = iI (g i)) (hbd : bdd g n 10000) (hi : i + 1 < n) (hsl : slS fx hd g i = true) (hs : xdI x 2 b = nI s)
    (h : ∀ y, kp x y b arr → (∀ j, j < n → xdA y arr j = iI (slM g i j)) → xdI y 2 b = nI (s + 1) → (∀ f, f ≠ 2 → xdI y f b = xdI x f b) → K y) : X_Feel_slipOne_d b (nI i) x K := by
  have g1 := hbd i (by omega)
  have g2 := hbd (i + 1) hi
  have v1 := hV i (by omega)
  have v2 := hV (i + 1) hi
  have fin : ∀ (z : Int), (z = if g (i + 1) < g i then 1 else -1) → X_Feel_slipOne_d_22 K b (nI i) (iI z) x := by
    intro z hz
    unfold X_Feel_slipOne_d_22
    refine ⟨hb, arr, hr, h4, by rw [hN]; exact vp_in_nI (by omega) (by omega), ?_⟩
    intro y1 e1
    rw [ni_cl (by omega), v1] at e1
    subst e1
    refine ⟨arr, hr, h4, by rw [hN]; exact vp_in_nI (by omega) (by omega), ?_⟩
    intro u3 e3
    rw [ni_cl (by omega), ii_sub] at e3
    have k3 : kp x u3 b arr := by rw [e3]; exact kp_a (kp_r x b arr)
    have A3 : xdA u3 arr = upd (xdA x arr) i (iI (g i - z)) := by rw [e3, xq_dA, if_pos rfl]
    have I3 : ∀ f, xdI u3 f b = xdI x f b := fun f => by rw [e3]; rfl
    clear e3
    refine ⟨(kp_is k3).mpr hb, ?_⟩
    intro y5 e5
    rw [show nI i + (1 : Int32) = nI (i + 1) from nI_1 i] at e5
    subst e5
    have r3 : xdR u3 3 b = some arr := by rw [k3.2.2.2.2.2.1]; exact hr
    have q3 := (kp_is k3).mpr h4
    have N3 : xdN u3 arr = n := by rw [k3.2.2.2.2.2.2.2.1]; exact hN
    refine ⟨arr, r3, q3, by rw [N3]; exact vp_in_nI (by omega) (by omega), ?_⟩
    intro y6 e6
    rw [ni_cl (by omega), A3, pk_un (by omega), v2] at e6
    subst e6
    refine ⟨arr, r3, q3, by rw [N3]; exact vp_in_nI (by omega) (by omega), ?_⟩
    intro u8 e8
    rw [ni_cl (by omega), ii_add, A3] at e8
    have k8 : kp x u8 b arr := by rw [e8]; exact kp_t k3 (kp_a (kp_r u3 b arr))
    have A8 : xdA u8 arr = upd (upd (xdA x arr) i (iI (g i - z))) (i + 1) (iI (g (i + 1) + z)) := by rw [e8, xq_dA, if_pos rfl]
    have I8 : ∀ f, xdI u8 f b = xdI x f b := fun f => by rw [e8]; exact I3 f
    clear e8
    refine ⟨(kp_is k8).mpr hb, (kp_is k8).mpr hb, ?_⟩
    intro u10 e10
    rw [I8, hs, show nI s + (1 : Int32) = nI (s + 1) from nI_1 s] at e10
    subst e10
    refine h _ (kp_i k8) (fun j hj => ?_) (by rw [xq_dI, if_pos ⟨rfl, rfl⟩]) (fun f hf => by rw [xq_dI, if_neg (fun q => hf q.1)]; exact I8 f)
    show xdA u8 arr j = _
    rw [A8, slM_v]
    by_cases e1 : j = i
    · subst e1
      rw [pk_un (by omega), pk_us, if_pos rfl, hz]
      by_cases e2 : g (j + 1) < g j
      · rw [if_pos e2, if_pos e2]
      · rw [if_neg e2, if_neg e2]; rfl
    · rw [if_neg e1]
      by_cases e3 : j = i + 1
      · subst e3
        rw [pk_us, if_pos rfl, hz]
        by_cases e2 : g (i + 1) < g i
        · rw [if_pos e2, if_pos e2]
        · rw [if_neg e2, if_neg e2]; rfl
      · rw [pk_un e3, pk_un e1, if_neg e3]; exact hV j hj
  unfold X_Feel_slipOne_d
  refine ⟨hb, arr, hr, h4, by rw [hN]; exact vp_in_nI (by omega) (by omega), ?_⟩
  intro y1 e1
  rw [ni_cl (by omega), v1] at e1
  subst e1
  rw [show nI i + (1 : Int32) = nI (i + 1) from nI_1 i]
  refine ⟨hb, arr, hr, h4, by rw [hN]; exact vp_in_nI (by omega) (by omega), ?_⟩
  intro y3 e3
  rw [ni_cl (by omega), v2] at e3
  subst e3
  rw [ii_le (by omega) (by omega) (by omega) (by omega)]
  refine br1 (fun q => ?_) (fun q => ?_)
  · exact fin (-1) (by rw [if_neg (by omega)])
  · exact fin 1 (by rw [if_pos (by omega)])
theorem sx_slipA {x : xs_St} {b arr n : Nat} {fx : Nat → Bool} {hd g : Nat → Int} {K : xs_St → Prop} (hT : txP x n fx hd) (hb : xd_is x b 3) (hr : xdR x 3 b = some arr) (h4 : xd_is x arr 4) (hN : xdN x arr = n) (hV : ∀ i, i < n → xdA x arr i = iI (g i)) (hbd : bdd g n 10000) (hs : xdI x 2 b = nI 0)
    (h : ∀ y, kp x y b arr → (∀ i, i < n → xdA y arr i = iI ((slF n fx hd g).1 i)) → xdI y 2 b = nI (slF n fx hd g).2 → (∀ f, f ≠ 2 → xdI y f b = xdI x f b) → K y) : X_Feel_slipAll_d b x K := by
  have hn := hT.1
  unfold X_Feel_slipAll_d
  refine lqe4 (F := X_Feel_slipAll_d_4_lp K) (G := X_Feel_slipAll_d_4 K) (fun _ _ _ _ _ => rfl) (fun d a1 a2 a3 u => a1 = b ∧ kp x u b arr ∧ (∀ f, f ≠ 2 → xdI u f b = xdI x f b) ∧ ∃ (g' : Nat → Int) (i s l : Nat), a2 = nI i ∧ a3 = nI l ∧ l ≤ 2 * s + i ∧ s ≤ 100000 ∧ i ≤ n ∧ d = 2 * (100000 - s) + (n - i) + (if s = 100000 then 0 else 1) ∧ xdI u 2 b = nI s ∧ bdd g' n 10000 ∧ (∀ j, j < n → xdA u arr j = iI (g' j)) ∧ slTo n fx hd g' i s (slF n fx hd g)) ?_ (200000 + n + 1) _ _ _ _ ⟨rfl, kp_r x b arr, fun _ _ => rfl, g, 0, 0, 0, rfl, rfl, by omega, by omega, by omega, by rw [if_neg (by omega)]; omega, hs, hbd, hV, slF_to n fx hd g⟩
  rintro k d a1 a2 a3 u ⟨rfl, hk, hI, g', i, s, l, rfl, rfl, hl, hs2, hin, hdd, us, ub, uV, hto⟩ ih
  have hb' := (kp_is hk).mpr hb
  have h4' := (kp_is hk).mpr h4
  have r' : xdR u 3 a1 = some arr := by rw [hk.2.2.2.2.2.1]; exact hr
  have N' : xdN u arr = n := by rw [hk.2.2.2.2.2.2.2.1]; exact hN
  have fin : (slF n fx hd g) = (g', s) → K u := fun e => by
    refine h u hk (fun j hj => ?_) ?_ hI
    · rw [e]; exact uV j hj
    · rw [e]; exact us
  unfold X_Feel_slipAll_d_4 X_Feel_slipAll_d_72
  have hwin : i + 1 < n → l < 200096 := fun q => by omega
  rw [show (200096 : Int32) = nI 200096 from rfl, ni_le (by omega) (by omega), show nI i + (1 : Int32) = nI (i + 1) from nI_1 i]
  refine br1 (fun q => ?_) (fun q => ⟨hb', arr, r', h4', ?_⟩)
  · exact fin (slTo_e hto (fun q2 => by have := hwin q2.1; omega))
  · rw [N', ni_le (by omega) (by omega)]
    refine br1 (fun q2 => fin (slTo_e hto (fun q3 => by omega))) (fun q2 => ⟨hb', ?_⟩)
    rw [r']
    have step : ∀ (w : xs_St) (g2 : Nat → Int) (i2 s2 : Nat), kp x w a1 arr → (∀ f, f ≠ 2 → xdI w f a1 = xdI x f a1) → l + 1 ≤ 2 * s2 + i2 → s2 ≤ 100000 → i2 ≤ n → 2 * (100000 - s2) + (n - i2) + (if s2 = 100000 then 0 else 1) < d → xdI w 2 a1 = nI s2 → bdd g2 n 10000 → (∀ j, j < n → xdA w arr j = iI (g2 j)) → slTo n fx hd g2 i2 s2 (slF n fx hd g) → X_Feel_slipAll_d_66 K k a1 (nI i2) (nI l) w := by
      intro w g2 i2 s2 t1 t2 t3 t4 t5 t6 t7 t8 t9 t10
      unfold X_Feel_slipAll_d_66
      intro x3 e3
      subst e3
      exact ih _ _ _ _ _ t6 ⟨rfl, t1, t2, g2, i2, s2, l + 1, rfl, nI_1 l, t3, t4, t5, rfl, t7, t8, t9, t10⟩
    refine sx_slS (txP_f hT hk.1) h4' N' uV ub (by omega) (fun hsl => ?_) (fun hsl => ?_)
    · refine br2 (fun _ => ⟨hb', ?_⟩) (fun q3 => absurd q3 (by decide))
      rw [us, show (100000 : Int32) = nI 100000 from rfl, ni_lt (by omega) (by omega)]
      refine br1 (fun q4 => ⟨hb', ?_⟩) (fun q4 => ?_)
      · refine sx_slip1 hb' r' h4' hn.2 N' uV ub (by omega) hsl us (fun y hy yV ys yI => ?_)
        have hto' := slTo_s hto (by omega) q4 hsl
        have hb1 : 1 ≤ hd i := (hT.2.2 i (by omega)).2.2.1
        have hbd' := slM_b ub (by omega) hb1 hsl
        have hm : 2 * (100000 - (s + 1)) + (n - (i - 1)) + (if s + 1 = 100000 then 0 else 1) < d := by
          rw [hdd, if_neg (show ¬ s = 100000 by omega)]
          by_cases e : s + 1 = 100000
          · rw [if_pos e]; omega
          · rw [if_neg e]; omega
        rw [show (0 : Int32) = nI 0 from rfl, ni_le (by omega) (by omega)]
        unfold X_Feel_slipAll_d_65
        refine br1 (fun q5 => ?_) (fun q5 => ?_)
        · rw [show i - 1 = 0 by omega] at hto' hm
          exact step y _ 0 (s + 1) (kp_t hk hy) (fun f hf => (yI f hf).trans (hI f hf)) (by omega) (by omega) (by omega) hm ys hbd' yV hto'
        · rw [show nI i - (1 : Int32) = nI (i - 1) from ni_sub (b := 1) (by omega)]
          exact step y _ (i - 1) (s + 1) (kp_t hk hy) (fun f hf => (yI f hf).trans (hI f hf)) (by omega) (by omega) (by omega) hm ys hbd' yV hto'
      · exact fin (slTo_e hto (fun q5 => by omega))
    · refine br2 (fun q3 => absurd rfl q3) (fun _ => ?_)
      intro x2 e2
      subst e2
      have hto' : slTo n fx hd g' (i + 1) s (slF n fx hd g) := by
        by_cases e : s < 100000
        · exact slTo_a hto (by omega) e hsl
        · have e2 := slTo_e hto (fun q5 => by omega)
          refine ⟨2 * (100000 - s) + (n - (i + 1)), Nat.le_refl _, ?_⟩
          rw [e2]
          generalize 2 * (100000 - s) + (n - (i + 1)) = k9
          cases k9 with
          | zero => rfl
          | succ k9 => rw [slR, if_neg (by omega)]
      exact step u g' (i + 1) s hk hI (by omega) hs2 (by omega) (by omega) us ub uV hto'

/-! walk: the mathematics, the class -/
def isFA (f : Nat → Nat) (lo hi b : Nat) : Prop := (lo ≤ b ∧ b ≤ hi) ∧ (∀ j, lo ≤ j → j ≤ hi → f j ≤ f b) ∧ ∀ j, lo ≤ j → j < b → f j < f b
theorem isFA_u {f : Nat → Nat} {lo hi b c : Nat} (h : isFA f lo hi b) (h2 : isFA f lo hi c) : b = c := by
  rcases Nat.lt_trichotomy b c with q | q | q
  · have h3 := h2.2.2 b h.1.1 q
    have h4 := h.2.1 c h2.1.1 h2.1.2
    omega
  · exact q
  · have h3 := h.2.2 c h2.1.1 q
    have h4 := h2.2.1 b h.1.1 h.1.2
    omega
def fA (f : Nat → Nat) (lo : Nat) : Nat → Nat
  | 0 => lo
  | k + 1 => if f (fA f lo k) < f (lo + k + 1) then lo + k + 1 else fA f lo k
theorem fA_is (f : Nat → Nat) (lo : Nat) : ∀ k, isFA f lo (lo + k) (fA f lo k) := by
  intro k
  induction k with
  | zero => exact ⟨by rw [fA]; omega, fun j h1 h2 => by rw [fA, show j = lo by omega]; exact Nat.le_refl _, fun j h1 h2 => by rw [fA] at h2; omega⟩
  | succ k ih =>
    rw [fA]
    by_cases e : f (fA f lo k) < f (lo + k + 1)
    · rw [if_pos e]
      refine ⟨by omega, fun j h1 h2 => ?_, fun j h1 h2 => ?_⟩
      · by_cases q : j = lo + k + 1
        · rw [q]; exact Nat.le_refl _
        · have := ih.2.1 j h1 (by omega); omega
      · have := ih.2.1 j h1 (by omega); omega
    · rw [if_neg e]
      have h0 := ih.1
      refine ⟨by omega, fun j h1 h2 => ?_, ih.2.2⟩
      by_cases q : j = lo + k + 1
      · rw [q]; omega
      · exact ih.2.1 j h1 (by omega)
/-- the first of the loudest within far of i -/
def wb (f : Nat → Nat) (n far i : Nat) : Nat := fA f (i - far) (min (i + far) (n - 1) - (i - far))
theorem wb_is {f : Nat → Nat} {n far i : Nat} (hi : i < n) : isFA f (i - far) (min (i + far) (n - 1)) (wb f n far i) := by
  have := fA_is f (i - far) (min (i + far) (n - 1) - (i - far))
  rw [show i - far + (min (i + far) (n - 1) - (i - far)) = min (i + far) (n - 1) by omega] at this
  exact this
theorem wb_l {f : Nat → Nat} {n far i : Nat} (hi : i < n) : wb f n far i < n := by
  have := (wb_is (f := f) (far := far) hi).1
  omega
def Vw (lo : Nat → Nat → Nat) (n far b : Nat) : Nat → Nat → Nat
  | 0, _ => 0
  | d + 1, i => lo (b - d) i + Vw lo n far b d (wb (Vw lo n far b d) n far i)
theorem Vw_b {lo : Nat → Nat → Nat} {n far b : Nat} (hlo : ∀ h i, h ≤ b → i < n → lo h i ≤ 16000) : ∀ d i, i < n → Vw lo n far b d i ≤ 16000 * d := by
  intro d
  induction d with
  | zero => intro i _; rw [Vw]; omega
  | succ d ih =>
    intro i hi
    rw [Vw]
    have h1 := hlo (b - d) i (by omega) hi
    have h2 := ih _ (wb_l (f := Vw lo n far b d) (far := far) hi)
    omega
def rtW (lo : Nat → Nat → Nat) (n far b W : Nat) : Nat → Nat
  | 0 => fA (Vw lo n far b W) 0 (n - 1)
  | t + 1 => wb (Vw lo n far b (W - 1 - t)) n far (rtW lo n far b W t)
theorem rtW_l {lo : Nat → Nat → Nat} {n far b W : Nat} (hn : 0 < n) : ∀ t, rtW lo n far b W t < n := by
  intro t
  cases t with
  | zero =>
    rw [rtW]
    have := (fA_is (Vw lo n far b W) 0 (n - 1)).1
    omega
  | succ t =>
    rw [rtW]
    apply wb_l
    induction t with
    | zero =>
      rw [rtW]
      have := (fA_is (Vw lo n far b W) 0 (n - 1)).1
      omega
    | succ t ih => rw [rtW]; exact wb_l ih
theorem nar_48f : ∀ k : Fin 48, vp_nar .byte ((nI k.val).toInt8.toInt32) = nI k.val := by decide
theorem nar_48 {k : Nat} (h : k < 48) : vp_nar .byte ((nI k).toInt8.toInt32) = nI k := nar_48f ⟨k, h⟩
theorem sx_fL {x : xs_St} {n lo hi : Nat} {f : Nat → Nat} {K : Int32 → xs_St → Prop} (hn : n ≤ 48) (hf : ∀ i, i < n → xa x 804 i = nI (f i) ∧ f i ≤ 1000000) (h1 : lo ≤ hi) (h2 : hi < n) (h : K (nI (fA f lo (hi - lo))) x) : X_WK_firstLoudest (nI lo) (nI hi) x K := by
  unfold X_WK_firstLoudest
  intro y1 e1
  rw [show nI lo + (1 : Int32) = nI (lo + 1) from nI_1 lo] at e1
  subst e1
  refine lqe4 (F := X_WK_firstLoudest_7_lp K) (G := X_WK_firstLoudest_7 K) (fun _ _ _ _ _ => rfl) (fun d a1 a2 a3 u => a1 = nI hi ∧ u = x ∧ ∃ k, a2 = nI (fA f lo k) ∧ a3 = nI (lo + k + 1) ∧ k + d = hi - lo) ?_ (hi - lo) _ _ _ _ ⟨rfl, rfl, 0, rfl, rfl, by omega⟩
  rintro kk d a1 a2 a3 u ⟨rfl, rfl, k, rfl, rfl, hkd⟩ ih
  unfold X_WK_firstLoudest_7
  rw [ni_lt (by omega) (by omega)]
  refine br1 (fun q => ?_) (fun q => ?_)
  · rw [show k = hi - lo by omega]; exact h
  · have hk := (fA_is f lo k).1
    have f1 := hf (lo + k + 1) (by omega)
    have f2 := hf (fA f lo k) (by omega)
    refine ⟨vp_in_nI (by omega) (by omega), fun y1 e1 => ?_⟩
    rw [ni_cl (by omega), f1.1] at e1
    subst e1
    refine ⟨vp_in_nI (by omega) (by omega), fun y2 e2 => ?_⟩
    rw [ni_cl (by omega), f2.1] at e2
    subst e2
    rw [ni_le (by omega) (by omega)]
    unfold X_WK_firstLoudest_32
    refine br1 (fun p x4 e4 => ?_) (fun p x4 e4 => ?_)
    · subst e4
      refine ih (d - 1) _ _ _ _ (by omega) ⟨rfl, rfl, k + 1, ?_, nI_1 _, by omega⟩
      rw [fA, if_neg (by omega)]
    · subst e4
      refine ih (d - 1) _ _ _ _ (by omega) ⟨rfl, rfl, k + 1, ?_, nI_1 _, by omega⟩
      rw [fA, if_pos (by omega)]
theorem ini_min {a b : Nat} (ha : a ≤ 1000) (hb : b ≤ 1000) : (if nI a < nI b then nI a else nI b) = nI (min b a) := by
  have c : (nI a < nI b) = (a < b) := ni_lt (by omega) (by omega)
  by_cases e : a < b
  · rw [if_pos (by rw [c]; exact e), show min b a = a by omega]
  · rw [if_neg (by rw [c]; exact e), show min b a = b by omega]
section
variable {n : Nat} {fx : Nat → Bool} {hd : Nat → Int} {N : Nat} {eh ed er ea : Nat → Nat} {rd wd : Nat → Nat → Int} {P : Nat → List Nat}
theorem sx_goBack {x : xs_St} {c j h far : Nat} {js : List Nat} {f : Nat → Nat} {K : xs_St → Prop} (hlg : lgX x n N eh ed er ea rd wd) (htr : trX x n fx hd N eh er rd P) (hc : xd_is x c 3) (hP : P c = j :: js) (hn : 1 ≤ n ∧ n ≤ 48) (hh : ∀ i, i < n → 1 ≤ hd i) (hfar : far < 48) (hh40 : h < 40) (hf : ∀ i, i < n → xa x 804 i = nI (f i) ∧ f i ≤ 1000000)
    (hK : ∀ y, xf [] [802, 803, 804] [] x y → (∀ i, i < n → xa y 804 i = nI (flL n fx hd rd (j :: js) i + f (wb f n far i))) → (∀ i, i < n → xa y 802 (48 * h + i) = nI (wb f n far i)) → (∀ k, (k < 48 * h ∨ 48 * h + 48 ≤ k) → xa y 802 k = xa x 802 k) → K y) : X_WK_goBack (some c) (nI h) (nI far) (nI n) x K := by
  have hlen := ndX_l hlg (htr.2 c hc)
  rw [hP, List.length_cons] at hlen
  rcases (htr.2 c hc).2 with ⟨g1, -⟩ | ⟨j0, js0, a, arr, g1, g2, g3, g4, g5, g6, g7, g8, g9, g10, g11⟩
  · rw [hP] at g1; cases g1
  rw [hP] at g1
  injection g1 with g1a g1b
  subst g1a; subst g1b
  obtain ⟨arr2, hA2⟩ := ndX_A (htr.2 a g5)
  rw [g6] at hA2
  have en1 : nI n - (1 : Int32) = nI (n - 1) := pk_sub (a := n) (b := 1) (by omega)
  unfold X_WK_goBack
  rw [en1, ini_min (by omega) (by omega)]
  refine sx_fL hn.2 hf (Nat.zero_le _) (by omega) ?_
  have hw0 : isFA f (0 - 1 - far) (min (0 - 1 + far) (n - 1)) (fA f 0 (min far (n - 1) - 0)) := by
    have := wb_is (f := f) (n := n) (far := far) (i := 0) (by omega)
    unfold wb at this
    rw [show 0 - far = 0 by omega, show 0 + far = far by omega] at this
    rw [show 0 - 1 - far = 0 by omega, show 0 - 1 + far = far by omega]
    exact this
  refine lqe7 (F := X_WK_goBack_18_lp K) (G := X_WK_goBack_18 K) (fun _ _ _ _ _ _ _ _ => rfl) (fun d a1 a2 a3 a4 a5 a6 u => a1 = some c ∧ a2 = nI h ∧ a3 = nI far ∧ a4 = nI n ∧ xf [] [802, 803] [] x u ∧ ∃ i b, a5 = nI b ∧ a6 = nI i ∧ i + d = n ∧ isFA f (i - 1 - far) (min (i - 1 + far) (n - 1)) b ∧ (∀ k, k < i → xa u 803 k = nI (flL n fx hd rd (j :: js) k + f (wb f n far k))) ∧ (∀ k, k < i → xa u 802 (48 * h + k) = nI (wb f n far k)) ∧ (∀ k, (k < 48 * h ∨ 48 * h + 48 ≤ k) → xa u 802 k = xa x 802 k)) ?_ n _ _ _ _ _ _ _ ⟨rfl, rfl, rfl, rfl, xf_r x, 0, _, rfl, rfl, by omega, hw0, fun k hk => by omega, fun k hk => by omega, fun k _ => rfl⟩
  rintro kk d a1 a2 a3 a4 a5 a6 u ⟨rfl, rfl, rfl, rfl, uf, i, b, rfl, rfl, hid, hb, u803, u802, u802'⟩ ih
  have hb1 := hb.1
  have uF : ∀ i, i < n → xa u 804 i = nI (f i) ∧ f i ≤ 1000000 := fun i hi => by rw [uf.2.1 804 (by decide)]; exact hf i hi
  unfold X_WK_goBack_18
  rw [ni_le (by omega) (by omega)]
  refine br1 (fun q => ?_) (fun q => ?_)
  · intro u2 e2
    have : i = n := by omega
    subst this
    unfold xw_804_803 at e2
    subst e2
    refine hK _ (xf_a (by decide) (xf_a (by decide) (xf_w uf (by decide) (by decide) (by decide)))) (fun k hk => ?_) (fun k hk => ?_) (fun k hk => ?_)
    · rw [xq_sa, if_neg (by decide), xq_sa, if_pos rfl]; exact u803 k hk
    · rw [xq_sa, if_neg (by decide), xq_sa, if_neg (by decide)]; exact u802 k hk
    · rw [xq_sa, if_neg (by decide), xq_sa, if_neg (by decide)]; exact u802' k hk
  · intro y3 e3
    rw [nI_add] at e3
    subst e3
    have hin : i < n := by omega
    have g90 : X_WK_goBack_90 K kk (some c) (nI h) (nI far) (nI n) (nI (wb f n far i)) (nI i) u := by
      have hwl := wb_l (f := f) (far := far) hin
      unfold X_WK_goBack_90
      rw [show nI h * (48 : Int32) = nI (h * 48) from pk_mul h 48, nI_add]
      refine ⟨vp_in_nI (by omega) (by omega), fun u1 e1 => ?_⟩
      rw [ni_cl (by omega), nar_48 (by omega)] at e1
      have f1 : xf [] [802, 803] [] x u1 := by rw [e1]; exact xf_a (by decide) uf
      have v1 : xa u1 802 = upd (xa u 802) (h * 48 + i) (nI (wb f n far i)) := by rw [e1, xq_sa, if_pos rfl]
      have v2 : xa u1 803 = xa u 803 := by rw [e1, xq_sa, if_neg (by decide)]
      clear e1
      have ue : u1.2 = x.2 := f1.2.2.2
      have tr1 : xd_is u1 c 3 := by unfold xd_is xdL xdK at *; rw [ue]; exact hc
      have tr2 : xd_is u1 a 3 := by unfold xd_is xdL xdK at *; rw [ue]; exact g5
      have tr3 : xdR u1 2 c = some a := by unfold xdR at *; rw [ue]; exact g4
      have tr4 : nA u1 c arr n (flG n fx hd rd (j :: js)).1 := by unfold nA xd_is xdL xdK xdR xdN xdA at *; rw [ue]; exact g8
      have tr5 : nA u1 a arr2 n (flG n fx hd rd js).1 := by unfold nA xd_is xdL xdK xdR xdN xdA at *; rw [ue]; exact hA2
      have bb1 := flG_b (fx := fx) hh hlg.2.2.2.2.1 (j :: js) i hin
      have bb2 := flG_b (fx := fx) hh hlg.2.2.2.2.1 js i hin
      rw [List.length_cons] at bb1
      refine ⟨c, rfl, tr1, ?_⟩
      refine sx_loud tr1 tr2 tr3 tr4 tr5 hn.2 hin (by omega) (by omega) ?_
      refine ⟨vp_in_nI (by omega) (by omega), fun y5 e5 => ?_⟩
      rw [ni_cl (by omega), f1.2.1 804 (by decide), (hf _ hwl).1] at e5
      subst e5
      refine ⟨vp_in_nI (by omega) (by omega), fun u6 e6 => ?_⟩
      rw [ni_cl (by omega), nI_add] at e6
      intro x7 e7
      subst e7
      refine ih (d - 1) _ _ _ _ _ _ _ (by omega) ⟨rfl, rfl, rfl, rfl, by rw [e6]; exact xf_a (by decide) f1, i + 1, _, rfl, nI_1 i, by omega, by rw [Nat.add_sub_cancel]; exact wb_is hin, fun k hk => ?_, fun k hk => ?_, fun k hk => ?_⟩
      · rw [e6, xq_sa, if_pos rfl, v2]
        by_cases e : k = i
        · subst e; rw [pk_us]; rfl
        · rw [pk_un e]; exact u803 k (by omega)
      · rw [e6, xq_sa, if_neg (by decide), v1]
        by_cases e : k = i
        · subst e; rw [show 48 * h + k = h * 48 + k by omega, pk_us]
        · rw [pk_un (by omega)]; exact u802 k (by omega)
      · rw [e6, xq_sa, if_neg (by decide), v1, pk_un (by omega)]; exact u802' k hk
    have wbu : ∀ b', isFA f (i - far) (min (i + far) (n - 1)) b' → b' = wb f n far i := fun b' h' => isFA_u h' (wb_is hin)
    rw [ii_nsub, ii_leL (by omega) (by omega) (by omega)]
    refine br1 (fun p => ?_) (fun p => ?_)
    · rw [ni_le (by omega) (by omega)]
      refine br1 (fun p2 => ?_) (fun p2 => ?_)
      · have := wbu b ⟨by omega, fun j h1 h2 => hb.2.1 j (by omega) (by omega), fun j h1 h2 => hb.2.2 j (by omega) h2⟩
        rw [this]; exact g90
      · refine ⟨vp_in_nI (by omega) (by omega), fun y4 e4 => ?_⟩
        rw [ni_cl (by omega), (uF (i + far) (by omega)).1] at e4
        subst e4
        refine ⟨vp_in_nI (by omega) (by omega), fun y5 e5 => ?_⟩
        rw [ni_cl (by omega), (uF b (by omega)).1] at e5
        subst e5
        have q1 := (uF (i + far) (by omega)).2
        have q2 := (uF b (by omega)).2
        rw [ni_le (by omega) (by omega)]
        refine br1 (fun p3 => ?_) (fun p3 => ?_)
        · have := wbu b ⟨by omega, fun j h1 h2 => by
            by_cases e : j = i + far
            · subst e; exact p3
            · exact hb.2.1 j (by omega) (by omega), fun j h1 h2 => hb.2.2 j (by omega) h2⟩
          rw [this]; exact g90
        · have := wbu (i + far) ⟨by omega, fun j h1 h2 => by
            by_cases e : j = i + far
            · subst e; exact Nat.le_refl _
            · have := hb.2.1 j (by omega) (by omega); omega, fun j h1 h2 => by
              have := hb.2.1 j (by omega) (by omega); omega⟩
          rw [this]; exact g90
    · rw [en1, ini_min (by omega) (by omega), show iI ((i : Int) - far) = nI (i - far) by rw [show ((i : Int) - far) = ((i - far : Nat) : Int) by omega]; rfl]
      refine sx_fL hn.2 uF (by omega) (by omega) ?_
      exact g90
theorem sx_loudest {x : xs_St} {c a b far W : Nat} {q : Nat → Nat} {K : Int32 → xs_St → Prop} (hlg : lgX x n N eh ed er ea rd wd) (htr : trX x n fx hd N eh er rd P) (hc : xd_is x c 3) (hP : P c = pthc q (b + 1)) (hn : 1 ≤ n ∧ n ≤ 48) (hh : ∀ i, i < n → 1 ≤ hd i) (hfar : far < 48) (hab : a ≤ b) (hb40 : b < 40) (hW : W = b - a + 1)
    (hK : ∀ y, xf [801] [800, 802, 803, 804] [] x y → xi y 801 = nI W → (∀ t, t < W → xa y 800 t = nI (rtW (fun h i => flL n fx hd rd (pthc q (h + 1)) i) n far b W t)) → K (nI (Vw (fun h i => flL n fx hd rd (pthc q (h + 1)) i) n far b W (rtW (fun h i => flL n fx hd rd (pthc q (h + 1)) i) n far b W 0))) y) : X_WK_loudest (some c) (nI W) (nI far) (nI n) x K := by
  have hlo : ∀ h i, h ≤ b → i < n → flL n fx hd rd (pthc q (h + 1)) i ≤ 16000 := fun h i h1 h2 => flL_b hh hlg.2.2.2.2.1 (by rw [pthc_l]; omega) h2
  generalize hlw : (fun h i => flL n fx hd rd (pthc q (h + 1)) i) = lw at *
  have hlwb : ∀ h i, h ≤ b → i < n → lw h i ≤ 16000 := fun h i h1 h2 => by rw [← hlw]; exact hlo h i h1 h2
  have hV : ∀ d i, d ≤ 40 → i < n → Vw lw n far b d i ≤ 1000000 := fun d i hd' hi => by have := Vw_b (far := far) hlwb d i hi; omega
  have hrt := rtW_l (lo := lw) (n := n) (far := far) (b := b) (W := W) (by omega)
  unfold X_WK_loudest
  have c1 : (nI W < (1 : Int32)) = (W < 1) := ni_lt (b := 1) (by omega) (by omega)
  have c2 : ((40 : Int32) < nI W) = (40 < W) := ni_lt (a := 40) (by omega) (by omega)
  have c3 : (nI n < (1 : Int32)) = (n < 1) := ni_lt (b := 1) (by omega) (by omega)
  have c4 : (nI n ≤ (48 : Int32)) = (n ≤ 48) := ni_le (b := 48) (by omega) (by omega)
  rw [c1, c2, c3, c4]
  refine ⟨fun g => by omega, fun _ => ⟨fun g => by omega, fun _ => ⟨fun g => by omega, fun _ => ⟨fun _ => ?_, fun g => absurd hn.2 g⟩⟩⟩⟩
  refine fi_804 (fun x0 x0f x0v => ?_)
  intro y3 e3
  rw [show nI W - (1 : Int32) = iI ((W : Int) - 1) from ii_nsub W 1] at e3
  subst e3
  refine lqe6 (F := X_WK_loudest_42_lp K) (G := X_WK_loudest_42 K) (fun _ _ _ _ _ _ _ => rfl) (fun d a1 a2 a3 a4 a5 u => a1 = nI W ∧ a2 = nI far ∧ a3 = nI n ∧ xf [] [802, 803, 804] [] x u ∧ d ≤ W ∧ a5 = iI ((d : Int) - 1) ∧ (0 < d → ∃ c', a4 = some c' ∧ xd_is x c' 3 ∧ P c' = pthc q (a + d)) ∧ (∀ i, i < n → xa u 804 i = nI (Vw lw n far b (W - d) i)) ∧ (∀ h i, d ≤ h → h < W → i < n → xa u 802 (48 * h + i) = nI (wb (Vw lw n far b (W - 1 - h)) n far i))) ?_ W _ _ _ _ _ _ ⟨rfl, rfl, rfl, xf_w x0f (by decide) (by decide) (by decide), Nat.le_refl _, rfl, fun _ => ⟨c, rfl, hc, by rw [hP, show a + W = b + 1 by omega]⟩, fun i hi => by rw [Nat.sub_self]; exact x0v i (by omega), fun h i h1 h2 => by omega⟩
  rintro kk d a1 a2 a3 a4 a5 u ⟨rfl, rfl, rfl, uf, hdW, rfl, hch, u804, u802⟩ ih
  unfold X_WK_loudest_42
  have c5 : (iI ((d : Int) - 1) < (0 : Int32)) = ((d : Int) - 1 < 0) := ii_lt (b := 0) (by omega) (by omega) (by omega) (by omega)
  rw [c5]
  refine br1 (fun g => ?_) (fun g => ?_)
  · have ed0 : d = 0 := by omega
    subst ed0
    rw [Nat.sub_zero] at u804
    unfold X_WK_loudest_76
    intro u1 e1
    have f1 : xf [801] [800, 802, 803, 804] [] x u1 := by rw [e1]; exact xf_i (by decide) (xf_w uf (by decide) (by decide) (by decide))
    have v801 : xi u1 801 = nI W := by rw [e1]; exact xsi_s _ _ _
    have v804 : ∀ i, i < n → xa u1 804 i = nI (Vw lw n far b W i) ∧ Vw lw n far b W i ≤ 1000000 := fun i hi => ⟨by rw [e1]; exact u804 i hi, hV W i (by omega) hi⟩
    have v802 : ∀ h i, h < W → i < n → xa u1 802 (48 * h + i) = nI (wb (Vw lw n far b (W - 1 - h)) n far i) := fun h i h1 h2 => by rw [e1]; exact u802 h i (by omega) h1 h2
    clear e1
    rw [show nI n - (1 : Int32) = nI (n - 1) from pk_sub (a := n) (b := 1) (by omega), show (0 : Int32) = nI 0 from rfl]
    refine sx_fL hn.2 v804 (Nat.zero_le _) (by omega) ?_
    refine ⟨vp_in_nI (by omega) (by omega), fun u4 e4 => ?_⟩
    rw [ni_cl (by omega), Nat.sub_zero] at e4
    have f4 : xf [801] [800, 802, 803, 804] [] x u4 := by rw [e4]; exact xf_a (by decide) f1
    have w801 : xi u4 801 = nI W := by rw [e4]; exact v801
    have w804 : ∀ i, i < n → xa u4 804 i = nI (Vw lw n far b W i) := fun i hi => by rw [e4, xq_sa, if_neg (by decide)]; exact (v804 i hi).1
    have w802 : ∀ h i, h < W → i < n → xa u4 802 (48 * h + i) = nI (wb (Vw lw n far b (W - 1 - h)) n far i) := fun h i h1 h2 => by rw [e4, xq_sa, if_neg (by decide)]; exact v802 h i h1 h2
    have w800 : xa u4 800 0 = nI (rtW lw n far b W 0) := by rw [e4, xq_sa, if_pos rfl, pk_us]; rfl
    clear e4
    refine lqe3 (F := X_WK_loudest_99_lp K) (G := X_WK_loudest_99 K) (fun _ _ _ _ => rfl) (fun d a1 a2 u => a1 = nI W ∧ xf [801] [800, 802, 803, 804] [] x u ∧ xi u 801 = nI W ∧ xa u 804 = xa u4 804 ∧ xa u 802 = xa u4 802 ∧ ∃ t, a2 = nI t ∧ 1 ≤ t ∧ t + d = W ∧ ∀ t', t' < t → xa u 800 t' = nI (rtW lw n far b W t')) ?_ (W - 1) _ _ _ ⟨rfl, f4, w801, rfl, rfl, 1, rfl, by omega, by omega, fun t' h => by rw [show t' = 0 by omega]; exact w800⟩
    rintro kk d a1 a2 u ⟨rfl, uf, u801, u804, u802, t, rfl, ht1, htd, u800⟩ ih
    unfold X_WK_loudest_99
    rw [ni_le (by omega) (by omega)]
    refine br1 (fun g => ?_) (fun g => ?_)
    · refine ⟨vp_in_nI (n := 0) (by omega) (by omega), fun y1 e1 => ?_⟩
      have e1 : y1 = nI (rtW lw n far b W 0) := by rw [e1]; exact u800 0 (by omega)
      subst e1
      have hr0 := hrt 0
      refine ⟨vp_in_nI (by omega) (by omega), fun y2 e2 => ?_⟩
      rw [ni_cl (by omega), u804, w804 _ hr0] at e2
      subst e2
      exact hK u uf u801 (fun t' h => u800 t' (by omega))
    · rw [show nI t - (1 : Int32) = nI (t - 1) from pk_sub (a := t) (b := 1) (by omega)]
      refine ⟨vp_in_nI (by omega) (by omega), fun y3 e3 => ?_⟩
      rw [ni_cl (by omega), u800 (t - 1) (by omega)] at e3
      subst e3
      have hr1 := hrt (t - 1)
      rw [show nI (t - 1) * (48 : Int32) = nI ((t - 1) * 48) from pk_mul (t - 1) 48, nI_add]
      refine ⟨vp_in_nI (by omega) (by omega), fun y4 e4 => ?_⟩
      rw [ni_cl (by omega), u802, show (t - 1) * 48 + rtW lw n far b W (t - 1) = 48 * (t - 1) + rtW lw n far b W (t - 1) by omega, w802 (t - 1) _ (by omega) hr1] at e4
      subst e4
      refine ⟨vp_in_nI (by omega) (by omega), fun u5 e5 => ?_⟩
      rw [ni_cl (by omega)] at e5
      intro x6 e6
      subst e6
      refine ih (d - 1) _ _ _ (by omega) ⟨rfl, by rw [e5]; exact xf_a (by decide) uf, by rw [e5]; exact u801, by rw [e5, xq_sa, if_neg (by decide)]; exact u804, by rw [e5, xq_sa, if_neg (by decide)]; exact u802, t + 1, nI_1 t, by omega, by omega, fun t' h => ?_⟩
      rw [e5, xq_sa, if_pos rfl]
      by_cases e : t' = t
      · subst e
        rw [pk_us]
        obtain ⟨s, hs⟩ : ∃ s, t' = s + 1 := ⟨t' - 1, by omega⟩
        subst hs
        rw [Nat.add_sub_cancel, rtW]
      · rw [pk_un e]; exact u800 t' (by omega)
  · obtain ⟨c', rfl, hc', hPc⟩ := hch (by omega)
    obtain ⟨h, hdh⟩ : ∃ h, d = h + 1 := ⟨d - 1, by omega⟩
    subst hdh
    have ue : u.2 = x.2 := uf.2.2.2
    have ulg : lgX u n N eh ed er ea rd wd := lgX_d (by rw [ue]) (uf.1 503 (by decide)) (by unfold xo; rw [ue]) hlg
    have utr : trX u n fx hd N eh er rd P := trX_d (by rw [ue]) (by unfold xr; rw [ue]) htr
    have uc : xd_is u c' 3 := by unfold xd_is xdL xdK at *; rw [ue]; exact hc'
    refine ⟨fun e => (by cases e), fun _ => ?_⟩
    rw [show iI (((h + 1 : Nat) : Int) - 1) = nI h by rw [show (((h + 1 : Nat) : Int) - 1) = (h : Int) by omega]; rfl]
    have hPc' : P c' = q (a + h) :: pthc q (a + h) := hPc
    refine sx_goBack (f := Vw lw n far b (W - (h + 1))) ulg utr uc hPc' hn hh hfar (by omega) (fun i hi => ⟨u804 i hi, hV _ i (by omega) hi⟩) (fun y yf y804 y802 y802' => ?_)
    have ye : y.2 = x.2 := yf.2.2.2.trans ue
    have yc : xd_is y c' 3 := by unfold xd_is xdL xdK at *; rw [ye]; exact hc'
    refine ⟨c', rfl, yc, ?_⟩
    intro x6 e6
    rw [show nI h + (-1 : Int32) = iI ((h : Int) - 1) by rw [show (-1 : Int32) = iI (-1) from rfl, ii_addR]; rfl] at e6
    subst e6
    refine ih h _ _ _ _ _ _ (by omega) ⟨rfl, rfl, rfl, xf_t uf yf, by omega, rfl, fun h0 => ?_, fun i hi => ?_, fun h' i h1 h2 h3 => ?_⟩
    · rcases (htr.2 c' hc').2 with ⟨g1, -⟩ | ⟨j0, js0, a', arr, g1, g2, g3, g4, g5, g6, -⟩
      · rw [hPc'] at g1; cases g1
      · rw [hPc'] at g1
        injection g1 with g1a g1b
        refine ⟨a', ?_, g5, by rw [g6, ← g1b]⟩
        unfold xdR at *
        rw [ye]; exact g4
    · rw [y804 i hi, show W - h = (W - (h + 1)) + 1 by omega, Vw, show b - (W - (h + 1)) = a + h by omega, ← hlw]
      rfl
    · by_cases e : h' = h
      · subst e
        rw [y802 i h3, show W - 1 - h' = W - (h' + 1) by omega]
      · rw [y802' _ (by omega)]
        exact u802 h' i (by omega) h2 h3
end

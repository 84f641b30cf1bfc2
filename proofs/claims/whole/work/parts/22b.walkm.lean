/-! walk: the reference -/
section
variable {m : th_St} {n : Nat} {fx : Nat → Bool} {hd : Nat → Int} {N : Nat} {eh ed : Nat → Nat} {rd wd : Nat → Nat → Int} {t : Int}
theorem mx_wkI {K : Int32 → th_St → Prop} {a b far h i : Nat} {lw : Nat → Nat → Nat} {k62 : Int32 → Int32 → Int32 → Int32 → Int32 → th_St → Prop} {k71 : Int32 → Int32 → Int32 → Int32 → Int32 → Int32 → th_St → Prop} (hlw : lw = fun h i => flL n fx hd rd (pthc (fun h => qF eh ed t h N) (h + 1)) i) (hck : ckM m n fx hd N eh ed rd t) (hb : b < thr eh ed t N) (h40 : thr eh ed t N ≤ 40) (hn : 1 ≤ n ∧ n ≤ 48) (hh : ∀ i, i < n → 1 ≤ hd i) (hr : ∀ j i, -99 ≤ rd j i ∧ rd j i ≤ 99) (hfar : far < 48) (hhb : h ≤ b) (hi : i < n) (hV : ∀ d i, d ≤ 40 → i < n → Vw lw n far b d i ≤ 1000000) (h57 : h < b → ∀ j, j < n → m.2.2.1 57 (48 * (h + 1) + j) = nI (Vw lw n far b (b - h) j))
    (hK : k71 (nI a) (nI b) (nI far) (nI n) (nI h) (nI (i + 1)) (th_sa m 57 (upd (m.2.2.1 57) (48 * h + i) (nI (Vw lw n far b (b - h + 1) i))))) : ∃ k, M_walk_84_lp K k62 k71 k (nI a) (nI b) (nI far) (nI n) (nI h) (nI i) (0 : Int32) (0 : Int32) m := by
  have hwl := wb_l (f := Vw lw n far b (b - h)) (far := far) hi
  have hwi := wb_is (f := Vw lw n far b (b - h)) (far := far) hi
  have hlwb : flL n fx hd rd (pthc (fun h => qF eh ed t h N) (h + 1)) i ≤ 16000 := flL_b hh hr (by rw [pthc_l]; omega) hi
  have fin : ∀ v, v = Vw lw n far b (b - h) (wb (Vw lw n far b (b - h)) n far i) → M_walk_152 K k62 k71 (nI a) (nI b) (nI far) (nI n) (nI h) (nI i) (nI v) m := by
    intro v hv
    unfold M_walk_152
    refine mx_plc hck (by omega) h40 hn.2 hi hh hr ?_
    rw [show (48 : Int32) = nI 48 from rfl, pk_mul, nI_add, nI_add]
    refine ⟨vp_in_nI (by omega) (by omega), fun u5 e5 => ?_⟩
    rw [ni_cl (by omega)] at e5
    intro x7 e7
    subst e7
    rw [show nI i + (1 : Int32) = nI (i + 1) from nI_1 i, e5]
    have e : Vw lw n far b (b - h + 1) i = v + flL n fx hd rd (pthc (fun h => qF eh ed t h N) (h + 1)) i := by
      rw [Vw, ← hv, show b - (b - h) = h by omega, Nat.add_comm, hlw]
    rw [e] at hK
    exact hK
  refine lqe9 (F := M_walk_84_lp K k62 k71) (G := M_walk_84 K k62 k71) (fun _ _ _ _ _ _ _ _ _ _ => rfl) (fun d a1 a2 a3 a4 a5 a6 a7 a8 u => a1 = nI a ∧ a2 = nI b ∧ a3 = nI far ∧ a4 = nI n ∧ a5 = nI h ∧ a6 = nI i ∧ u = m ∧ ∃ j v, a7 = nI v ∧ a8 = nI j ∧ j + d = n ∧ v ≤ 1000000 ∧ (h < b → (∀ j', j' < j → i ≤ j' + far → j' ≤ i + far → Vw lw n far b (b - h) j' ≤ v) ∧ (v = 0 ∨ ∃ j', j' < j ∧ i ≤ j' + far ∧ j' ≤ i + far ∧ v = Vw lw n far b (b - h) j')) ∧ (¬ h < b → v = 0)) ?_ n _ _ _ _ _ _ _ _ _ ⟨rfl, rfl, rfl, rfl, rfl, rfl, rfl, 0, 0, rfl, rfl, by omega, by omega, fun _ => ⟨fun j' h => by omega, Or.inl rfl⟩, fun _ => rfl⟩
  rintro kk d a1 a2 a3 a4 a5 a6 a7 a8 u ⟨rfl, rfl, rfl, rfl, rfl, rfl, rfl, j, v, rfl, rfl, hjd, hv6, hv1, hv2⟩ ih
  unfold M_walk_84
  rw [ni_le (by omega) (by omega)]
  refine br1 (fun q => fin v ?_) (fun q => ?_)
  · by_cases hlt : h < b
    · obtain ⟨g1, g2⟩ := hv1 hlt
      have hw1 := hwi.1
      have q1 := g1 (wb (Vw lw n far b (b - h)) n far i) (by omega) (by omega) (by omega)
      rcases g2 with g2 | ⟨j', p1, p2, p3, p4⟩
      · omega
      · have := hwi.2.1 j' (by omega) (by omega)
        omega
    · rw [hv2 hlt, show b - h = 0 by omega, Vw]
  · rw [ni_le (by omega) (by omega)]
    refine br1 (fun q2 => fin v ?_) (fun q2 => ?_)
    · rw [hv2 (by omega), show b - h = 0 by omega, Vw]
    · obtain ⟨g1, g2⟩ := hv1 (by omega)
      have hVj := hV (b - h) j (by omega) (by omega)
      have go : ∀ v', v' ≤ 1000000 → (∀ j', j' < j + 1 → i ≤ j' + far → j' ≤ i + far → Vw lw n far b (b - h) j' ≤ v') → (v' = 0 ∨ ∃ j', j' < j + 1 ∧ i ≤ j' + far ∧ j' ≤ i + far ∧ v' = Vw lw n far b (b - h) j') → M_walk_146 K k62 k71 kk (nI a) (nI b) (nI far) (nI n) (nI h) (nI i) (nI v') (nI j) u := by
        intro v' p1 p2 p3
        unfold M_walk_146
        intro x9 e9
        subst e9
        exact ih (d - 1) _ _ _ _ _ _ _ _ _ (by omega) ⟨rfl, rfl, rfl, rfl, rfl, rfl, rfl, j + 1, v', rfl, nI_1 j, by omega, p1, fun _ => ⟨p2, p3⟩, fun g => absurd (show h < b by omega) g⟩
      have keep : (∃ j', j' < j ∧ i ≤ j' + far ∧ j' ≤ i + far ∧ v = Vw lw n far b (b - h) j') → ∃ j', j' < j + 1 ∧ i ≤ j' + far ∧ j' ≤ i + far ∧ v = Vw lw n far b (b - h) j' := fun ⟨j', p1, p2⟩ => ⟨j', by omega, p2⟩
      rw [ii_nsub]
      refine mx_plainZ (by omega) (by omega) ?_
      rw [ni_lt (by omega) (by omega)]
      refine br1 (fun p => go v hv6 (fun j' p1 p2 p3 => ?_) (g2.imp id keep)) (fun p => ?_)
      · by_cases e : j' = j
        · omega
        · exact g1 j' (by omega) p2 p3
      · rw [show nI h + (1 : Int32) = nI (h + 1) from nI_1 h, show (48 : Int32) = nI 48 from rfl, pk_mul, nI_add]
        refine ⟨vp_in_nI (by omega) (by omega), fun y3 e3 => ?_⟩
        rw [ni_cl (by omega), h57 (by omega) j (by omega)] at e3
        subst e3
        rw [ni_le (by omega) (by omega)]
        refine br1 (fun p2 => go v hv6 (fun j' q1 q2 q3 => ?_) (g2.imp id keep)) (fun p2 => ⟨vp_in_nI (by omega) (by omega), fun y4 e4 => ?_⟩)
        · by_cases e : j' = j
          · subst e; exact p2
          · exact g1 j' (by omega) q2 q3
        · rw [ni_cl (by omega), h57 (by omega) j (by omega)] at e4
          subst e4
          refine go _ hVj (fun j' q1 q2 q3 => ?_) (Or.inr ⟨j, by omega, by omega, by omega, rfl⟩)
          by_cases e : j' = j
          · subst e; exact Nat.le_refl _
          · have := g1 j' (by omega) q2 q3
            omega
/-- the first phase: what is loudest from each hour on -/
theorem mx_wk1 {K : Int32 → th_St → Prop} {a b far W : Nat} {lw : Nat → Nat → Nat} (hlw : lw = fun h i => flL n fx hd rd (pthc (fun h => qF eh ed t h N) (h + 1)) i) (hck : ckM m n fx hd N eh ed rd t) (hb : b < thr eh ed t N) (h40 : thr eh ed t N ≤ 40) (hn : 1 ≤ n ∧ n ≤ 48) (hh : ∀ i, i < n → 1 ≤ hd i) (hr : ∀ j i, -99 ≤ rd j i ∧ rd j i ≤ 99) (hfar : far < 48) (hab : a ≤ b) (hW : W = b - a + 1) (hV : ∀ d i, d ≤ 40 → i < n → Vw lw n far b d i ≤ 1000000)
    (hK : ∀ y, mf [59] [57] [] m y → y.1 59 = nI W → (∀ h i, a ≤ h → h ≤ b → i < n → y.2.2.1 57 (48 * h + i) = nI (Vw lw n far b (b - h + 1) i)) → ∃ k, M_walk_203_lp K k (nI a) (nI b) (nI far) (nI n) (nI a) y) : ∃ k, M_walk_62_lp K k (nI a) (nI b) (nI far) (nI n) (nI b) m := by
  refine lqe6 (F := M_walk_62_lp K) (G := M_walk_62 K) (fun _ _ _ _ _ _ _ => rfl) (fun d a1 a2 a3 a4 a5 u => a1 = nI a ∧ a2 = nI b ∧ a3 = nI far ∧ a4 = nI n ∧ mf [] [57] [] m u ∧ d ≤ W ∧ a5 = iI ((a : Int) + d - 1) ∧ (∀ h i, a + d ≤ h → h ≤ b → i < n → u.2.2.1 57 (48 * h + i) = nI (Vw lw n far b (b - h + 1) i))) ?_ W _ _ _ _ _ _ ⟨rfl, rfl, rfl, rfl, mf_r m, Nat.le_refl _, by rw [show ((a : Int) + W - 1) = (b : Int) by omega]; rfl, fun h i h1 h2 => by omega⟩
  rintro kk d a1 a2 a3 a4 a5 u ⟨rfl, rfl, rfl, rfl, uf, hdW, rfl, u57⟩ ih
  unfold M_walk_62
  rw [ii_ltL (by omega) (by omega) (by omega)]
  refine br1 (fun q => ?_) (fun q => ?_)
  · intro u1 e1
    rw [ii_nsub, show (1 : Int32) = iI 1 from rfl, ii_add, show ((b : Int) - a + 1) = (W : Int) by omega] at e1
    refine hK u1 (by rw [e1]; exact mf_i (by decide) (mf_w uf (by decide) (by decide) (by decide))) (by rw [e1]; exact thi_s _ _ _) (fun h i h1 h2 h3 => ?_)
    rw [e1]
    exact u57 h i (by omega) h2 h3
  · obtain ⟨h, hdh⟩ : ∃ h, d = h + 1 := ⟨d - 1, by omega⟩
    subst hdh
    rw [show iI ((a : Int) + ((h + 1 : Nat) : Int) - 1) = nI (a + h) by rw [show ((a : Int) + ((h + 1 : Nat) : Int) - 1) = ((a + h : Nat) : Int) by omega]; rfl]
    refine lqe7 (F := M_walk_71_lp K kk) (G := M_walk_71 K kk) (fun _ _ _ _ _ _ _ _ => rfl) (fun e a1 a2 a3 a4 a5 a6 v => a1 = nI a ∧ a2 = nI b ∧ a3 = nI far ∧ a4 = nI n ∧ a5 = nI (a + h) ∧ mf [] [57] [] m v ∧ (∀ h' i, a + h + 1 ≤ h' → h' ≤ b → i < n → v.2.2.1 57 (48 * h' + i) = nI (Vw lw n far b (b - h' + 1) i)) ∧ ∃ i, a6 = nI i ∧ i + e = n ∧ ∀ i', i' < i → v.2.2.1 57 (48 * (a + h) + i') = nI (Vw lw n far b (b - (a + h) + 1) i')) ?_ n _ _ _ _ _ _ _ ⟨rfl, rfl, rfl, rfl, rfl, uf, fun h' i h1 h2 h3 => u57 h' i (by omega) h2 h3, 0, rfl, by omega, fun i' h => by omega⟩
    rintro kk2 e a1 a2 a3 a4 a5 a6 v ⟨rfl, rfl, rfl, rfl, rfl, vf, v57, i, rfl, hie, v57'⟩ ih2
    unfold M_walk_71
    rw [ni_le (by omega) (by omega)]
    refine br1 (fun q2 => ?_) (fun q2 => ?_)
    · intro x6 e6
      rw [show nI (a + h) + (-1 : Int32) = iI ((a : Int) + h - 1) by rw [show (-1 : Int32) = iI (-1) from rfl, ii_addR, show (((a + h : Nat) : Int) + -1) = ((a : Int) + h - 1) by omega]] at e6
      subst e6
      refine ih h _ _ _ _ _ _ (by omega) ⟨rfl, rfl, rfl, rfl, vf, by omega, rfl, fun h' i' h1 h2 h3 => ?_⟩
      by_cases eh' : h' = a + h
      · subst eh'; exact v57' i' (by omega)
      · exact v57 h' i' (by omega) h2 h3
    · refine mx_wkI hlw (ckM_f hck vf (by decide) (by decide) (by decide)) hb h40 hn hh hr hfar (by omega) (by omega) hV (fun hlt j hj => ?_) ?_
      · rw [v57 (a + h + 1) j (by omega) (by omega) hj, show b - (a + h + 1) + 1 = b - (a + h) by omega]
      · refine ih2 (e - 1) _ _ _ _ _ _ _ (by omega) ⟨rfl, rfl, rfl, rfl, rfl, mf_a (by decide) vf, fun h' i' h1 h2 h3 => ?_, i + 1, rfl, by omega, fun i' hi' => ?_⟩
        · rw [tha_s, pk_un (by omega)]; exact v57 h' i' h1 h2 h3
        · rw [tha_s]
          by_cases ei : i' = i
          · subst ei; rw [pk_us]
          · rw [pk_un (by omega)]; exact v57' i' (by omega)
/-- the second phase: the way -/
theorem mx_wk2 {K : Int32 → th_St → Prop} {a b far W : Nat} {lw : Nat → Nat → Nat} (hb40 : b < 40) (hn : 1 ≤ n ∧ n ≤ 48) (hfar : far < 48) (hab : a ≤ b) (hW : W = b - a + 1) (hV : ∀ d i, d ≤ 40 → i < n → Vw lw n far b d i ≤ 1000000) (h57 : ∀ h i, a ≤ h → h ≤ b → i < n → m.2.2.1 57 (48 * h + i) = nI (Vw lw n far b (b - h + 1) i))
    (hK : ∀ y, mf [] [58] [] m y → (∀ t, t < W → y.2.2.1 58 t = nI (rtW lw n far b W t)) → K (nI (Vw lw n far b W (rtW lw n far b W 0))) y) : ∃ k, M_walk_203_lp K k (nI a) (nI b) (nI far) (nI n) (nI a) m := by
  have hrt := rtW_l (lo := lw) (n := n) (far := far) (b := b) (W := W) (by omega)
  refine lqe6 (F := M_walk_203_lp K) (G := M_walk_203 K) (fun _ _ _ _ _ _ _ => rfl) (fun d a1 a2 a3 a4 a5 u => a1 = nI a ∧ a2 = nI b ∧ a3 = nI far ∧ a4 = nI n ∧ mf [] [58] [] m u ∧ ∃ t, a5 = nI (a + t) ∧ t + d = W ∧ ∀ t', t' < t → u.2.2.1 58 t' = nI (rtW lw n far b W t')) ?_ W _ _ _ _ _ _ ⟨rfl, rfl, rfl, rfl, mf_r m, 0, rfl, by omega, fun t' h => by omega⟩
  rintro kk d a1 a2 a3 a4 a5 u ⟨rfl, rfl, rfl, rfl, uf, t, rfl, htd, u58⟩ ih
  have u57 : u.2.2.1 57 = m.2.2.1 57 := uf.2.1 57 (by decide)
  unfold M_walk_203
  rw [ni_lt (by omega) (by omega)]
  refine br1 (fun q => ?_) (fun q => ?_)
  · refine ⟨vp_in_nI (n := 0) (by omega) (by omega), fun y1 e1 => ?_⟩
    have e1 : y1 = nI (rtW lw n far b W 0) := by rw [e1]; exact u58 0 (by omega)
    subst e1
    have hr0 := hrt 0
    rw [show (48 : Int32) = nI 48 from rfl, pk_mul, nI_add]
    refine ⟨vp_in_nI (by omega) (by omega), fun y2 e2 => ?_⟩
    rw [ni_cl (by omega), u57, h57 a _ (Nat.le_refl _) hab hr0, ← hW] at e2
    subst e2
    exact hK u uf (fun t' h => u58 t' (by omega))
  · have hex : ∃ lo hi, (lo ≤ hi ∧ hi < n) ∧ (t = 0 → lo = 0 ∧ hi = n - 1) ∧ (∀ s, t = s + 1 → lo = rtW lw n far b W s - far ∧ hi = min (rtW lw n far b W s + far) (n - 1)) ∧ isFA (Vw lw n far b (W - t)) lo hi (rtW lw n far b W t) := by
      cases t with
      | zero =>
        refine ⟨0, n - 1, by omega, fun _ => ⟨rfl, rfl⟩, fun s h => by omega, ?_⟩
        rw [rtW, Nat.sub_zero]
        have := fA_is (Vw lw n far b W) 0 (n - 1)
        rw [Nat.zero_add] at this
        exact this
      | succ s =>
        have := hrt s
        refine ⟨rtW lw n far b W s - far, min (rtW lw n far b W s + far) (n - 1), by omega, fun h => by omega, fun s' h => ?_, ?_⟩
        · have : s' = s := by omega
          subst this
          exact ⟨rfl, rfl⟩
        · rw [rtW, show W - (s + 1) = W - 1 - s by omega]
          exact wb_is this
    obtain ⟨lo, hi, hlh, hl0, hls, hfa⟩ := hex
    have hVt : ∀ i, i < n → m.2.2.1 57 (48 * (a + t) + i) = nI (Vw lw n far b (W - t) i) := fun i hi => by
      rw [h57 (a + t) i (by omega) (by omega) hi, show b - (a + t) + 1 = W - t by omega]
    have hVb : ∀ i, i < n → Vw lw n far b (W - t) i ≤ 1000000 := fun i hi => hV _ i (by omega) hi
    refine lqe8 (F := M_walk_215_lp K kk) (G := M_walk_215 K kk) (fun _ _ _ _ _ _ _ _ _ => rfl) (fun e a1 a2 a3 a4 a5 a6 a7 v => a1 = nI a ∧ a2 = nI b ∧ a3 = nI far ∧ a4 = nI n ∧ a5 = nI (a + t) ∧ v = u ∧ ∃ i, a7 = nI i ∧ i + e = n ∧ ((i ≤ lo ∧ a6 = -1) ∨ (lo < i ∧ ∃ k, a6 = nI k ∧ isFA (Vw lw n far b (W - t)) lo (min (i - 1) hi) k))) ?_ n _ _ _ _ _ _ _ _ ⟨rfl, rfl, rfl, rfl, rfl, rfl, 0, rfl, by omega, Or.inl ⟨Nat.zero_le _, rfl⟩⟩
    rintro kk2 e a1 a2 a3 a4 a5 a6 a7 v ⟨rfl, rfl, rfl, rfl, rfl, rfl, i, rfl, hie, hst⟩ ih2
    unfold M_walk_215
    rw [ni_le (by omega) (by omega)]
    refine br1 (fun q2 => ?_) (fun q2 => ?_)
    · rcases hst with ⟨h1, -⟩ | ⟨h1, k, rfl, h2⟩
      · omega
      · rw [show min (i - 1) hi = hi by omega] at h2
        have ek := isFA_u h2 hfa
        subst ek
        rw [show nI (a + t) - nI a = nI t by rw [pk_sub (by omega), show a + t - a = t by omega]]
        refine ⟨vp_in_nI (by omega) (by omega), fun u1 e1 => ?_⟩
        rw [ni_cl (by omega)] at e1
        intro x6 e6
        subst e6
        refine ih (d - 1) _ _ _ _ _ _ (by omega) ⟨rfl, rfl, rfl, rfl, by rw [e1]; exact mf_a (by decide) uf, t + 1, nI_1 _, by omega, fun t' ht' => ?_⟩
        rw [e1, tha_s]
        by_cases et : t' = t
        · subst et; rw [pk_us]
        · rw [pk_un et]; exact u58 t' (by omega)
    · have hin : i < n := by omega
      have goNo : (i < lo ∨ hi < i) → M_walk_287 K kk kk2 (nI a) (nI b) (nI far) (nI n) (nI (a + t)) a6 (nI i) v := by
        intro hout
        unfold M_walk_287
        intro x8 e8
        subst e8
        refine ih2 (e - 1) _ _ _ _ _ _ _ _ (by omega) ⟨rfl, rfl, rfl, rfl, rfl, rfl, i + 1, nI_1 i, by omega, ?_⟩
        rcases hst with ⟨h1, h2⟩ | ⟨h1, k, h2, h3⟩
        · rcases hout with ho | ho
          · exact Or.inl ⟨by omega, h2⟩
          · omega
        · refine Or.inr ⟨by omega, k, h2, ?_⟩
          rw [show min (i + 1 - 1) hi = min (i - 1) hi by omega]
          exact h3
      have goYes : (lo ≤ i ∧ i ≤ hi) → M_walk_249 K kk kk2 (nI a) (nI b) (nI far) (nI n) (nI (a + t)) a6 (nI i) v := by
        intro hinn
        unfold M_walk_249 M_walk_283 M_walk_287
        rcases hst with ⟨h1, rfl⟩ | ⟨h1, k, rfl, h3⟩
        · refine ⟨fun _ x8 e8 => ?_, fun g => absurd (by decide) g⟩
          subst e8
          refine ih2 (e - 1) _ _ _ _ _ _ _ _ (by omega) ⟨rfl, rfl, rfl, rfl, rfl, rfl, i + 1, nI_1 i, by omega, Or.inr ⟨by omega, i, rfl, ⟨by omega, fun j j1 j2 => by rw [show j = i by omega]; exact Nat.le_refl _, fun j j1 j2 => by omega⟩⟩⟩
        · have hk1 := h3.1
          have c0 : (nI k < (0 : Int32)) = (k < 0) := ni_lt (b := 0) (by omega) (by omega)
          rw [c0]
          refine ⟨fun g => by omega, fun _ => ?_⟩
          rw [show (48 : Int32) = nI 48 from rfl, pk_mul, nI_add, nI_add]
          refine ⟨vp_in_nI (by omega) (by omega), fun y1 e1 => ?_⟩
          rw [ni_cl (by omega), u57, hVt i hin] at e1
          subst e1
          refine ⟨vp_in_nI (by omega) (by omega), fun y2 e2 => ?_⟩
          rw [ni_cl (by omega), u57, hVt k (by omega)] at e2
          subst e2
          have b1 := hVb i hin
          have b2 := hVb k (by omega)
          rw [ni_le (by omega) (by omega)]
          refine br1 (fun p x8 e8 => ?_) (fun p x8 e8 => ?_)
          · subst e8
            refine ih2 (e - 1) _ _ _ _ _ _ _ _ (by omega) ⟨rfl, rfl, rfl, rfl, rfl, rfl, i + 1, nI_1 i, by omega, Or.inr ⟨by omega, k, rfl, ⟨by omega, fun j j1 j2 => ?_, h3.2.2⟩⟩⟩
            by_cases ej : j = i
            · subst ej; exact p
            · exact h3.2.1 j j1 (by omega)
          · subst e8
            refine ih2 (e - 1) _ _ _ _ _ _ _ _ (by omega) ⟨rfl, rfl, rfl, rfl, rfl, rfl, i + 1, nI_1 i, by omega, Or.inr ⟨by omega, i, rfl, ⟨by omega, fun j j1 j2 => ?_, fun j j1 j2 => ?_⟩⟩⟩
            · by_cases ej : j = i
              · subst ej; exact Nat.le_refl _
              · have := h3.2.1 j j1 (by omega)
                omega
            · have := h3.2.1 j j1 (by omega)
              omega
      rw [ni_eq (by omega) (by omega)]
      refine br1 (fun p => ?_) (fun p => ?_)
      · obtain ⟨p1, p2⟩ := hl0 (by omega)
        exact goYes (by omega)
      · obtain ⟨s, hs⟩ : ∃ s, t = s + 1 := ⟨t - 1, by omega⟩
        obtain ⟨p1, p2⟩ := hls s hs
        have hrs := hrt s
        rw [show nI (a + t) - nI a - (1 : Int32) = nI s by rw [pk_sub (by omega), show a + t - a = t by omega, hs]; exact pk_sub (a := s + 1) (b := 1) (by omega)]
        refine ⟨vp_in_nI (by omega) (by omega), fun y3 e3 => ?_⟩
        rw [ni_cl (by omega), u58 s (by omega)] at e3
        subst e3
        rw [ii_nsub]
        refine mx_plainZ (by omega) (by omega) ?_
        rw [ni_lt (by omega) (by omega)]
        exact br1 (fun p3 => goNo (by omega)) (fun p3 => goYes (by omega))
end
theorem sx_walk {x : xs_St} {m : th_St} (hB : sBody x m) (hL : sList 40 801 800 59 58 x m) {a b f c : Int32} {K : Int32 → xs_St → Int32 → th_St → Prop}
    (k1 : ∀ r x' m', xg [801] [800, 802, 803, 804] [] [501] x x' → mf [0, 40, 41, 42, 59] [38, 39, 57, 58] [] m m' → sBody x' m' → sList 40 801 800 59 58 x' m' → K r x' r m') : X_TH_walk a b f c x (fun r x' => M_walk a b f c m (fun r' m' => K r x' r' m')) := by
  obtain ⟨n, fx, hd, N, eh, ed, er, ea, rd, wd, P, hq0⟩ := hB
  have hq := bq_0 hq0 0
  obtain ⟨b1, b2, b3, b4, b5, b6, b7, b8, b9, b10⟩ := id hq
  have hn := b1.1
  have h40 := thr_40 b3 c.toInt
  have hh : ∀ i, i < n → 1 ≤ hd i := fun i hi => (b1.2.2 i (by omega)).2.2.1
  have fz : mf [0, 40, 41, 42, 59] [38, 39, 57, 58] [] m (th_si m 0 0) := mf_i (by decide) (mf_r m)
  have c47 : (47 : Int32).toInt = 47 := by decide
  have fgx : ∀ x', fF x x' → xg [801] [800, 802, 803, 804] [] [501] x x' := fun x' g => ⟨fun k _ => by unfold xi; rw [g.1], fun k _ => by unfold xa; rw [g.1], fun k _ => by unfold xl; rw [g.1], g.2.1, fun k hk => g.2.2 k (fun e => hk (by rw [e]; decide))⟩
  have bad : ∀ x' P', ¬ ((0 ≤ a.toInt ∧ a.toInt ≤ b.toInt) ∧ b.toInt < thr eh ed c.toInt N ∧ 0 ≤ f.toInt ∧ f.toInt ≤ 47) → fF x x' → lgX x' n N eh ed er ea rd wd → trX x' n fx hd N eh er rd P' → M_walk a b f c m (fun r' m' => K (-1) x' r' m') := by
    intro x' P' hno g1 g2 g3
    unfold M_walk
    intro u1 e1; subst e1
    refine mx_look b2 b4 b5 b7 b3.2.2.2.2.1 (fun y yf ych yck => ?_)
    have fin : M_walk_49 (fun r' m' => K (-1) x' r' m') y := by
      unfold M_walk_49
      refine k1 (-1) x' y (fgx x' g1) (mf_t fz (mf_w yf (by decide) (by decide) (by decide))) ⟨n, fx, hd, N, eh, ed, er, ea, rd, wd, P', bq_k hq g1 g2 g3 yf (by decide) (by decide) ych⟩ ?_
      obtain ⟨W, w1, w2, w3, w4⟩ := hL
      refine ⟨W, w1, by unfold xi; rw [g1.1]; exact w2, by rw [yf.1 59 (by decide)]; exact w3, fun k hk => ?_⟩
      rw [yf.2.1 58 (by decide)]
      unfold xa
      rw [g1.1]; exact w4 k hk
    rw [yck.1]
    refine mx_in1 (by omega) (fun _ => ⟨fun _ => fin, fun g => absurd rfl g⟩) (fun i hi ei => ⟨fun g => absurd g (by decide), fun _ => ?_⟩)
    have e2 : (nI (thr eh ed c.toInt N) - (1 : Int32)).toInt = (thr eh ed c.toInt N : Int) - 1 := by
      rw [show nI (thr eh ed c.toInt N) - (1 : Int32) = iI ((thr eh ed c.toInt N : Int) - 1) from ii_nsub _ 1, ii_toInt (by omega) (by omega)]
    rw [yck.1]
    refine mx_is2 rfl e2 (fun p1 p2 => ⟨fun g => absurd g (by decide), fun _ => ?_⟩) (fun _ => ⟨fun _ => fin, fun g => absurd rfl g⟩)
    refine mx_is2 tt_0 c47 (fun p3 p4 => ?_) (fun _ => ⟨fun g => absurd rfl g, fun _ => fin⟩)
    exfalso
    apply hno
    rw [ei, ti_nI (by omega)] at p1 ⊢
    omega
  unfold X_TH_walk X_TH_walk_19 X_TH_walk_68
  have c48 : (48 : Int32).toInt = 48 := by decide
  rw [ti_lt, tt_0, ti_lt, ti_lt, tt_0, ti_lt, c48]
  refine br1 (fun q => bad x P (by omega) (fF_r x) b3 b6) (fun q => br1 (fun q2 => bad x P (by omega) (fF_r x) b3 b6) (fun q2 => br1 (fun q3 => bad x P (by omega) (fF_r x) b3 b6) (fun q3 => br1 (fun q4 => ?_) (fun q4 => bad x P (by omega) (fF_r x) b3 b6))))
  refine sx_feelOf b1 b3 b5 b6 (fun hno x' P' g1 g2 g3 => ⟨fun g => absurd rfl g, fun _ => bad x' P' (by omega) g1 g2 g3⟩) (fun h eb hh' x' P' nd g1 g2 g3 g4 g5 => ⟨fun _ => ?_, fun g => (by cases g)⟩)
  subst eb
  rw [ti_nI (by omega)] at q2
  obtain ⟨a0, ea0⟩ := Int.eq_ofNat_of_zero_le (Int.not_lt.mp q)
  have ea1 := ti_of ea0
  subst ea1
  obtain ⟨far, ef0⟩ := Int.eq_ofNat_of_zero_le (Int.not_lt.mp q3)
  have ef1 := ti_of ef0
  subst ef1
  rw [ti_nI (by omega)] at q2 q4
  have x300 : xi x' 300 = nI n := by unfold xi; rw [g1.1]; exact b1.2.1
  rw [x300, show nI h - nI a0 + (1 : Int32) = nI (h - a0 + 1) by rw [pk_sub (by omega)]; exact nI_1 _]
  refine sx_loudest (a := a0) (b := h) (far := far) (W := h - a0 + 1) (q := fun h => qF eh ed c.toInt h N) g2 g3 g4 g5 ⟨by omega, hn.2⟩ hh (by omega) (by omega) (by omega) rfl (fun y yf y801 y800 => ?_)
  have hlo : ∀ h' i, h' ≤ h → i < n → flL n fx hd rd (pthc (fun h => qF eh ed c.toInt h N) (h' + 1)) i ≤ 16000 := fun h' i h1 h2 => flL_b hh b3.2.2.2.2.1 (by rw [pthc_l]; omega) h2
  have hV : ∀ d i, d ≤ 40 → i < n → Vw (fun h i => flL n fx hd rd (pthc (fun h => qF eh ed c.toInt h N) (h + 1)) i) n far h d i ≤ 1000000 := fun d i hd' hi => by
    have := Vw_b (far := far) (lo := fun h i => flL n fx hd rd (pthc (fun h => qF eh ed c.toInt h N) (h + 1)) i) hlo d i hi
    omega
  unfold M_walk
  intro u1 e1; subst e1
  refine mx_look b2 b4 b5 b7 b3.2.2.2.2.1 (fun w wf wch wck => ?_)
  rw [wck.1]
  refine mx_in1 (by omega) (fun g => absurd (by rw [ti_nI (by omega)]; omega) g) (fun i hi ei => ⟨fun g => absurd g (by decide), fun _ => ?_⟩)
  have e2 : (nI (thr eh ed c.toInt N) - (1 : Int32)).toInt = (thr eh ed c.toInt N : Int) - 1 := by
    rw [show nI (thr eh ed c.toInt N) - (1 : Int32) = iI ((thr eh ed c.toInt N : Int) - 1) from ii_nsub _ 1, ii_toInt (by omega) (by omega)]
  rw [wck.1]
  refine mx_is2 (ti_nI (by omega)) e2 (fun p1 p2 => ⟨fun g => absurd g (by decide), fun _ => ?_⟩) (fun g => absurd (by rw [ti_nI (by omega)]; omega) g)
  refine mx_is2 tt_0 c47 (fun p3 p4 => ⟨fun _ => ?_, fun g => absurd g (by decide)⟩) (fun g => absurd (by rw [ti_nI (by omega)]; omega) g)
  refine ⟨vp_in_nI (n := 0) (by omega) (by omega), fun y10 e10 => ?_⟩
  have e10 : y10 = nI n := by rw [e10]; exact (txM_f b2 wf (by decide) (by decide) (by decide)).2.1
  subst e10
  refine mx_wk1 (W := h - a0 + 1) rfl wck hh' h40 ⟨by omega, hn.2⟩ hh b3.2.2.2.2.1 (by omega) (by omega) rfl hV (fun v vf v59 v57 => ?_)
  refine mx_wk2 (W := h - a0 + 1) (by omega) ⟨by omega, hn.2⟩ (by omega) (by omega) rfl hV v57 (fun z zf z58 => ?_)
  have zf0 : mf [59] [57, 58] [] w z := mf_t (mf_w vf (by decide) (by decide) (by decide)) (mf_w zf (by decide) (by decide) (by decide))
  have zf1 : mf [40, 41, 42, 59] [38, 39, 57, 58] [] (th_si m 0 0) z := mf_t (mf_w wf (by decide) (by decide) (by decide)) (mf_w zf0 (by decide) (by decide) (by decide))
  have yf' := yf
  obtain ⟨y1, y2, y3, y4⟩ := yf'
  have gx := fgx x' g1
  have hqx : bq x' z n fx hd N eh ed er ea rd wd P' := bq_k hq g1 g2 g3 zf1 (by decide) (by decide) (chM_f wch zf0 (by decide) (by decide) (by decide) (by decide) (by decide))
  refine k1 _ y z ⟨fun k hk => (y1 k hk).trans (gx.1 k hk), fun k hk => (y2 k hk).trans (gx.2.1 k hk), fun k hk => (y3 k hk).trans (gx.2.2.1 k hk), by rw [y4]; exact gx.2.2.2.1, fun k hk => by unfold xo; rw [y4]; exact gx.2.2.2.2 k hk⟩ (mf_t fz (mf_w zf1 (by decide) (by decide) (by decide))) ⟨n, fx, hd, N, eh, ed, er, ea, rd, wd, P', bq_f hqx yf (by decide) (by decide) (mf_r (I := []) (A := []) (L := []) z) (by decide) (by decide)⟩ ⟨h - a0 + 1, by omega, y801, by rw [zf.1 59 (by decide)]; exact v59, fun k hk => by rw [y800 k hk, z58 k hk]⟩

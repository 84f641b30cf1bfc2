/-! text: before and behind an operand -/
section
variable {t : TK} {u0 u : th_St} {k o S n : Nat} {l : List Nat} {K : Int32 → th_St → Prop}
theorem BO_b1 (hA : kA t) (hm : mS t u0 u k o S n l) (hk : k ≤ kT t) (e21 : kK t k ≠ 21) (e4 : kK t k ≠ 4) (h22 : kK t k < 22) (h : ∀ y, fB u0 y 1 (kP t k) → K 0 y) : BO t K u k := by
  intro n' j hn hj
  obtain ⟨j', rfl⟩ : ∃ j', j = j' + 1 := ⟨j - 1, by omega⟩
  show M_one_0 (Kone K n') (M_one_0_lp (Kone K n') j') u
  exact mx_one0 hA hm hk (fun e => absurd e e21) (fun e => absurd e e4) (fun a _ ea => by omega) (fun _ _ _ y hy => Kone_0 (h y hy))
theorem BO_b4 (hA : kA t) (hm : mS t u0 u k o S n l) (hk : k ≤ kT t) (hg : kK t k = 21 ∨ kK t k = 4 ∨ 22 ≤ kK t k) (ho : o ≤ 40) (hl : l.length ≤ 99) (hp : pK l) (ho10 : opn l ≤ 10) (hor : o = 40 ∨ opn l = 10) (h : ∀ y, fB u0 y 4 (kP t k) → K 0 y) : BO t K u k := by
  intro n' j hn hj
  obtain ⟨j', rfl⟩ : ∃ j', j = j' + 1 := ⟨j - 1, by omega⟩
  show M_one_0 (Kone K n') (M_one_0_lp (Kone K n') j') u
  have hkT := kA_l hA hk (by omega)
  have all : ∀ x1 x2, M_one_36 (Kone K n') (M_one_0_lp (Kone K n') j') x1 x2 u := fun x1 x2 => mx_36 hA hm hkT ho hl hp ho10 (fun _ y hy => Kone_0 (h y hy)) (fun g1 g2 => by omega)
  exact mx_one0 hA hm hk (fun _ => all _ _) (fun _ => all _ _) (fun _ _ _ => all _ _) (fun e1 e2 e3 => by omega)
theorem BO_p {z : Nat} (hA : kA t) (hm : mS t u0 u k o S n l) (hk : k ≤ kT t) (hz : (kK t k = 21 ∧ z = 10) ∨ (kK t k = 4 ∧ z = 13)) (ho : o < 40) (hl : l.length ≤ 98) (hp : pK l) (ho10 : opn l < 10) (h : ∀ u', mS t u0 u' (k + 1) (o + 1) S n (z :: l) → loS u u' S → BO t K u' (k + 1)) : BO t K u k := by
  intro n' j hn hj
  obtain ⟨j', rfl⟩ : ∃ j', j = j' + 1 := ⟨j - 1, by omega⟩
  show M_one_0 (Kone K n') (M_one_0_lp (Kone K n') j') u
  have hkT := kA_l hA hk (by omega)
  have hs : ∀ u', (∀ a, u'.2.2.1 a = u.2.2.1 a) → loS u u' S := fun u' he s _ => by rw [he, he, he, he]; exact ⟨rfl, rfl, rfl, rfl⟩
  refine mx_one0 hA hm hk (fun e => ?_) (fun e => ?_) (fun a _ ea => by omega) (fun e1 e2 e3 => by omega)
  · have z10 : z = 10 := by omega
    subst z10
    refine mx_36 hA hm hkT (by omega) (by omega) hp (by omega) (fun g => by omega) (fun _ _ u' m' e' => ⟨fun g => absurd g (by decide), fun _ => ⟨fun g => absurd g (by decide), fun _ => ?_⟩⟩)
    exact mx_97 (z := 10) m' hl (fun u2 m2 lo2 => h u2 m2 (loS_t (hs u' e') lo2 (Nat.le_refl _)) n' j' (by omega) (by omega))
  · have z13 : z = 13 := by omega
    subst z13
    refine mx_36 hA hm hkT (by omega) (by omega) hp (by omega) (fun g => by omega) (fun _ _ u' m' e' => ⟨fun g => absurd g (by decide), fun _ => ⟨fun _ => ?_, fun g => absurd rfl g⟩⟩)
    exact mx_97 (z := 13) m' hl (fun u2 m2 lo2 => h u2 m2 (loS_t (hs u' e') lo2 (Nat.le_refl _)) n' j' (by omega) (by omega))
theorem BO_m {a : Nat} (hA : kA t) (hm : mS t u0 u k o S n l) (hk : k ≤ kT t) (ha : a ≤ 4) (hka : kK t k = 22 + a) (ho : o < 40) (hl : l.length ≤ 98) (hp : pK l) (ho10 : opn l < 10) (hS : S ≤ 100) (hn : 4 ≤ n ∧ n ≤ 48)
    (h1 : ∀ u' k2 v nv, mOk t (k + 1) a n k2 v nv → mS t u0 u' (k2 + 2) (o + 1) (S + 1 + nts l) n (dpN l) → loS u u' S → u'.2.2.1 16 (200 + S) = nI a → u'.2.2.1 17 (200 + S) = nI (kK t k2 + 54) → u'.2.2.1 18 (200 + S) = nI nv → (a = 4 → u'.2.2.1 19 (200 + S) = nI v) → (∀ i, i < nts l → u'.2.2.1 16 (200 + (S + 1 + i)) = nI 10) → AO t K u' (k2 + 2))
    (h0 : ∀ y kd kp, mBd t (k + 1) a n kd kp → fB u0 y kd (kP t kp) → K 0 y) : BO t K u k := by
  intro n' j hn' hj
  obtain ⟨j', rfl⟩ : ∃ j', j = j' + 1 := ⟨j - 1, by omega⟩
  show M_one_0 (Kone K n') (M_one_0_lp (Kone K n') j') u
  have hkT := kA_l hA hk (by omega)
  have hno := nts_o l
  refine mx_one0 hA hm hk (fun e => by omega) (fun e => by omega) (fun a' ha' ea' => ?_) (fun e1 e2 e3 => by omega)
  have eaa : a' = a := by omega
  subst eaa
  refine mx_36 hA hm hkT (by omega) (by omega) hp (by omega) (fun g => by omega) (fun _ _ u' m' e' => ⟨fun _ => ?_, fun g => absurd (by rw [show (0 : Int32) = nI 0 from rfl, ni_le (by omega) (by omega)]; omega) g⟩)
  have lo' : loS u u' S := fun s _ => by rw [e', e', e', e']; exact ⟨rfl, rfl, rfl, rfl⟩
  refine mx_MS hA m' (by omega) (by omega) ha hn (fun u2 k2 v nv hok m2 lo2 g16 g17 g18 g19 => ?_) (fun y kd kp hb hy => Kone_0 (h0 y kd kp hb hy))
  refine wd_3 m2 hp (by omega) (by omega) (fun y my loy yhi => ⟨n011, ?_⟩)
  have hk2 : k + 1 ≤ k2 := by
    rcases Nat.lt_or_ge a' 4 with g | g
    · have := (hok.2.1 (by omega)).1; omega
    · have := (hok.1 (by omega)).2.2.2; omega
  refine Kone_1 (k := k2 + 2) (h1 y k2 v nv hok my (loS_t lo' (loS_t lo2 loy (by omega)) (Nat.le_refl _)) ?_ ?_ ?_ (fun e => ?_) yhi) (by omega)
  · rw [(loy S (by omega)).1]; exact g16
  · rw [(loy S (by omega)).2.1]; exact g17
  · rw [(loy S (by omega)).2.2.1]; exact g18
  · rw [(loy S (by omega)).2.2.2]; exact g19 e
def opT (r : List Nat) : Prop := r = [] ∨ r = [11] ∨ r = [12] ∨ r = [11, 12]
theorem opT_b {r : List Nat} (h : opT r) : r.length ≤ 2 ∧ ∀ v, v ∈ r → 10 ≤ v ∧ v ≤ 12 ∧ 1 ≤ bnd v := by
  have h11 : 1 ≤ bnd 11 := by decide
  have h12 : 1 ≤ bnd 12 := by decide
  rcases h with rfl | rfl | rfl | rfl
  · exact ⟨by decide, fun v hv => by cases hv⟩
  · refine ⟨by decide, fun v hv => ?_⟩
    simp only [List.mem_cons, List.not_mem_nil, or_false] at hv
    subst hv; exact ⟨by decide, by decide, h11⟩
  · refine ⟨by decide, fun v hv => ?_⟩
    simp only [List.mem_cons, List.not_mem_nil, or_false] at hv
    subst hv; exact ⟨by decide, by decide, h12⟩
  · refine ⟨by decide, fun v hv => ?_⟩
    simp only [List.mem_cons, List.not_mem_nil, or_false] at hv
    rcases hv with rfl | rfl
    · exact ⟨by decide, by decide, h11⟩
    · exact ⟨by decide, by decide, h12⟩
theorem AO_c {r : List Nat} (hA : kA t) (hm : mS t u0 u k o S n (r ++ 13 :: l)) (hk : k ≤ kT t) (h5 : kK t k = 5) (hr : opT r) (hp : pK l) (hl : l.length ≤ 90) (hS : S ≤ 100) (ho10 : opn l ≤ 10) (h : ∀ u', mS t u0 u' (k + 1) o (S + r.length + nts l) n (dpN l) → loS u u' S → (∀ i, i < r.length → u'.2.2.1 16 (200 + (S + i)) = nI (r.getD i 0)) → (∀ i, i < nts l → u'.2.2.1 16 (200 + (S + r.length + i)) = nI 10) → AO t K u' (k + 1)) : AO t K u k := by
  intro n' n1 hn hn1
  obtain ⟨n2, rfl⟩ : ∃ n2, n1 = n2 + 1 := ⟨n1 - 1, by omega⟩
  show M_cond_14 K (M_cond_5_lp K n') (M_cond_14_lp K (M_cond_5_lp K n') n2) u
  obtain ⟨hr2, hrb⟩ := opT_b hr
  have hkT := kA_l hA hk (by omega)
  have hno := nts_o l
  have hlen : (r ++ 13 :: l).length ≤ 99 := by rw [List.length_append, List.length_cons]; omega
  have hpk : pK (r ++ 13 :: l) := fun v hv => by
    rcases List.mem_append.mp hv with g | g
    · have := hrb v g; omega
    · rcases List.mem_cons.mp g with g | g
      · omega
      · exact hp v g
  unfold M_cond_14
  refine mx_isS hA hk hm.2.1 (w := 5) (by decide) (by decide) rfl (fun _ => ⟨fun g => absurd g (by decide), fun _ => ?_⟩) (fun e => absurd h5 e)
  refine mx_isOpen hm.2.2.2.2.2.1 hlen hpk hm.2.2.2.2.2.2 (fun _ => ⟨fun g => absurd g (by decide), fun _ => ?_⟩) (fun e => absurd (List.mem_append_right _ List.mem_cons_self) e)
  refine wd_s (least := 1) hm (Or.inr ⟨13, l, rfl, Or.inl rfl⟩) (by omega) (by omega) hlen hrb (fun u5 m5 lo5 hi5 => ?_)
  intro u7 e7
  obtain ⟨a1, a2, a3, a4, a5, a6, a7⟩ := m5
  rw [a6, List.length_cons, show nI (l.length + 1) - (1 : Int32) = nI l.length from pk_sub (a := l.length + 1) (b := 1) (by omega)] at e7
  have f7 : mf [22] [] [] u5 u7 := by rw [e7]; exact mf_i (by decide) (mf_r u5)
  have m7 : mS t u0 u7 k o (S + r.length) n l := ⟨fz_t a1 f7 (lz_f f7 (by decide)) (by decide) (by decide) (by decide), cM_f a2 f7 (by rw [e7]; rfl) (by decide) (by decide), (f7.1 23 (by decide)).trans a3, (f7.1 21 (by decide)).trans a4, by rw [f7.2.1 11 (by decide)]; exact a5, by rw [e7]; exact thi_s _ _ _, by rw [f7.2.1 20 (by decide)]; exact a7.2⟩
  refine wd_3 m7 hp (by omega) (by omega) (fun u8 m8 lo8 hi8 => ?_)
  refine mx_nxt hA m8.2.1 hkT (fun u10 f10 c10 => ?_)
  have lo7 : loS u5 u7 (S + r.length) := loS_f f7 (by decide)
  have lo10 : loS u8 u10 200 := loS_f f10 (by decide)
  refine h u10 (mS_n m8 (mf_w f10 (by decide) (by decide) (by decide)) c10) (loS_t lo5 (loS_t lo7 (loS_t lo8 lo10 (by omega)) (Nat.le_refl _)) (by omega)) (fun i hi => ?_) (fun i hi => ?_) n' n2 (by omega) (by omega)
  · rw [(lo10 (S + i) (by omega)).1, (lo8 (S + i) (by omega)).1, (lo7 (S + i) (by omega)).1]; exact hi5 i hi
  · rw [(lo10 (S + r.length + i) (by omega)).1]; exact hi8 i hi
theorem AO_57 (hA : kA t) (hm : mS t u0 u k o S n l) (hk : k ≤ kT t) (hl : l.length ≤ 99) (hp : pK l) (hno : kK t k = 5 → 13 ∉ l) (h : ∀ n', kT t - k ≤ n' → M_cond_57 K (M_cond_5_lp K n') u) : AO t K u k := by
  intro n' n1 hn hn1
  obtain ⟨n2, rfl⟩ : ∃ n2, n1 = n2 + 1 := ⟨n1 - 1, by omega⟩
  show M_cond_14 K (M_cond_5_lp K n') (M_cond_14_lp K (M_cond_5_lp K n') n2) u
  unfold M_cond_14
  refine mx_isS hA hk hm.2.1 (w := 5) (by decide) (by decide) rfl (fun e5 => ⟨fun g => absurd g (by decide), fun _ => ?_⟩) (fun _ => ⟨fun _ => h n' hn, fun g => absurd rfl g⟩)
  exact mx_isOpen hm.2.2.2.2.2.1 hl hp hm.2.2.2.2.2.2 (fun e => absurd e (hno e5)) (fun _ => ⟨fun _ => h n' hn, fun g => absurd rfl g⟩)
theorem mx_131 {n' z : Nat} (hA : kA t) (hm : mS t u0 u k o S n l) (hk : k < kT t) (hl : l.length ≤ 98) (hn : kT t - k ≤ n') (h : ∀ u', mS t u0 u' (k + 1) o S n (z :: l) → loS u u' S → BO t K u' (k + 1)) : M_cond_131 K (M_cond_5_lp K n') (nI z) (u.1 22) u := by
  obtain ⟨m1, m2, m3, m4, m5, m6, m7⟩ := hm
  unfold M_cond_131
  rw [m6]
  refine ⟨vp_in_nI (by omega) (by omega), fun u1 e1 u2 e2 => ?_⟩
  rw [ni_cl (by omega)] at e1
  have a22 : u1.1 22 = nI l.length := by rw [e1]; exact m6
  rw [a22, show nI l.length + (1 : Int32) = nI (l.length + 1) from nI_1 _] at e2
  have f2 : mf [22] [20] [] u u2 := by rw [e2, e1]; exact mf_i (by decide) (mf_a (by decide) (mf_r u))
  have c2 : cM t u2 k := cM_f m2 f2 (by rw [e2, e1]; rfl) (by decide) (by decide)
  have mm2 : mS t u0 u2 k o S n (z :: l) := by
    refine ⟨fz_t m1 f2 (lz_f f2 (by decide)) (by decide) (by decide) (by decide), c2, (f2.1 23 (by decide)).trans m3, (f2.1 21 (by decide)).trans m4, by rw [f2.2.1 11 (by decide)]; exact m5, by rw [e2, thi_s, List.length_cons], ?_⟩
    rw [e2]
    show plP (u1.2.2.1 20) (z :: l)
    rw [e1, tha_s]
    exact plP_p m7
  refine mx_nxt hA c2 hk (fun u3 f3 c3 => ?_)
  obtain ⟨n2, rfl⟩ : ∃ n2, n' = n2 + 1 := ⟨n' - 1, by omega⟩
  show M_cond_5 K (M_cond_5_lp K n2) u3
  unfold M_cond_5 M_one
  refine ⟨kT t - (k + 1) + 1, h u3 (mS_n mm2 (mf_w f3 (by decide) (by decide) (by decide)) c3) (loS_t (loS_f (j := S) f2 (by decide)) (loS_f (j := S) f3 (by decide)) (Nat.le_refl _)) n2 _ (by omega) (Nat.le_refl _)⟩
/-- AND: what binds as much is written down first -/
theorem AO_a {r : List Nat} (hA : kA t) (hm : mS t u0 u k o S n (r ++ l)) (hk : k ≤ kT t) (h20 : kK t k = 20) (hr : r = [] ∨ r = [11]) (hst : l = [] ∨ ∃ v l', l = v :: l' ∧ (v = 13 ∨ v = 12)) (hp : pK l) (hl : l.length ≤ 90) (hS : S ≤ 100) (h : ∀ u', mS t u0 u' (k + 1) o (S + r.length) n (11 :: l) → loS u u' S → (∀ i, i < r.length → u'.2.2.1 16 (200 + (S + i)) = nI (r.getD i 0)) → BO t K u' (k + 1)) : AO t K u k := by
  have hr' : r.length ≤ 1 ∧ ∀ v, v ∈ r → 10 ≤ v ∧ v ≤ 12 ∧ 2 ≤ bnd v := by
    have h11 : 2 ≤ bnd 11 := by decide
    rcases hr with rfl | rfl
    · exact ⟨by decide, fun v hv => by cases hv⟩
    · refine ⟨by decide, fun v hv => ?_⟩
      simp only [List.mem_cons, List.not_mem_nil, or_false] at hv
      subst hv; exact ⟨by decide, by decide, h11⟩
  have hlen : (r ++ l).length ≤ 99 := by rw [List.length_append]; omega
  have hpk : pK (r ++ l) := fun v hv => by
    rcases List.mem_append.mp hv with g | g
    · have := hr'.2 v g; omega
    · exact hp v g
  refine AO_57 hA hm hk hlen hpk (fun e => by omega) (fun n' hn => ?_)
  unfold M_cond_57 M_cond_99 M_cond_109
  refine mx_isW hA hk hm.2.1 (w := 20) (by decide) (by decide) (by decide) (fun _ => ⟨fun _ => ⟨fun g => absurd g (by decide), fun _ => ?_⟩, fun g => absurd g (by decide)⟩) (fun e => absurd h20 e)
  refine wd_s (least := 2) hm ?_ (by omega) (by omega) hlen hr'.2 (fun u1 m1 lo1 hi1 => ⟨fun g => absurd g (by decide), fun _ => ?_⟩)
  · rcases hst with e | ⟨v, l', e, hv⟩
    · exact Or.inl e
    · refine Or.inr ⟨v, l', e, ?_⟩
      rcases hv with rfl | rfl
      · exact Or.inl rfl
      · exact Or.inr ⟨by decide, by decide, by decide⟩
  · refine mx_131 (z := 11) hA m1 (kA_l hA hk (by omega)) (by omega) hn (fun u' m' lo' => h u' m' (loS_t lo1 lo' (by omega)) (fun i hi => ?_))
    rw [(lo' (S + i) (by omega)).1]; exact hi1 i hi
theorem AO_o {r : List Nat} (hA : kA t) (hm : mS t u0 u k o S n (r ++ l)) (hk : k ≤ kT t) (h19 : kK t k = 19) (hr : opT r) (hst : l = [] ∨ ∃ l', l = 13 :: l') (hp : pK l) (hl : l.length ≤ 90) (hS : S ≤ 100) (h : ∀ u', mS t u0 u' (k + 1) o (S + r.length) n (12 :: l) → loS u u' S → (∀ i, i < r.length → u'.2.2.1 16 (200 + (S + i)) = nI (r.getD i 0)) → BO t K u' (k + 1)) : AO t K u k := by
  obtain ⟨hr2, hrb⟩ := opT_b hr
  have hlen : (r ++ l).length ≤ 99 := by rw [List.length_append]; omega
  have hpk : pK (r ++ l) := fun v hv => by
    rcases List.mem_append.mp hv with g | g
    · have := hrb v g; omega
    · exact hp v g
  refine AO_57 hA hm hk hlen hpk (fun e => by omega) (fun n' hn => ?_)
  unfold M_cond_57 M_cond_99 M_cond_109
  refine mx_isW hA hk hm.2.1 (w := 20) (by decide) (by decide) (by decide) (fun e => by omega) (fun _ => ⟨fun g => absurd rfl g, fun _ => ?_⟩)
  refine mx_isW hA hk hm.2.1 (w := 19) (by decide) (by decide) (by decide) (fun _ => ⟨fun _ => ⟨fun _ => ?_, fun g => absurd rfl g⟩, fun g => absurd g (by decide)⟩) (fun e => absurd h19 e)
  refine wd_s (least := 1) hm ?_ (by omega) (by omega) hlen hrb (fun u1 m1 lo1 hi1 => ⟨fun _ => ?_, fun g => absurd rfl g⟩)
  · rcases hst with e | ⟨l', e⟩
    · exact Or.inl e
    · exact Or.inr ⟨13, l', e, Or.inl rfl⟩
  · refine mx_131 (z := 12) hA m1 (kA_l hA hk (by omega)) (by omega) hn (fun u' m' lo' => h u' m' (loS_t lo1 lo' (by omega)) (fun i hi => ?_))
    rw [(lo' (S + i) (by omega)).1]; exact hi1 i hi
theorem AO_b (hA : kA t) (hm : mS t u0 u k o S n l) (hk : k ≤ kT t) (h19 : kK t k ≠ 19) (h20 : kK t k ≠ 20) (h5 : kK t k ≠ 5) (h13 : 13 ∈ l) (hp : pK l) (hl : l.length ≤ 99) (h : ∀ y, fB u0 y 1 (kP t k) → K 0 y) : AO t K u k := by
  refine AO_57 hA hm hk hl hp (fun e => absurd e h5) (fun n' hn => ?_)
  unfold M_cond_57
  refine mx_isW hA hk hm.2.1 (w := 20) (by decide) (by decide) (by decide) (fun e => absurd e h20) (fun _ => ⟨fun g => absurd rfl g, fun _ => ?_⟩)
  refine mx_isW hA hk hm.2.1 (w := 19) (by decide) (by decide) (by decide) (fun e => absurd e h19) (fun _ => ⟨fun g => absurd rfl g, fun _ => ?_⟩)
  refine mx_isOpen hm.2.2.2.2.2.1 hl hp hm.2.2.2.2.2.2 (fun _ => ⟨fun g => absurd g (by decide), fun _ => ?_⟩) (fun e => absurd h13 e)
  exact mx_bad hm.2.1.2.1 (fun y yf y28 y29 => ⟨n010, h y (fB_m hm ⟨yf, y28, y29⟩)⟩)
theorem AO_e {r : List Nat} (hA : kA t) (hm : mS t u0 u k o S n r) (hk : k ≤ kT t) (h19 : kK t k ≠ 19) (h20 : kK t k ≠ 20) (hr : opT r) (hS : S ≤ 100) (h : ∀ u', mS t u0 u' k o (S + r.length) n [] → loS u u' S → (∀ i, i < r.length → u'.2.2.1 16 (200 + (S + i)) = nI (r.getD i 0)) → K 1 u') : AO t K u k := by
  obtain ⟨hr2, hrb⟩ := opT_b hr
  have hno : 13 ∉ r := fun g => by have := hrb 13 g; omega
  have hpk : pK r := fun v hv => by have := hrb v hv; omega
  refine AO_57 hA hm hk (by omega) hpk (fun _ => hno) (fun n' hn => ?_)
  unfold M_cond_57
  refine mx_isW hA hk hm.2.1 (w := 20) (by decide) (by decide) (by decide) (fun e => absurd e h20) (fun _ => ⟨fun g => absurd rfl g, fun _ => ?_⟩)
  refine mx_isW hA hk hm.2.1 (w := 19) (by decide) (by decide) (by decide) (fun e => absurd e h19) (fun _ => ⟨fun g => absurd rfl g, fun _ => ?_⟩)
  refine mx_isOpen hm.2.2.2.2.2.1 (by omega) hpk hm.2.2.2.2.2.2 (fun e => absurd e hno) (fun _ => ⟨fun _ => ?_, fun g => absurd rfl g⟩)
  have hm' : mS t u0 u k o S n (r ++ []) := by rw [List.append_nil]; exact hm
  exact wd_s (least := 1) hm' (Or.inl rfl) (by omega) (by omega) (by rw [List.append_nil]; omega) hrb (fun y my loy hiy => ⟨n011, h y my loy hiy⟩)
end
theorem mOk_u {t : TK} {k a n k2 v nv k2' v' nv' : Nat} (h : mOk t k a n k2 v nv) (h' : mOk t k a n k2' v' nv') (hn : n ≤ 48) : k2' = k2 ∧ nv' = nv ∧ v' = v := by
  obtain ⟨a1, a2, a3, a4, a5, a6, a7⟩ := h
  obtain ⟨b1, b2, b3, b4, b5, b6, b7⟩ := h'
  by_cases e : a = 4
  · obtain ⟨c1, c2, c3, c4⟩ := a1 e
    obtain ⟨d1, d2, d3, d4⟩ := b1 e
    have hv := nI_inj (by omega) (by omega) (d2.symm.trans c2)
    subst c4; subst d4
    exact ⟨rfl, nI_inj (by omega) (by omega) (b5.symm.trans a5), hv⟩
  · obtain ⟨c1, c2⟩ := a2 e
    obtain ⟨d1, d2⟩ := b2 e
    subst c1; subst d1
    exact ⟨rfl, nI_inj (by omega) (by omega) (b5.symm.trans a5), by omega⟩
theorem mBd_o {t : TK} {k a n k2 v nv kd kp : Nat} (h : mOk t k a n k2 v nv) (h' : mBd t k a n kd kp) (hn : n ≤ 48) : False := by
  obtain ⟨a1, a2, a3, a4, a5, a6, a7⟩ := h
  rcases h' with ⟨e, e2, -⟩ | ⟨e, e2, ⟨v', e3, e4, e5⟩, -⟩ | ⟨k2', hor, hb⟩
  · exact e2 (a1 e).1
  · obtain ⟨c1, c2, c3, c4⟩ := a1 e
    have := nI_inj (by omega) (by omega) (e3.symm.trans c2)
    omega
  · have ek : k2' = k2 := by
      rcases hor with ⟨e, -, -, e2⟩ | ⟨e, e2⟩
      · rw [e2, (a1 e).2.2.2]
      · rw [e2, (a2 e).1]
    subst ek
    rcases hb with ⟨b1, -⟩ | ⟨-, b2, -⟩
    · exact b1 a3
    · exact b2 a4
theorem mBd_u {t : TK} {k a n kd kp kd' kp' : Nat} (h : mBd t k a n kd kp) (h' : mBd t k a n kd' kp') (hn : n ≤ 48) : kd' = kd ∧ kp' = kp := by
  have key : ∀ v v' : Nat, kV t k = nI v → v ≤ 9999 → kV t k = nI v' → v' ≤ 9999 → v = v' := fun v v' e1 h1 e2 h2 => nI_inj (by omega) (by omega) (e1.symm.trans e2)
  rcases h with ⟨a1, a2, a3, a4⟩ | ⟨a1, a2, ⟨v, a5, a6, a7⟩, a3, a4⟩ | ⟨k2, hor, hb⟩
  · rcases h' with ⟨b1, b2, b3, b4⟩ | ⟨b1, b2, -⟩ | ⟨k2', hor', hb'⟩
    · omega
    · exact absurd b2 a2
    · rcases hor' with ⟨-, e, -⟩ | ⟨e, -⟩
      · exact absurd e a2
      · exact absurd a1 e
  · rcases h' with ⟨b1, b2, b3, b4⟩ | ⟨b1, b2, -, b3, b4⟩ | ⟨k2', hor', hb'⟩
    · exact absurd a2 b2
    · omega
    · rcases hor' with ⟨-, -, ⟨v', c1, c2, c3⟩, -⟩ | ⟨e, -⟩
      · have := key v v' a5 a6 c1 c2; omega
      · exact absurd a1 e
  · rcases h' with ⟨b1, b2, b3, b4⟩ | ⟨b1, b2, ⟨v, b5, b6, b7⟩, b3, b4⟩ | ⟨k2', hor', hb'⟩
    · rcases hor with ⟨-, e, -⟩ | ⟨e, -⟩
      · exact absurd e b2
      · exact absurd b1 e
    · rcases hor with ⟨-, -, ⟨v', c1, c2, c3⟩, -⟩ | ⟨e, -⟩
      · have := key v v' b5 b6 c1 c2; omega
      · exact absurd b1 e
    · have ek : k2' = k2 := by
        rcases hor with ⟨e, -, -, e2⟩ | ⟨e, e2⟩
        · rcases hor' with ⟨-, -, -, e3⟩ | ⟨e3, -⟩
          · omega
          · exact absurd e e3
        · rcases hor' with ⟨e3, -, -, -⟩ | ⟨-, e3⟩
          · exact absurd e3 e
          · omega
      subst ek
      rcases hb with ⟨b1, b2, b3⟩ | ⟨b1, b2, b3, b4⟩
      · rcases hb' with ⟨c1, c2, c3⟩ | ⟨c1, -⟩
        · omega
        · exact absurd c1 b1
      · rcases hb' with ⟨c1, -⟩ | ⟨c1, c2, c3, c4⟩
        · exact absurd b1 c1
        · omega

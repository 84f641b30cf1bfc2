/-! text: the reference's pile -/
def plP (a : Nat → Int32) : List Nat → Prop
  | [] => True
  | v :: l => a l.length = nI v ∧ plP a l
theorem plP_u {a : Nat → Int32} {k : Nat} {v : Int32} : ∀ l : List Nat, l.length ≤ k → plP a l → plP (upd a k v) l := by
  intro l
  induction l with
  | nil => intro _ _; trivial
  | cons b l ih =>
    intro h1 h2
    rw [List.length_cons] at h1
    rw [plP] at h2 ⊢
    exact ⟨by rw [pk_un (by omega)]; exact h2.1, ih (by omega) h2.2⟩
theorem plP_p {a : Nat → Int32} {l : List Nat} {v : Nat} (h : plP a l) : plP (upd a l.length (nI v)) (v :: l) := by
  rw [plP]
  exact ⟨by rw [pk_us], plP_u l (Nat.le_refl _) h⟩
theorem plP_a {a : Nat → Int32} {v : Nat} {s : List Nat} : ∀ p : List Nat, plP a (p ++ v :: s) → a s.length = nI v := by
  intro p
  induction p with
  | nil => intro h; exact h.1
  | cons b p ih => intro h; exact ih h.2
theorem plP_d {a : Nat → Int32} {s : List Nat} : ∀ p : List Nat, plP a (p ++ s) → plP a s := by
  intro p
  induction p with
  | nil => intro h; exact h
  | cons b p ih => intro h; exact ih h.2
theorem ls_c {α : Type} : ∀ l : List α, l = [] ∨ ∃ p v, l = p ++ [v] := by
  intro l
  induction l with
  | nil => exact Or.inl rfl
  | cons a l ih =>
    rcases ih with rfl | ⟨p, v, rfl⟩
    · exact Or.inr ⟨[], a, rfl⟩
    · exact Or.inr ⟨a :: p, v, rfl⟩
def opn : List Nat → Nat
  | [] => 0
  | v :: l => (if v = 10 ∨ v = 13 then 1 else 0) + opn l
def nts : List Nat → Nat
  | [] => 0
  | v :: l => if v = 10 then nts l + 1 else 0
def dpN : List Nat → List Nat
  | [] => []
  | v :: l => if v = 10 then dpN l else v :: l
def pK (l : List Nat) : Prop := ∀ v, v ∈ l → 10 ≤ v ∧ v ≤ 13
theorem nts_o : ∀ l : List Nat, nts l ≤ opn l := by
  intro l
  induction l with
  | nil => exact Nat.le_refl _
  | cons v l ih =>
    rw [nts, opn]
    by_cases e : v = 10
    · rw [if_pos e, if_pos (Or.inl e)]; omega
    · rw [if_neg e]; omega
theorem dpN_s : ∀ l : List Nat, l = List.replicate (nts l) 10 ++ dpN l := by
  intro l
  induction l with
  | nil => rfl
  | cons v l ih =>
    rw [nts, dpN]
    by_cases e : v = 10
    · rw [if_pos e, if_pos e, List.replicate_succ, List.cons_append, ← ih, e]
    · rw [if_neg e, if_neg e]; rfl
theorem dpN_h : ∀ l : List Nat, dpN l = [] ∨ ∃ v l', dpN l = v :: l' ∧ v ≠ 10 := by
  intro l
  induction l with
  | nil => exact Or.inl rfl
  | cons v l ih =>
    rw [dpN]
    by_cases e : v = 10
    · rw [if_pos e]; exact ih
    · rw [if_neg e]; exact Or.inr ⟨v, l, rfl, e⟩
theorem dpN_m {v : Nat} : ∀ l : List Nat, v ∈ dpN l → v ∈ l := by
  intro l
  induction l with
  | nil => intro h; exact h
  | cons a l ih =>
    intro h
    rw [dpN] at h
    by_cases e : a = 10
    · rw [if_pos e] at h; exact List.mem_cons_of_mem _ (ih h)
    · rw [if_neg e] at h; exact h
theorem dpN_l (l : List Nat) : (dpN l).length ≤ l.length := by
  have := congrArg List.length (dpN_s l)
  rw [List.length_append] at this
  omega
theorem nI13 {v : Nat} (h : v ≤ 13) : (nI v = (13 : Int32)) = (v = 13) := ni_eq (b := 13) (by omega) (by omega)
theorem nI10 {v : Nat} (h : v ≤ 13) : (nI v = (10 : Int32)) = (v = 10) := ni_eq (b := 10) (by omega) (by omega)
theorem nI11 {v : Nat} (h : v ≤ 13) : (nI v = (11 : Int32)) = (v = 11) := ni_eq (b := 11) (by omega) (by omega)
theorem mx_open {u : th_St} {l : List Nat} {K : Int32 → th_St → Prop} (h22 : u.1 22 = nI l.length) (hl : l.length ≤ 99) (hk : pK l) (hp : plP (u.2.2.1 20) l) (h : K (nI (opn l)) u) : M_open u K := by
  unfold M_open
  refine lqe3 (F := M_open_4_lp K) (G := M_open_4 K) (fun _ _ _ _ => rfl) (fun d a1 a2 v => v = u ∧ ∃ p s, l = p ++ s ∧ p.length = d ∧ a2 = nI s.length ∧ a1 = nI (opn s)) ?_ l.length _ _ _ ⟨rfl, l, [], by simp, rfl, rfl, rfl⟩
  rintro kk d a1 a2 v ⟨rfl, p, s, hps, hd, rfl, rfl⟩ ih
  have hlen := congrArg List.length hps
  rw [List.length_append] at hlen
  unfold M_open_4
  rw [h22, ni_le (by omega) (by omega)]
  rcases ls_c p with rfl | ⟨p', w, rfl⟩
  · refine ⟨fun _ => ?_, fun g => absurd (by rw [hlen]; simp) g⟩
    rw [hps] at h
    exact h
  · rw [List.length_append, List.length_singleton] at hlen hd
    refine ⟨fun g => by omega, fun _ => ⟨vp_in_nI (by omega) (by omega), fun y1 e1 => ?_⟩⟩
    have hw : v.2.2.1 20 s.length = nI w := by
      rw [hps, List.append_assoc] at hp
      exact plP_a p' hp
    have hwk : 10 ≤ w ∧ w ≤ 13 := hk w (by rw [hps]; simp)
    rw [ni_cl (by omega), hw] at e1
    subst e1
    have go : ∀ c : Nat, c = (if w = 10 ∨ w = 13 then 1 else 0) → M_open_40 K kk (nI s.length) (nI c) (nI (opn s)) v := by
      intro c hc
      unfold M_open_40
      intro y1 e1 x2 e2
      rw [nI_add] at e1
      subst e1; subst e2
      refine ih (d - 1) _ _ _ (by omega) ⟨rfl, p', w :: s, by rw [hps, List.append_assoc]; rfl, by omega, by rw [List.length_cons]; exact nI_1 _, ?_⟩
      rw [opn, ← hc, Nat.add_comm]
    unfold M_open_35
    rw [nI10 hwk.2]
    refine br1 (fun q => go 1 (by rw [if_pos (Or.inl q)])) (fun q => ⟨vp_in_nI (by omega) (by omega), fun y2 e2 => ?_⟩)
    rw [ni_cl (by omega), hw] at e2
    subst e2
    rw [nI13 hwk.2]
    exact br2 (fun q2 => go 0 (by rw [if_neg (by omega)])) (fun q2 => go 1 (by rw [if_pos (Or.inr q2)]))
theorem mx_isOpen {u : th_St} {l : List Nat} {K : Int32 → th_St → Prop} (h22 : u.1 22 = nI l.length) (hl : l.length ≤ 99) (hk : pK l) (hp : plP (u.2.2.1 20) l) (h1 : 13 ∈ l → K 1 u) (h0 : 13 ∉ l → K 0 u) : M_isOpen u K := by
  unfold M_isOpen
  refine lqe2 (F := M_isOpen_2_lp K) (G := M_isOpen_2 K) (fun _ _ _ => rfl) (fun d a1 v => v = u ∧ ∃ p s, l = p ++ s ∧ p.length = d ∧ a1 = nI s.length ∧ 13 ∉ s) ?_ l.length _ _ ⟨rfl, l, [], by simp, rfl, rfl, by simp⟩
  rintro kk d a1 v ⟨rfl, p, s, hps, hd, rfl, hns⟩ ih
  have hlen := congrArg List.length hps
  rw [List.length_append] at hlen
  unfold M_isOpen_2
  rw [h22, ni_le (by omega) (by omega)]
  rcases ls_c p with rfl | ⟨p', w, rfl⟩
  · refine ⟨fun _ => ⟨n010, h0 (by rw [hps]; exact hns)⟩, fun g => absurd (by rw [hlen]; simp) g⟩
  · rw [List.length_append, List.length_singleton] at hlen hd
    refine ⟨fun g => by omega, fun _ => ⟨vp_in_nI (by omega) (by omega), fun y1 e1 => ?_⟩⟩
    have hw : v.2.2.1 20 s.length = nI w := by
      rw [hps, List.append_assoc] at hp
      exact plP_a p' hp
    have hwk : 10 ≤ w ∧ w ≤ 13 := hk w (by rw [hps]; simp)
    rw [ni_cl (by omega), hw] at e1
    subst e1
    rw [nI13 hwk.2]
    refine br2 (fun q x1 e1 => ?_) (fun q => ⟨n011, h1 (by rw [hps, q]; simp)⟩)
    subst e1
    refine ih (d - 1) _ _ (by omega) ⟨rfl, p', w :: s, by rw [hps, List.append_assoc]; rfl, by omega, by rw [List.length_cons]; exact nI_1 _, ?_⟩
    intro g
    rcases List.mem_cons.mp g with g | g
    · exact q g.symm
    · exact hns g
def bnd (v : Nat) : Nat := if v = 10 then 3 else if v = 11 then 2 else 1
theorem mx_binds {u : th_St} {v : Nat} {K : Int32 → th_St → Prop} (hv : v ≤ 13) (h : K (nI (bnd v)) u) : M_binds (nI v) u K := by
  unfold M_binds M_binds_21
  rw [nI10 hv, nI11 hv]
  unfold bnd at h
  refine br2 (fun q => br2 (fun q2 => ?_) (fun q2 => ?_)) (fun q => ?_)
  · rw [if_neg q, if_neg q2] at h; exact h
  · rw [if_neg q, if_pos q2] at h; exact h
  · rw [if_pos q] at h; exact h
theorem mx_write {u : th_St} {S : Nat} {a1 a2 a3 : Int32} {K : th_St → Prop} (h21 : u.1 21 = nI S) (hS : S ≤ 190) (h : ∀ y, mf [21] [16, 17, 18] [] u y → y.2.1 = u.2.1 → y.1 21 = nI (S + 1) → y.2.2.1 16 = upd (u.2.2.1 16) (200 + S) a1 → y.2.2.1 17 = upd (u.2.2.1 17) (200 + S) a2 → y.2.2.1 18 = upd (u.2.2.1 18) (200 + S) a3 → K y) : M_write a1 a2 a3 u K := by
  unfold M_write
  rw [h21, show (200 : Int32) = nI 200 from rfl, nI_add]
  refine ⟨vp_in_nI (by omega) (by omega), fun u1 e1 => ?_⟩
  rw [ni_cl (by omega)] at e1
  have b1 : u1.1 21 = nI S := by rw [e1]; exact h21
  rw [b1, nI_add]
  refine ⟨vp_in_nI (by omega) (by omega), fun u2 e2 => ?_⟩
  rw [ni_cl (by omega)] at e2
  have b2 : u2.1 21 = nI S := by rw [e2]; exact b1
  rw [b2, nI_add]
  refine ⟨vp_in_nI (by omega) (by omega), fun u3 e3 => ?_⟩
  rw [ni_cl (by omega)] at e3
  have b3 : u3.1 21 = nI S := by rw [e3]; exact b2
  rw [b3, show nI S + (1 : Int32) = nI (S + 1) from nI_1 S]
  intro u4 e4
  refine h u4 (by rw [e4, e3, e2, e1]; exact mf_i (by decide) (mf_a (by decide) (mf_a (by decide) (mf_a (by decide) (mf_r u))))) (by rw [e4, e3, e2, e1]; rfl) (by rw [e4]; exact thi_s _ _ _) ?_ ?_ ?_
  · rw [e4]
    show u3.2.2.1 16 = _
    rw [e3, tha_n (by decide), e2, tha_n (by decide), e1, tha_s]
  · rw [e4]
    show u3.2.2.1 17 = _
    rw [e3, tha_n (by decide), e2, tha_s, e1, tha_n (by decide)]
  · rw [e4]
    show u3.2.2.1 18 = _
    rw [e3, tha_s, e2, tha_n (by decide), e1, tha_n (by decide)]
theorem mx_wd {least : Nat} {K : th_St → Prop} {l : List Nat} (hst : l = [] ∨ ∃ v l', l = v :: l' ∧ (v = 13 ∨ (10 ≤ v ∧ v ≤ 12 ∧ bnd v < least))) (hle : 1 ≤ least ∧ least ≤ 3) : ∀ (r : List Nat) (S : Nat) (u : th_St), u.1 21 = nI S → S + r.length ≤ 190 → u.1 22 = nI (r ++ l).length → plP (u.2.2.1 20) (r ++ l) → (r ++ l).length ≤ 99 → (∀ v, v ∈ r → 10 ≤ v ∧ v ≤ 12 ∧ least ≤ bnd v) → (∀ y, mf [21, 22] [16, 17, 18] [] u y → y.2.1 = u.2.1 → y.1 21 = nI (S + r.length) → y.1 22 = nI l.length → (∀ s, s < 200 + S → y.2.2.1 16 s = u.2.2.1 16 s ∧ y.2.2.1 17 s = u.2.2.1 17 s ∧ y.2.2.1 18 s = u.2.2.1 18 s) → (∀ i, i < r.length → y.2.2.1 16 (200 + S + i) = nI (r.getD i 0)) → K y) → M_writeDown (nI least) u K := by
  intro r
  induction r with
  | nil =>
    intro S u h21 hS h22 hp hlen hr hK
    unfold M_writeDown
    refine ⟨1, ?_⟩
    show M_writeDown_0 K (M_writeDown_0_lp K 0) (nI least) u
    have hfin : K u := hK u (mf_r u) rfl h21 h22 (fun s _ => ⟨rfl, rfl, rfl⟩) (fun i hi => by cases hi)
    rw [List.nil_append] at h22 hp hlen
    unfold M_writeDown_0 M_writeDown_69
    have c0 : (nI l.length ≤ (0 : Int32)) = (l.length ≤ 0) := ni_le (b := 0) (by omega) (by omega)
    rw [h22, c0]
    refine br1 (fun _ => hfin) (fun q => ?_)
    rcases hst with e | ⟨v, l', e, hv⟩
    · rw [e] at q; exact absurd (Nat.le_refl 0) q
    · subst e
      rw [List.length_cons] at hlen ⊢
      have hv13 : 10 ≤ v ∧ v ≤ 13 := by omega
      rw [show nI (l'.length + 1) - (1 : Int32) = nI l'.length from pk_sub (a := l'.length + 1) (b := 1) (by omega)]
      refine ⟨vp_in_nI (by omega) (by omega), fun y1 e1 => ?_⟩
      rw [ni_cl (by omega), hp.1] at e1
      subst e1
      rw [nI13 hv13.2]
      refine br1 (fun _ => hfin) (fun q2 => ⟨vp_in_nI (by omega) (by omega), fun y2 e2 => ?_⟩)
      rw [ni_cl (by omega), hp.1] at e2
      subst e2
      refine mx_binds hv13.2 ?_
      have hb : bnd v ≤ 3 := by unfold bnd; split <;> (try split) <;> omega
      rw [ni_lt (by omega) (by omega)]
      exact ⟨fun _ => hfin, fun g => by omega⟩
  | cons w r ih =>
    intro S u h21 hS h22 hp hlen hr hK
    have hp1 : u.2.2.1 20 (r ++ l).length = nI w := hp.1
    have hp2 : plP (u.2.2.1 20) (r ++ l) := hp.2
    rw [List.cons_append, List.length_cons] at h22 hlen
    rw [List.length_cons] at hS
    have hw := hr w List.mem_cons_self
    have step : ∀ n, (∀ u', mf [21, 22] [16, 17, 18] [] u u' → u'.2.1 = u.2.1 → u'.1 21 = nI (S + 1) → u'.1 22 = nI (r ++ l).length → u'.2.2.1 16 = upd (u.2.2.1 16) (200 + S) (nI w) → u'.2.2.1 17 = upd (u.2.2.1 17) (200 + S) 0 → u'.2.2.1 18 = upd (u.2.2.1 18) (200 + S) 0 → M_writeDown_0_lp K n (nI least) u') → M_writeDown_0_lp K (n + 1) (nI least) u := by
      intro n hn
      show M_writeDown_0 K (M_writeDown_0_lp K n) (nI least) u
      unfold M_writeDown_0
      have c0 : (nI ((r ++ l).length + 1) ≤ (0 : Int32)) = ((r ++ l).length + 1 ≤ 0) := ni_le (b := 0) (by omega) (by omega)
      rw [h22, c0]
      refine ⟨fun g => by omega, fun _ => ?_⟩
      rw [show nI ((r ++ l).length + 1) - (1 : Int32) = nI (r ++ l).length from pk_sub (a := (r ++ l).length + 1) (b := 1) (by omega)]
      refine ⟨vp_in_nI (by omega) (by omega), fun y1 e1 => ?_⟩
      rw [ni_cl (by omega), hp1] at e1
      subst e1
      rw [nI13 (by omega)]
      refine ⟨fun g => by omega, fun _ => ⟨vp_in_nI (by omega) (by omega), fun y2 e2 => ?_⟩⟩
      rw [ni_cl (by omega), hp1] at e2
      subst e2
      refine mx_binds (by omega) ?_
      have hb : bnd w ≤ 3 := by unfold bnd; split <;> (try split) <;> omega
      rw [ni_lt (by omega) (by omega)]
      refine ⟨fun g => by omega, fun _ u5 e5 => ?_⟩
      rw [h22, show nI ((r ++ l).length + 1) - (1 : Int32) = nI (r ++ l).length from pk_sub (a := (r ++ l).length + 1) (b := 1) (by omega)] at e5
      have a22 : u5.1 22 = nI (r ++ l).length := by rw [e5]; exact thi_s _ _ _
      have a20 : u5.2.2.1 20 = u.2.2.1 20 := by rw [e5]; rfl
      have a21 : u5.1 21 = nI S := by rw [e5, thi_n (by decide)]; exact h21
      rw [a22]
      refine ⟨vp_in_nI (by omega) (by omega), fun y6 e6 => ?_⟩
      rw [ni_cl (by omega), a20, hp1] at e6
      subst e6
      refine mx_write a21 (by omega) (fun y yf yw y21 y16 y17 y18 => ?_)
      refine hn y (mf_t (by rw [e5]; exact mf_i (by decide) (mf_r u)) (mf_w yf (by decide) (by decide) (by decide))) (by rw [yw, e5]; rfl) y21 (by rw [yf.1 22 (by decide)]; exact a22) (by rw [y16, e5]; rfl) (by rw [y17, e5]; rfl) (by rw [y18, e5]; rfl)
    have inner : ∀ u', mf [21, 22] [16, 17, 18] [] u u' → u'.2.1 = u.2.1 → u'.1 21 = nI (S + 1) → u'.1 22 = nI (r ++ l).length → u'.2.2.1 16 = upd (u.2.2.1 16) (200 + S) (nI w) → u'.2.2.1 17 = upd (u.2.2.1 17) (200 + S) 0 → u'.2.2.1 18 = upd (u.2.2.1 18) (200 + S) 0 → M_writeDown (nI least) u' K := by
      intro u' f' w' g21 g22 g16 g17 g18
      refine ih (S + 1) u' g21 (by omega) g22 (by rw [f'.2.1 20 (by decide)]; exact hp2) (by omega) (fun v hv => hr v (List.mem_cons_of_mem _ hv)) (fun y yf yw y21 y22 ylow yhi => ?_)
      refine hK y (mf_t f' yf) (yw.trans w') (by rw [y21, List.length_cons, show S + 1 + r.length = S + (r.length + 1) by omega]) y22 (fun s hs => ?_) (fun i hi => ?_)
      · have h1 := ylow s (by omega)
        rw [g16, g17, g18, pk_un (by omega), pk_un (by omega), pk_un (by omega)] at h1
        exact h1
      · cases i with
        | zero =>
          have h1 := (ylow (200 + S) (by omega)).1
          rw [g16, pk_us] at h1
          rw [Nat.add_zero]
          simpa using h1
        | succ i =>
          have h1 := yhi i (by rw [List.length_cons] at hi; omega)
          rw [show 200 + (S + 1) + i = 200 + S + (i + 1) by omega] at h1
          simpa using h1
    have det : ∃ u', mf [21, 22] [16, 17, 18] [] u u' ∧ u'.2.1 = u.2.1 ∧ u'.1 21 = nI (S + 1) ∧ u'.1 22 = nI (r ++ l).length ∧ u'.2.2.1 16 = upd (u.2.2.1 16) (200 + S) (nI w) ∧ u'.2.2.1 17 = upd (u.2.2.1 17) (200 + S) 0 ∧ u'.2.2.1 18 = upd (u.2.2.1 18) (200 + S) 0 := by
      refine ⟨th_si (th_sa (th_sa (th_sa (th_si u 22 (nI (r ++ l).length)) 16 (upd (u.2.2.1 16) (200 + S) (nI w))) 17 (upd (u.2.2.1 17) (200 + S) 0)) 18 (upd (u.2.2.1 18) (200 + S) 0)) 21 (nI (S + 1)), mf_i (by decide) (mf_a (by decide) (mf_a (by decide) (mf_a (by decide) (mf_i (by decide) (mf_r u))))), rfl, thi_s _ _ _, ?_, ?_, ?_, ?_⟩
      · rw [thi_n (by decide)]; exact thi_s u 22 (nI (r ++ l).length)
      · show (th_sa _ 18 _).2.2.1 16 = _
        rw [tha_n (by decide), tha_n (by decide), tha_s]
      · show (th_sa _ 18 _).2.2.1 17 = _
        rw [tha_n (by decide), tha_s]
      · show (th_sa _ 18 _).2.2.1 18 = _
        rw [tha_s]
    have fuel : ∃ n, ∀ u', mf [21, 22] [16, 17, 18] [] u u' → u'.2.1 = u.2.1 → u'.1 21 = nI (S + 1) → u'.1 22 = nI (r ++ l).length → u'.2.2.1 16 = upd (u.2.2.1 16) (200 + S) (nI w) → u'.2.2.1 17 = upd (u.2.2.1 17) (200 + S) 0 → u'.2.2.1 18 = upd (u.2.2.1 18) (200 + S) 0 → M_writeDown_0_lp K n (nI least) u' := by
      obtain ⟨u1, a1, a2, a3, a4, a5, a6, a7⟩ := det
      obtain ⟨n, hn⟩ := inner u1 a1 a2 a3 a4 a5 a6 a7
      refine ⟨n, fun u' b1 b2 b3 b4 b5 b6 b7 => ?_⟩
      have : u' = u1 := by
        obtain ⟨p1, p2, p3, p4⟩ := u'
        obtain ⟨q1, q2, q3, q4⟩ := u1
        have e1 : p1 = q1 := by
          funext k
          by_cases h : k = 21
          · subst h; exact b3.trans a3.symm
          · by_cases h2 : k = 22
            · subst h2; exact b4.trans a4.symm
            · exact (b1.1 k (by simp [h, h2])).trans (a1.1 k (by simp [h, h2])).symm
        have e2 : p2 = q2 := b2.trans a2.symm
        have e3 : p3 = q3 := by
          funext k
          by_cases h : k = 16
          · subst h; exact b5.trans a5.symm
          · by_cases h2 : k = 17
            · subst h2; exact b6.trans a6.symm
            · by_cases h3 : k = 18
              · subst h3; exact b7.trans a7.symm
              · exact (b1.2.1 k (by simp [h, h2, h3])).trans (a1.2.1 k (by simp [h, h2, h3])).symm
        have e4 : p4 = q4 := by
          funext k
          exact (b1.2.2 k (by simp)).trans (a1.2.2 k (by simp)).symm
        rw [e1, e2, e3, e4]
      rw [this]; exact hn
    obtain ⟨n, hn⟩ := fuel
    exact ⟨n + 1, step n hn⟩

/-! text: conditions, step by step -/
def kOf : Option Nat → Nat
  | some w => if 22 ≤ w then w - 22 else 31 - w
  | none => 99
def sOf : Option Nat → Nat
  | some w => w + 54
  | none => 0
def pgF (x : xs_St) (s : Nat) : Nat := kOf (xo x 411 s)
def sgF (x : xs_St) (s : Nat) : Nat := sOf (xo x 412 s)
def nbF (x : xs_St) (s : Nat) : Nat := (xa x 414 s).toNatClampNeg
def ftF (x : xs_St) (s : Nat) : Nat := (xa x 413 s).toNatClampNeg
def vX (x : xs_St) (n S : Nat) : Prop := pgX x 100 n S (pgF x) (sgF x) (nbF x) (ftF x)
def exX (x y : xs_St) (S : Nat) : Prop := ∀ s, s < S → xo y 411 s = xo x 411 s ∧ xo y 412 s = xo x 412 s ∧ xa y 413 s = xa x 413 s ∧ xa y 414 s = xa x 414 s
def prM (x : xs_St) (u : th_St) (j : Nat) : Prop := ∀ s, s < j → u.2.2.1 16 (200 + s) = nI (pgF x s) ∧ (pgF x s ≤ 4 → u.2.2.1 17 (200 + s) = nI (sgF x s) ∧ u.2.2.1 18 (200 + s) = nI (nbF x s) ∧ (pgF x s = 4 → u.2.2.1 19 (200 + s) = nI (ftF x s)))
theorem exX_r (x : xs_St) (S : Nat) : exX x x S := fun _ _ => ⟨rfl, rfl, rfl, rfl⟩
theorem exX_t {x y z : xs_St} {S S' : Nat} (h : exX x y S) (h2 : exX y z S') (hS : S ≤ S') : exX x z S := fun s hs => by
  obtain ⟨a1, a2, a3, a4⟩ := h s hs
  obtain ⟨c1, c2, c3, c4⟩ := h2 s (by omega)
  exact ⟨c1.trans a1, c2.trans a2, c3.trans a3, c4.trans a4⟩
theorem exX_p {x y : xs_St} {S s : Nat} (h : exX x y S) (hs : s < S) : pgF y s = pgF x s ∧ sgF y s = sgF x s ∧ nbF y s = nbF x s ∧ ftF y s = ftF x s := by
  obtain ⟨a1, a2, a3, a4⟩ := h s hs
  unfold pgF sgF nbF ftF
  rw [a1, a2, a3, a4]; exact ⟨rfl, rfl, rfl, rfl⟩
theorem prM_x {x y : xs_St} {u : th_St} {j : Nat} (h : prM x u j) (he : exX x y j) : prM y u j := fun s hs => by
  obtain ⟨a1, a2, a3, a4⟩ := exX_p he hs
  rw [a1, a2, a3, a4]; exact h s hs
theorem prM_w {x : xs_St} {u : th_St} {j i : Nat} (h : prM x u j) (hi : i ≤ j) : prM x u i := fun s hs => h s (by omega)
theorem prM_u {x : xs_St} {u v : th_St} {j : Nat} (h : prM x u j) (he : ∀ s, s < j → v.2.2.1 16 (200 + s) = u.2.2.1 16 (200 + s) ∧ v.2.2.1 17 (200 + s) = u.2.2.1 17 (200 + s) ∧ v.2.2.1 18 (200 + s) = u.2.2.1 18 (200 + s) ∧ v.2.2.1 19 (200 + s) = u.2.2.1 19 (200 + s)) : prM x v j := fun s hs => by
  obtain ⟨a1, a2, a3, a4⟩ := he s hs
  rw [a1, a2, a3, a4]; exact h s hs
/-- a step that turns or joins, on both sides -/
theorem prM_s {x : xs_St} {u : th_St} {j : Nat} (h : prM x u j) (h1 : u.2.2.1 16 (200 + j) = nI (pgF x j)) (h2 : 4 < pgF x j) : prM x u (j + 1) := fun s hs => by
  by_cases e : s = j
  · subst e; exact ⟨h1, fun g => by omega⟩
  · exact h s (by omega)
theorem vX_e {x y : xs_St} {n S : Nat} (h : vX x n S) (he : exX x y S) : vX y n S := by
  refine ⟨h.1, fun s hs => ?_⟩
  obtain ⟨a1, a2, a3, a4⟩ := exX_p he hs
  obtain ⟨c1, c2, c3, c4⟩ := he s hs
  have := h.2 s hs
  rw [a1, a2, a3, a4]
  show _ ∧ xo y 411 s = _ ∧ (_ → xo y 412 s = _ ∧ _ ∧ _ ∧ xa y 414 s = _ ∧ _ ∧ (_ → xa y 413 s = _ ∧ _))
  rw [c1, c2, c3, c4]; exact this
def xF (x y : xs_St) : Prop := xh [205, 207, 208, 212, 213, 406] [413, 414] [411, 412] x y
def gX (t : TK) (x : xs_St) (k o S n : Nat) : Prop := cX t x k ∧ xi x 208 = nI o ∧ o ≤ 40 ∧ xi x 406 = nI S ∧ S ≤ 2 * o ∧ xi x 400 = nI n ∧ (4 ≤ n ∧ n ≤ 48) ∧ vX x n S
theorem exX_h {x y : xs_St} {S : Nat} {I A O : List Nat} (h : xh I A O x y) (hA : 413 ∉ A ∧ 414 ∉ A) (hO : 411 ∉ O ∧ 412 ∉ O) : exX x y S := fun s _ => by
  rw [h.2.2.2.2.1 411 hO.1, h.2.2.2.2.1 412 hO.2, h.2.1 413 hA.1, h.2.1 414 hA.2]; exact ⟨rfl, rfl, rfl, rfl⟩
theorem sx_addS {x : xs_St} {S w : Nat} {K : xs_St → Prop} (h406 : xi x 406 = nI S) (hS : S < 80) (hw : w < 27) (h : ∀ y, xh [406] [] [411] x y → y.2.1 = x.2.1 → xi y 406 = nI (S + 1) → xo y 411 = va_up (xo x 411) S (some w) → K y) : X_T_addStep_B (some w) x K := by
  unfold X_T_addStep_B X_T_addStep_B_29
  have c1 : ((80 : Int32) ≤ nI S) = (80 ≤ S) := ni_le (a := 80) (by omega) (by omega)
  rw [h406, c1]
  refine ⟨fun g => by omega, fun _ => ⟨vp_in_nI (by omega) (by omega), fun k9 e => by injection e with e; omega, fun u1 e1 u2 e2 => ?_⟩⟩
  rw [ni_cl (by omega)] at e1
  have a1 : xi u1 406 = nI S := by rw [e1]; exact h406
  rw [a1, show nI S + (1 : Int32) = nI (S + 1) from nI_1 S] at e2
  refine h u2 (by rw [e2, e1]; exact xh_i (by decide) (xh_o (by decide) (xh_r x))) (by rw [e2, e1]; rfl) (by rw [e2]; exact xsi_s _ _ _) ?_
  rw [e2, e1]
  exact xu_s x.2.2.1 411 (va_up (xo x 411) S (some w))
theorem tk_r : ∀ w : Fin 27, 19 ≤ w.val → tkK (kOf (some w.val)) = w.val ∧ (w.val ≤ 21 → 10 ≤ kOf (some w.val) ∧ kOf (some w.val) ≤ 12) := by decide
/-- a joining or turning step added to the class's program -/
theorem sx_addJ {t : TK} {x : xs_St} {k o S n w : Nat} {K : xs_St → Prop} (hg : gX t x k o S n) (hS : S + 1 ≤ 2 * o) (hw : 19 ≤ w ∧ w ≤ 21) (h : ∀ y, gX t y k o (S + 1) n → xF x y → exX x y S → pgF y S = kOf (some w) → xi y 212 = xi x 212 → K y) : X_T_addStep_B (some w) x K := by
  obtain ⟨g1, g2, g3, g4, g5, g6, g7, g8⟩ := hg
  refine sx_addS g4 (by omega) (by omega) (fun y yf yr y406 y411 => ?_)
  have ex : exX x y S := fun s hs => by
    rw [y411, xu_n _ _ (by omega), yf.2.2.2.2.1 412 (by decide), yf.2.1 413 (by decide), yf.2.1 414 (by decide)]
    exact ⟨rfl, rfl, rfl, rfl⟩
  have hp : pgF y S = kOf (some w) := by unfold pgF; rw [y411, xu_s]
  have hk := tk_r ⟨w, by omega⟩ hw.1
  have hk2 : 10 ≤ kOf (some w) ∧ kOf (some w) ≤ 12 := hk.2 hw.2
  have hk1 : tkK (kOf (some w)) = w := hk.1
  refine h y ⟨cX_h g1 yf (by unfold xr; rw [yr]) (by decide) (by decide) (by decide), (yf.1 208 (by decide)).trans g2, g3, y406, by omega, (yf.1 400 (by decide)).trans g6, g7, ?_⟩ (xh_w yf (by decide) (by decide) (by decide)) ex hp (yf.1 212 (by decide))
  have hv := vX_e g8 ex
  refine ⟨by omega, fun s hs => ?_⟩
  by_cases e : s = S
  · subst e
    rw [hp]
    refine ⟨Or.inr hk2, ?_, fun g => by omega⟩
    show xo y 411 s = _
    rw [y411, xu_s, hk1]
  · exact hv.2 s (by omega)
/-- what a measured ONE reads, behind its word -/
def mOk (t : TK) (k a n k2 v nv : Nat) : Prop := (a = 4 → kK t k = 2 ∧ kV t k = nI v ∧ v < n ∧ k2 = k + 1) ∧ (a ≠ 4 → k2 = k ∧ v = 0) ∧ (6 ≤ kK t k2 ∧ kK t k2 ≤ 8) ∧ kK t (k2 + 1) = 2 ∧ kV t (k2 + 1) = nI nv ∧ nv ≤ 9999 ∧ k2 + 1 < kT t
def mBd (t : TK) (k a n kd kp : Nat) : Prop := (a = 4 ∧ kK t k ≠ 2 ∧ kd = 1 ∧ kp = k) ∨ (a = 4 ∧ kK t k = 2 ∧ (∃ v, kV t k = nI v ∧ v ≤ 9999 ∧ ¬ v < n) ∧ kd = 2 ∧ kp = k) ∨ ∃ k2, ((a = 4 ∧ kK t k = 2 ∧ (∃ v, kV t k = nI v ∧ v ≤ 9999 ∧ v < n) ∧ k2 = k + 1) ∨ (a ≠ 4 ∧ k2 = k)) ∧ ((¬ (6 ≤ kK t k2 ∧ kK t k2 ≤ 8) ∧ kd = 1 ∧ kp = k2) ∨ ((6 ≤ kK t k2 ∧ kK t k2 ≤ 8) ∧ kK t (k2 + 1) ≠ 2 ∧ kd = 1 ∧ kp = k2 + 1))
theorem sx_rdM {t : TK} {x : xs_St} {k o S n a : Nat} {K : Int32 → xs_St → Prop} (hA : kA t) (hg : gX t x k o S n) (hS : S + 1 ≤ 2 * o) (ha : a ≤ 4)
    (h1 : ∀ y k2 v nv, mOk t k a n k2 v nv → gX t y (k2 + 2) o (S + 1) n → xF x y → exX x y S → pgF y S = a → sgF y S = kK t k2 + 54 → nbF y S = nv → (a = 4 → ftF y S = v) → xi y 212 = xi x 212 → K 1 y) (h0 : ∀ y kd kp, mBd t k a n kd kp → (1 ≤ kd ∧ kd ≤ 4) → xF x y → xi y 212 = nI kd → xi y 213 = nI (kP t kp) → K 0 y) : X_RD_readMeasured (some (22 + a)) x K := by
  obtain ⟨g1, g2, g3, g4, g5, g6, g7, g8⟩ := id hg
  have body : ∀ (x1 : xs_St) (k2 v : Nat), xF x x1 → xi x1 212 = xi x 212 → cX t x1 k2 → exX x x1 S → xi x1 208 = nI o → xi x1 406 = nI S → xi x1 400 = nI n → ((a = 4 ∧ kK t k = 2 ∧ (kV t k = nI v ∧ v ≤ 9999 ∧ v < n) ∧ k2 = k + 1) ∨ (a ≠ 4 ∧ k2 = k ∧ v = 0)) → v < 10000 → X_RD_readMeasured_33 K (some (22 + a)) (nI v) x1 := by
    intro x1 k2 v xf1 x212 c1 ex1 x208 x406 x400 hor hv
    have hor2 : (a = 4 ∧ kK t k = 2 ∧ (∃ v, kV t k = nI v ∧ v ≤ 9999 ∧ v < n) ∧ k2 = k + 1) ∨ (a ≠ 4 ∧ k2 = k) := by
      rcases hor with ⟨p1, p2, p3, p4⟩ | ⟨p1, p2, -⟩
      · exact Or.inl ⟨p1, p2, ⟨v, p3⟩, p4⟩
      · exact Or.inr ⟨p1, p2⟩
    have sgn : (6 ≤ kK t k2 ∧ kK t k2 ≤ 8) → X_RD_readMeasured_65 K (some (22 + a)) (nI v) (some (kK t k2)) x1 := by
      intro hs
      unfold X_RD_readMeasured_65
      refine sx_adv hA c1 (kA_l hA c1.2.2.2 (by omega)) (fun x2 xf2 c2 => ?_)
      have xf2' : xF x x2 := xh_t xf1 (xh_w xf2 (by decide) (by decide) (by decide))
      refine sx_num (lo := 0) (hi := 9999) hA c2 (by decide) (by decide) (fun q nv env hnv _ _ x3 xf3 c3 x207 => ⟨fun _ => ?_, fun g => absurd g (by decide)⟩) (fun q y yf => ⟨fun g => absurd rfl g, fun _ => ⟨n010, ?_⟩⟩) (fun q nv env hnv hno => absurd ⟨by omega, by omega⟩ hno)
      · have xf3' : xF x x3 := xh_t xf2' (xh_w xf3 (by decide) (by decide) (by decide))
        have ex3 : exX x x3 S := exX_t (exX_t ex1 (exX_h (S := S) xf2 (by decide) (by decide)) (Nat.le_refl _)) (exX_h (S := S) xf3 (by decide) (by decide)) (Nat.le_refl _)
        have e406 : xi x3 406 = nI S := by rw [xf3.1 406 (by decide), xf2.1 406 (by decide)]; exact x406
        unfold X_T_addMeasured_B X_T_addMeasured_B_45
        have c80 : ((80 : Int32) ≤ nI S) = (80 ≤ S) := ni_le (a := 80) (by omega) (by omega)
        rw [e406, c80, x207]
        refine ⟨fun g => by omega, fun _ => ⟨vp_in_nI (by omega) (by omega), fun u1 e1 => ?_⟩⟩
        rw [ni_cl (by omega)] at e1
        have a1 : xi u1 406 = nI S := by rw [e1]; exact e406
        rw [a1]
        refine ⟨vp_in_nI (by omega) (by omega), fun k9 e => by injection e with e; omega, fun u2 e2 => ?_⟩
        rw [ni_cl (by omega)] at e2
        have a2 : xi u2 406 = nI S := by rw [e2]; exact a1
        rw [a2]
        refine ⟨vp_in_nI (by omega) (by omega), fun u3 e3 => ?_⟩
        rw [ni_cl (by omega)] at e3
        have a3 : xi u3 406 = nI S := by rw [e3]; exact a2
        have uf3 : xh [] [413, 414] [412] x3 u3 := by rw [e3, e2, e1]; exact xh_a (by decide) (xh_o (by decide) (xh_a (by decide) (xh_r x3)))
        have ur3 : u3.2.1 = x3.2.1 := by rw [e3, e2, e1]; rfl
        have b413 : xa u3 413 = upd (xa x3 413) S (nI v) := by rw [e3, xq_sa, if_neg (by decide), e2, e1]; exact (xq_sa x3 413 413 _).trans (if_pos rfl)
        have b414 : xa u3 414 = upd (xa x3 414) S (nI nv) := by rw [e3, xq_sa, if_pos rfl, e2, e1]; rfl
        have b412 : xo u3 412 = va_up (xo x3 412) S (some (kK t k2)) := by
          rw [e3, e2, e1]
          exact xu_s x3.2.2.1 412 (va_up (xo x3 412) S (some (kK t k2)))
        clear e1 e2 e3
        refine sx_addS a3 (by omega) (by omega) (fun y yf yr y406 y411 => ⟨n011, ?_⟩)
        have ex : exX x y S := fun s hs => by
          obtain ⟨c1, c2, c3, c4⟩ := ex3 s hs
          rw [y411, xu_n _ _ (by omega), yf.2.2.2.2.1 412 (by decide), b412, xu_n _ _ (by omega), yf.2.1 413 (by decide), b413, pk_un (by omega), yf.2.1 414 (by decide), b414, pk_un (by omega), uf3.2.2.2.2.1 411 (by decide)]
          exact ⟨c1, c2, c3, c4⟩
        have hp : pgF y S = a := by
          unfold pgF
          rw [y411, xu_s]
          show (if 22 ≤ 22 + a then 22 + a - 22 else 31 - (22 + a)) = a
          rw [if_pos (by omega)]; omega
        have o412 : xo y 412 S = some (kK t k2) := by rw [yf.2.2.2.2.1 412 (by decide), b412, xu_s]
        have hsg : sgF y S = kK t k2 + 54 := by unfold sgF; rw [o412]; rfl
        have a414 : xa y 414 S = nI nv := by rw [yf.2.1 414 (by decide), b414, pk_us]
        have a413 : xa y 413 S = nI v := by rw [yf.2.1 413 (by decide), b413, pk_us]
        have hnb : nbF y S = nv := by unfold nbF; rw [a414]; exact ni_cl (by omega)
        have hft : ftF y S = v := by unfold ftF; rw [a413]; exact ni_cl (by omega)
        have yF : xF x y := xh_t xf3' (xh_t (xh_w uf3 (by decide) (by decide) (by decide)) (xh_w yf (by decide) (by decide) (by decide)))
        have hlt := kA_l hA c2.2.2.2 (by omega)
        have hvn : a = 4 → v < n := fun e4 => by
          rcases hor with ⟨-, -, p3, -⟩ | ⟨p1, -⟩
          · exact p3.2.2
          · exact absurd e4 p1
        refine h1 y k2 v nv ⟨fun e4 => ?_, fun e4 => ?_, hs, q, env, hnv, hlt⟩ ⟨?_, ?_, g3, y406, by omega, ?_, g7, ?_⟩ yF ex hp hsg hnb (fun _ => hft) (by rw [yf.1 212 (by decide), uf3.1 212 (by decide), xf3.1 212 (by decide), xf2.1 212 (by decide)]; exact x212)
        · rcases hor with ⟨p1, p2, p3, p4⟩ | ⟨p1, -⟩
          · exact ⟨p2, p3.1, p3.2.2, p4⟩
          · exact absurd e4 p1
        · rcases hor with ⟨p1, -⟩ | ⟨p1, p2, p3⟩
          · exact absurd p1 e4
          · exact ⟨p2, p3⟩
        · exact cX_h (cX_h c3 uf3 (by unfold xr; rw [ur3]) (by decide) (by decide) (by decide)) yf (by unfold xr; rw [yr]) (by decide) (by decide) (by decide)
        · rw [yf.1 208 (by decide), uf3.1 208 (by decide), xf3.1 208 (by decide), xf2.1 208 (by decide)]; exact x208
        · rw [yf.1 400 (by decide), uf3.1 400 (by decide), xf3.1 400 (by decide), xf2.1 400 (by decide)]; exact x400
        · have hv8 := vX_e g8 ex
          refine ⟨by omega, fun s hs' => ?_⟩
          by_cases e : s = S
          · subst e
            rw [hp, hsg, hnb, hft]
            refine ⟨Or.inl ha, ?_, fun _ => ⟨?_, by omega, by omega, a414, hnv, fun e4 => ⟨a413, hvn e4⟩⟩⟩
            · show xo y 411 s = _
              rw [y411, xu_s]
              unfold tkK
              rw [if_pos ha]
            · show xo y 412 s = _
              rw [o412, Nat.add_sub_cancel]
          · exact hv8.2 s (by omega)
      · exact h0 y 1 (k2 + 1) (Or.inr (Or.inr ⟨k2, hor2, Or.inr ⟨hs, q, rfl, rfl⟩⟩)) (by omega) (xh_t xf2' (xh_w yf.1 (by decide) (by decide) (by decide))) yf.2.1 yf.2.2
    unfold X_RD_readMeasured_33
    rw [c1.2.2.1]
    refine br1 (fun q => sgn (by injection q with q; omega)) (fun q => br1 (fun q2 => sgn (by injection q2 with q2; omega)) (fun q2 => br1 (fun q3 => sgn (by injection q3 with q3; omega)) (fun q3 => ?_)))
    refine sx_flt (kd := 1) hA c1 (fun y yf => ⟨n010, ?_⟩)
    exact h0 y 1 k2 (Or.inr (Or.inr ⟨k2, hor2, Or.inl ⟨fun g => by
      have e1 : kK t k2 ≠ 6 := fun e => q (by rw [e])
      have e2 : kK t k2 ≠ 7 := fun e => q2 (by rw [e])
      have e3 : kK t k2 ≠ 8 := fun e => q3 (by rw [e])
      omega, rfl, rfl⟩⟩)) (by omega) (xh_t xf1 (xh_w yf.1 (by decide) (by decide) (by decide))) yf.2.1 yf.2.2
  unfold X_RD_readMeasured
  refine br2 (fun q => ?_) (fun q => ?_)
  · exact body x k 0 (xh_r x) rfl g1 (exX_r x S) g2 g4 g6 (Or.inr ⟨fun e => q (by rw [e]), rfl, rfl⟩) (by omega)
  · have e4 : a = 4 := by injection q with q; omega
    have en : (nI n - (1 : Int32)).toInt = (n : Int) - 1 := by
      rw [show nI n - (1 : Int32) = iI ((n : Int) - 1) from ii_nsub n 1, ii_toInt (by omega) (by omega)]
    rw [g6]
    refine sx_num (lo := 0) (hi := (n : Int) - 1) hA g1 (by decide) en (fun q2 v ev hv _ hlt x1 xf1 c1 x207 => ⟨fun _ => ?_, fun g => absurd g (by decide)⟩) (fun q2 y yf => ⟨fun g => absurd rfl g, fun _ => ⟨n010, ?_⟩⟩) (fun q2 v ev hv hno y yf => ⟨fun g => absurd rfl g, fun _ => ⟨n010, ?_⟩⟩)
    · rw [x207]
      exact body x1 (k + 1) v (xh_w xf1 (by decide) (by decide) (by decide)) (xf1.1 212 (by decide)) c1 (exX_h xf1 (by decide) (by decide)) (by rw [xf1.1 208 (by decide)]; exact g2) (by rw [xf1.1 406 (by decide)]; exact g4) (by rw [xf1.1 400 (by decide)]; exact g6) (Or.inl ⟨e4, q2, ⟨ev, hv, by omega⟩, rfl⟩) (by omega)
    · exact h0 y 1 k (Or.inl ⟨e4, q2, rfl, rfl⟩) (by omega) (xh_w yf.1 (by decide) (by decide) (by decide)) yf.2.1 yf.2.2
    · exact h0 y 2 k (Or.inr (Or.inl ⟨e4, q2, ⟨v, ev, hv, by omega⟩, rfl, rfl⟩)) (by omega) (xh_w yf.1 (by decide) (by decide) (by decide)) yf.2.1 yf.2.2

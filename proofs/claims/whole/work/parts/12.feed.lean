/-! feed -/
def s_by (v s : Int32) : Int32 := vp_nar .byte ((v >>> (s &&& 31))).toInt8.toInt32
theorem s_by_byte (v s : Int32) : s_byte (s_by v s) := by
  unfold s_by s_byte
  rw [pk_vb]
  have h1 := Int8.le_toInt ((v >>> (s &&& 31))).toInt8
  have h2 := Int8.toInt_lt ((v >>> (s &&& 31))).toInt8
  rw [Int8.toInt_toInt32]
  omega
theorem sx_put1 {x : xs_St} {K : xs_St → Prop} {k n : Nat} {v s : Int32} (hs : ¬ s < 0) (hn : n < 440) (h1 : xi x 101 = nI n) (h : X_TP_put_3_lp K k v (s + (-8 : Int32)) (xs_si (xs_sa x 100 (upd (xa x 100) n (s_by v s))) 101 (nI (n + 1)))) : X_TP_put_3_lp K (k + 1) v s x := by
  show X_TP_put_3 K (X_TP_put_3_lp K k) v s x
  unfold X_TP_put_3
  have e1 : (xi x 101).toNatClampNeg = n := by rw [h1, nI_clamp (by omega)]
  have hT : (nI n).toInt = n := ti_nI (by omega)
  have c4 : (440 : Int32).toInt = 440 := by decide
  have hq : ¬ (440 : Int32) ≤ xi x 101 := by rw [h1, ti_le, hT, c4]; omega
  refine ⟨fun q => absurd q hs, fun _ => ⟨fun q => absurd q hq, fun _ => ⟨by rw [h1]; exact vp_in_nI hn (by omega), ?_⟩⟩⟩
  intro u1 e2 u2 e3 s' e4
  subst e2; subst e3; subst e4
  rw [e1]
  have e5 : xi (xs_sa x 100 (upd (xa x 100) n (s_by v s))) 101 + (1 : Int32) = nI (n + 1) := by
    show xi x 101 + 1 = _
    rw [h1]; exact nI_1 n
  show X_TP_put_3_lp K k v (s + (-8 : Int32)) (xs_si (xs_sa x 100 (upd (xa x 100) n (s_by v s))) 101 (xi (xs_sa x 100 (upd (xa x 100) n (s_by v s))) 101 + (1 : Int32)))
  rw [e5]
  exact h
theorem xs_nm (x : xs_St) (k j : Nat) (f1 f2 : Nat → Int32) (v1 v2 : Int32) : xs_si (xs_sa (xs_si (xs_sa x k f1) j v1) k f2) j v2 = xs_si (xs_sa x k f2) j v2 := by
  simp [xs_si, xs_sa, th_si, th_sa, bx_uu]
theorem sx_put {x : xs_St} {K : xs_St → Prop} {n : Nat} {v : Int32} (hn : n + 4 ≤ 440) (h1 : xi x 101 = nI n) (hk : ∀ f : Nat → Int32, (∀ i, i < n → f i = xa x 100 i) → f n = s_by v 24 → f (n + 1) = s_by v (24 + (-8)) → f (n + 2) = s_by v (24 + (-8) + (-8)) → f (n + 3) = s_by v (24 + (-8) + (-8) + (-8)) → K (xs_si (xs_sa x 100 f) 101 (nI (n + 4)))) : X_TP_put v x K := by
  refine ⟨5, sx_put1 (n := n) (by decide) (by omega) h1 (sx_put1 (n := n + 1) (by decide) (by omega) rfl (sx_put1 (n := n + 2) (by decide) (by omega) rfl (sx_put1 (n := n + 3) (by decide) (by omega) rfl ?_)))⟩
  show X_TP_put_3 K (X_TP_put_3_lp K 0) v _ _
  unfold X_TP_put_3 X_TP_put_46
  refine ⟨fun _ => ?_, fun q => absurd (by decide) q⟩
  rw [xs_nm, xs_nm, xs_nm]
  refine hk _ (fun i hi => ?_) ?_ ?_ ?_ ?_
  · show upd (upd (upd (upd (xa x 100) n _) (n + 1) _) (n + 2) _) (n + 3) _ i = _
    rw [pk_un (by omega), pk_un (by omega), pk_un (by omega), pk_un (by omega)]
  · show upd (upd (upd (upd (xa x 100) n _) (n + 1) _) (n + 2) _) (n + 3) _ n = _
    rw [pk_un (by omega), pk_un (by omega), pk_un (by omega), pk_us]
  · show upd (upd (upd (upd (xa x 100) n _) (n + 1) _) (n + 2) _) (n + 3) _ (n + 1) = _
    rw [pk_un (by omega), pk_un (by omega), pk_us]
  · show upd (upd (upd (upd (xa x 100) n _) (n + 1) _) (n + 2) _) (n + 3) _ (n + 2) = _
    rw [pk_un (by omega), pk_us]
  · show upd (upd (upd (upd (xa x 100) n _) (n + 1) _) (n + 2) _) (n + 3) _ (n + 3) = _
    rw [pk_us]
theorem mx_four1 {m : th_St} {K : th_St → Prop} {k n : Nat} {v s : Int32} (hs : ¬ s < 0) (hn : n < 440) (h1 : m.1 2 = nI n) (h : M_four_3_lp K k v (s + (-8 : Int32)) (th_si (th_sa m 1 (upd (m.2.2.1 1) n (s_by v s))) 2 (nI (n + 1)))) : M_four_3_lp K (k + 1) v s m := by
  show M_four_3 K (M_four_3_lp K k) v s m
  unfold M_four_3
  have e1 : (m.1 2).toNatClampNeg = n := by rw [h1, nI_clamp (by omega)]
  refine ⟨fun q => absurd q hs, fun _ => ⟨by rw [h1]; exact vp_in_nI hn (by omega), ?_⟩⟩
  intro u1 e2 u2 e3 s' e4
  subst e2; subst e3; subst e4
  rw [e1]
  have e5 : (th_sa m 1 (upd (m.2.2.1 1) n (s_by v s))).1 2 + (1 : Int32) = nI (n + 1) := by
    show m.1 2 + 1 = _
    rw [h1]; exact nI_1 n
  show M_four_3_lp K k v (s + (-8 : Int32)) (th_si (th_sa m 1 (upd (m.2.2.1 1) n (s_by v s))) 2 ((th_sa m 1 (upd (m.2.2.1 1) n (s_by v s))).1 2 + (1 : Int32)))
  rw [e5]
  exact h
theorem th_nm (x : th_St) (k j : Nat) (f1 f2 : Nat → Int32) (v1 v2 : Int32) : th_si (th_sa (th_si (th_sa x k f1) j v1) k f2) j v2 = th_si (th_sa x k f2) j v2 := by
  simp [th_si, th_sa, bx_uu]
theorem mx_four {m : th_St} {K : th_St → Prop} {n : Nat} {v : Int32} (hn : n + 4 ≤ 440) (h1 : m.1 2 = nI n) (hk : ∀ f : Nat → Int32, (∀ i, i < n → f i = m.2.2.1 1 i) → f n = s_by v 24 → f (n + 1) = s_by v (24 + (-8)) → f (n + 2) = s_by v (24 + (-8) + (-8)) → f (n + 3) = s_by v (24 + (-8) + (-8) + (-8)) → K (th_si (th_sa m 1 f) 2 (nI (n + 4)))) : M_four v m K := by
  refine ⟨5, mx_four1 (n := n) (by decide) (by omega) h1 (mx_four1 (n := n + 1) (by decide) (by omega) rfl (mx_four1 (n := n + 2) (by decide) (by omega) rfl (mx_four1 (n := n + 3) (by decide) (by omega) rfl ?_)))⟩
  show M_four_3 K (M_four_3_lp K 0) v _ _
  unfold M_four_3
  refine ⟨fun _ => ?_, fun q => absurd (by decide) q⟩
  rw [th_nm, th_nm, th_nm]
  refine hk _ (fun i hi => ?_) ?_ ?_ ?_ ?_
  · show upd (upd (upd (upd (m.2.2.1 1) n _) (n + 1) _) (n + 2) _) (n + 3) _ i = _
    rw [pk_un (by omega), pk_un (by omega), pk_un (by omega), pk_un (by omega)]
  · show upd (upd (upd (upd (m.2.2.1 1) n _) (n + 1) _) (n + 2) _) (n + 3) _ n = _
    rw [pk_un (by omega), pk_un (by omega), pk_un (by omega), pk_us]
  · show upd (upd (upd (upd (m.2.2.1 1) n _) (n + 1) _) (n + 2) _) (n + 3) _ (n + 1) = _
    rw [pk_un (by omega), pk_un (by omega), pk_us]
  · show upd (upd (upd (upd (m.2.2.1 1) n _) (n + 1) _) (n + 2) _) (n + 3) _ (n + 2) = _
    rw [pk_un (by omega), pk_us]
  · show upd (upd (upd (upd (m.2.2.1 1) n _) (n + 1) _) (n + 2) _) (n + 3) _ (n + 3) = _
    rw [pk_us]
/-- the tapes of both at n bytes, alike -/
def sTp (n : Nat) (x : xs_St) (m : th_St) : Prop := xi x 101 = nI n ∧ m.1 2 = nI n ∧ ∀ i, i < n → xa x 100 i = m.2.2.1 1 i ∧ s_byte (xa x 100 i)
theorem sTp_put {n : Nat} {x : xs_St} {m : th_St} {v : Int32} (h : sTp n x m) {f g : Nat → Int32} (f0 : ∀ i, i < n → f i = xa x 100 i) (f1 : f n = s_by v 24) (f2 : f (n + 1) = s_by v (24 + (-8))) (f3 : f (n + 2) = s_by v (24 + (-8) + (-8))) (f4 : f (n + 3) = s_by v (24 + (-8) + (-8) + (-8))) (g0 : ∀ i, i < n → g i = m.2.2.1 1 i) (g1 : g n = s_by v 24) (g2 : g (n + 1) = s_by v (24 + (-8))) (g3 : g (n + 2) = s_by v (24 + (-8) + (-8))) (g4 : g (n + 3) = s_by v (24 + (-8) + (-8) + (-8))) : sTp (n + 4) (xs_si (xs_sa x 100 f) 101 (nI (n + 4))) (th_si (th_sa m 1 g) 2 (nI (n + 4))) := by
  refine ⟨rfl, rfl, fun i hi => ?_⟩
  show f i = g i ∧ s_byte (f i)
  rcases Nat.lt_or_ge i n with hl | hg
  · rw [f0 i hl, g0 i hl]; exact h.2.2 i hl
  · rcases (show i = n ∨ i = n + 1 ∨ i = n + 2 ∨ i = n + 3 by omega) with rfl | rfl | rfl | rfl
    · rw [f1, g1]; exact ⟨rfl, s_by_byte _ _⟩
    · rw [f2, g2]; exact ⟨rfl, s_by_byte _ _⟩
    · rw [f3, g3]; exact ⟨rfl, s_by_byte _ _⟩
    · rw [f4, g4]; exact ⟨rfl, s_by_byte _ _⟩
theorem sx_feed {x : xs_St} {m : th_St} (h : sTape x m) {a b c d e : Int32} {K : Int32 → xs_St → Int32 → th_St → Prop} (k0 : K (-1) x (-1) (th_si m 0 0)) (k1 : ∀ (f g : Nat → Int32) (n : Int32), sTape (xs_si (xs_sa x 100 f) 101 n) (th_si (th_sa (th_si m 0 0) 1 g) 2 n) → K n (xs_si (xs_sa x 100 f) 101 n) n (th_si (th_sa (th_si m 0 0) 1 g) 2 n)) : X_TH_feed a b c d e x (fun r x' => M_feed a b c d e m (fun r' m' => K r x' r' m')) := by
  obtain ⟨n, hn, h0⟩ := h
  have h0 : sTp n x (th_si m 0 0) := h0
  have h1 := h0.1
  have h2 := h0.2.1
  have cn : (nI n).toInt = n := ti_nI (by omega)
  have c20 : (20 : Int32).toInt = 20 := by decide
  have c44 : (440 : Int32).toInt = 440 := by decide
  have es : (nI n + (20 : Int32)).toInt = n + 20 := by rw [ti_add] <;> rw [cn, c20] <;> omega
  unfold X_TH_feed X_TP_hasRoom X_TP_hasRoom_17 M_feed
  simp only [forall_eq, h1, h2, ti_lt, ti_le, es, c44]
  refine ⟨fun hgt => ⟨by decide, fun q => absurd (by decide) q, fun _ => ⟨fun q => absurd q (by omega), fun _ => k0⟩⟩, fun hle => ⟨by decide, fun _ => ?_, fun q => absurd q (by decide)⟩⟩
  refine sx_put (n := n) (by omega) h1 (fun f1 p0 p1 p2 p3 p4 => sx_put (n := n + 4) (by omega) rfl (fun f2 q0 q1 q2 q3 q4 => sx_put (n := n + 4 + 4) (by omega) rfl (fun f3 r0 r1 r2 r3 r4 => sx_put (n := n + 4 + 4 + 4) (by omega) rfl (fun f4 s0 s1 s2 s3 s4 => sx_put (n := n + 4 + 4 + 4 + 4) (by omega) rfl (fun f5 t0 t1 t2 t3 t4 => ?_)))))
  refine ⟨fun _ => ?_, fun q => absurd (by omega) q⟩
  refine mx_four (n := n) (by omega) h2 (fun g1 a0 a1 a2 a3 a4 => mx_four (n := n + 4) (by omega) rfl (fun g2 b0 b1 b2 b3 b4 => mx_four (n := n + 4 + 4) (by omega) rfl (fun g3 c0 c1 c2 c3 c4 => mx_four (n := n + 4 + 4 + 4) (by omega) rfl (fun g4 d0 d1 d2 d3 d4 => mx_four (n := n + 4 + 4 + 4 + 4) (by omega) rfl (fun g5 e0 e1 e2 e3 e4 => ?_)))))
  have z1 := sTp_put h0 p0 p1 p2 p3 p4 a0 a1 a2 a3 a4
  have z2 := sTp_put z1 q0 q1 q2 q3 q4 b0 b1 b2 b3 b4
  have z3 := sTp_put z2 r0 r1 r2 r3 r4 c0 c1 c2 c3 c4
  have z4 := sTp_put z3 s0 s1 s2 s3 s4 d0 d1 d2 d3 d4
  have z5 := sTp_put z4 t0 t1 t2 t3 t4 e0 e1 e2 e3 e4
  rw [xs_nm, xs_nm, xs_nm, xs_nm, th_nm, th_nm, th_nm, th_nm] at z5
  rw [xs_nm, xs_nm, xs_nm, xs_nm, th_nm, th_nm, th_nm, th_nm]
  exact k1 f5 g5 (nI (n + 4 + 4 + 4 + 4 + 4)) ⟨n + 4 + 4 + 4 + 4 + 4, by omega, z5⟩

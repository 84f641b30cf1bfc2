/-! hour and mend -/
def xg (I A L O : List Nat) (x y : xs_St) : Prop := (∀ k, k ∉ I → xi y k = xi x k) ∧ (∀ k, k ∉ A → xa y k = xa x k) ∧ (∀ k, k ∉ L → xl y k = xl x k) ∧ y.2.1 = x.2.1 ∧ ∀ k, k ∉ O → xo y k = xo x k
theorem s_fb {r : Int32} (h : s_byte r) : fits .byte (.int r) = true := by
  have h1 : (-128 : Int32) ≤ r := by rw [ti_le]; exact h.1
  have h2 : r ≤ (127 : Int32) := by rw [ti_le]; exact h.2
  show (decide ((-128 : Int32) ≤ r) && decide (r ≤ (127 : Int32))) = true
  rw [decide_eq_true h1, decide_eq_true h2]; rfl
/-- a row as the tape may have it -/
def rwOk (L n : Nat) (B : Nat → Int) : Prop := L = 2 * n ∧ ∀ i, i < n → (-99 ≤ B i ∧ B i ≤ 99) ∧ -50 ≤ B (n + i) ∧ B (n + i) ≤ 50
theorem sx_isRow {x : xs_St} {L n : Nat} {B : Nat → Int} {K : Int32 → xs_St → Prop} (hL : L ≤ 440) (hn : n ≤ 48) (h1 : xi x 101 = nI L) (hB : tB (xa x 100) L B) (k0 : ¬ rwOk L n B → K 0 x) (k1 : rwOk L n B → K 1 x) : X_BD_isRow (nI n) x K := by
  have e : ∀ i, i < L → (xa x 100 i).toInt = B i := fun i hi => by
    have := hB.1 i
    rw [hB.2 i hi, ii_toInt (by omega) (by omega)]
  unfold X_BD_isRow X_BD_isRow_38 X_BD_isRow_39
  rw [h1, show (2 : Int32) * nI n = nI (2 * n) from pk_mul 2 n, ni_eq (by omega) (by omega)]
  refine br2 (fun q => ⟨n010, k0 (fun q2 => q q2.1)⟩) (fun q => ?_)
  subst q
  refine sx_allWE 0 n 99 rfl rfl rfl hL h1 (by omega) (by omega) (by omega) (fun hall => ⟨fun g => absurd g (by decide), fun _ => ?_⟩) (fun ⟨i, i1, i2, i3⟩ => ⟨fun _ => ⟨n010, k0 (fun q2 => i3 ?_)⟩, fun g => absurd rfl g⟩)
  · refine sx_allWE n (2 * n) 50 rfl rfl rfl hL h1 (by omega) (by omega) (by omega) (fun hall2 => ⟨fun g => absurd g (by decide), fun _ => ⟨n011, k1 ⟨rfl, fun i hi => ?_⟩⟩⟩) (fun ⟨i, i1, i2, i3⟩ => ⟨fun _ => ⟨n010, k0 (fun q2 => i3 ?_)⟩, fun g => absurd rfl g⟩)
    · have a1 := hall i (by omega) hi
      have a2 := hall2 (n + i) (by omega) (by omega)
      unfold s_wi at a1 a2
      rw [e i (by omega)] at a1
      rw [e (n + i) (by omega)] at a2
      omega
    · have := q2.2 (i - n) (by omega)
      rw [show n + (i - n) = i by omega] at this
      unfold s_wi
      rw [e i (by omega)]; omega
  · have := q2.2 i (by omega)
    unfold s_wi
    rw [e i (by omega)]; omega
theorem sx_copy {x : xs_St} {L : Nat} {B : Nat → Int} {K : Option Nat → xs_St → Prop} (hL : L ≤ 400) (h1 : xi x 101 = nI L) (hB : tB (xa x 100) L B) (h : ∀ (y : xs_St) (arr : Nat), sm x y → (∀ cc, pxT x y cc) → xdL y = xdL x ++ [arr] → arr ∉ xdL x → xd_is y arr 2 → xdN y arr = L → (∀ i, i < L → xdA y arr i = iI (B i)) → K (some arr) y) : X_TP_copy x K := by
  unfold X_TP_copy X_J_copyOf_9075b_100
  rw [h1]
  have c1 : (nI L = (440 : Int32)) = (L = 440) := ni_eq (b := 440) (by omega) (by omega)
  have c2 : (nI L < (0 : Int32)) = (L < 0) := ni_lt (b := 0) (by omega) (by omega)
  have c3 : (nI L < (440 : Int32)) = (L < 440) := ni_lt (b := 440) (by omega) (by omega)
  have c4 : ¬ (0 : Int32) < 0 := by decide
  have e3 : (if nI L < (440 : Int32) then nI L else (440 : Int32)) = nI L := if_pos (by rw [c3]; omega)
  have e4 : (0 : Int32).toNatClampNeg = 0 := by decide
  rw [e3, e4, c1, c2, ni_cl (show L ≤ 2147483647 by omega)]
  refine ⟨fun _ => ⟨by omega, by omega, ?_⟩, fun q => by omega⟩
  intro arr harr u2 e2
  have ha : xd_is u2 arr 2 := by rw [e2]; exact ⟨List.mem_append_right _ (List.mem_singleton.mpr rfl), by rw [xnA_K, if_pos rfl]⟩
  have hNn : xdN u2 arr = L := by rw [e2, xnA_N, if_pos rfl]
  have hp : ∀ cc, pxT x u2 cc := fun cc => by rw [e2]; exact pxT_newA harr
  have hs : sm x u2 := by rw [e2]; exact ⟨rfl, rfl, rfl⟩
  have hLL : xdL u2 = xdL x ++ [arr] := by rw [e2]; rfl
  have h100 : xa u2 100 = xa x 100 := by rw [e2]; rfl
  clear e2
  refine ⟨ha, c4, c4, by omega, by omega, by rw [hNn]; omega, fun i hi => ?_, ?_⟩
  · rw [h100, hB.2 (0 + i) (by omega)]
    refine s_fb ?_
    have := hB.1 (0 + i)
    unfold s_byte
    rw [ii_toInt (by omega) (by omega)]; exact this
  · intro u3 e3
    subst e3
    refine h _ arr hs (fun cc => pxT_da (hp cc) harr) hLL harr ha hNn (fun i hi => ?_)
    rw [xq_dA, if_pos rfl, pk_cpy_in (by omega) (by omega), h100]
    rw [show 0 + (i - 0) = i by omega]
    exact hB.2 i hi
/-- a row told: what lies there behind it -/
theorem sx_addRow {x : xs_St} {n N L : Nat} {eh ed er ea : Nat → Nat} {rd wd : Nat → Nat → Int} {B : Nat → Int} {h d : Nat} {K : xs_St → Prop} {Hf : xs_St → Int32} (hL : L = 2 * n) (hn : n ≤ 48) (h1 : xi x 101 = nI L) (hB : tB (xa x 100) L B) (hlg : lgX x n N eh ed er ea rd wd) (hN : N < 100) (hh : h < 40) (hd : d ≤ 999) (hok : rwOk L n B) {b : Nat} (hb : b ∉ xdL x) (hHf : ∀ u3, sm x u3 → Hf u3 = nI h)
    (hK : ∀ (y : xs_St) (arr : Nat), y.1 = (xs_si x 503 (nI (N + 1))).1 → y.2.1 = x.2.1 → (∀ k, k ≠ 500 → xo y k = xo x k) → (∀ cc, pxT x y cc) → xdL y = xdL x ++ [b, arr] → xd_is y b 1 → xd_is y arr 2 → lgX y n (N + 1) (iu eh N h) (iu ed N d) (iu er N b) (iu ea N arr) (iu rd N (fun i => if i < n then B i else 0)) (iu wd N (fun i => if i < n then B (n + i) else 0)) → K y) : X_TP_copy (xs_new x b 1) (fun r u3 => X_Row_init_d b r (Hf u3) (nI d) u3 (fun u5 => X_BD_addRow (some b) u5 K)) := by
  have his : xd_is (xs_new x b 1) b 1 := ⟨List.mem_append_right _ (List.mem_singleton.mpr rfl), by rw [xn_K, if_pos rfl]⟩
  have hpx : ∀ cc, pxT x (xs_new x b 1) cc := fun cc => pxT_new hb
  have hLn : xdL (xs_new x b 1) = xdL x ++ [b] := rfl
  have hsm : sm x (xs_new x b 1) := ⟨rfl, rfl, rfl⟩
  have h1' : xi (xs_new x b 1) 101 = nI L := h1
  have hB' : tB (xa (xs_new x b 1) 100) L B := hB
  generalize xs_new x b 1 = u at *
  refine sx_copy (by omega) h1' hB' (fun y arr ysm ypx yL harr ya yN yA => ?_)
  have hab : arr ≠ b := fun e => harr (by rw [hLn, e]; exact List.mem_append_right _ (List.mem_singleton.mpr rfl))
  have hax : arr ∉ xdL x := fun q => harr (by rw [hLn]; exact List.mem_append_left _ q)
  have yb : xd_is y b 1 := pxT_is (ypx b) his
  rw [hHf y (sm_t hsm ysm)]
  unfold X_Row_init_d
  refine ⟨yb, ?_⟩
  intro u1 e1
  refine ⟨by rw [e1]; exact yb, ?_⟩
  intro u2 e2
  refine ⟨by rw [e2, e1]; exact yb, ?_⟩
  intro u3 e3
  have p3 : ∀ cc, pxT x u3 cc := fun cc => by
    rw [e3, e2, e1]
    exact pxT_di (pxT_di (pxT_dr (pxT_t (hpx cc) (ypx cc)) hb) hb) hb
  have i3 : xd_is u3 b 1 := by rw [e3, e2, e1]; exact yb
  have a3 : xd_is u3 arr 2 := by rw [e3, e2, e1]; exact ya
  have s3 : sm x u3 := by rw [e3, e2, e1]; exact sm_t hsm ysm
  have R3 : xdR u3 0 b = some arr := by rw [e3, e2, e1]; show xdR (xs_dr y 0 b (some arr)) 0 b = _; rw [xq_dR, if_pos ⟨rfl, rfl⟩]
  have I30 : xdI u3 0 b = nI h := by rw [e3, xq_dI, if_neg (fun q => by cases q.1), e2, xq_dI, if_pos ⟨rfl, rfl⟩]
  have I31 : xdI u3 1 b = nI d := by rw [e3, xq_dI, if_pos ⟨rfl, rfl⟩]
  have N3 : xdN u3 arr = L := by rw [e3, e2, e1]; exact yN
  have A3 : ∀ i, i < L → xdA u3 arr i = iI (B i) := fun i hi => by rw [e3, e2, e1]; exact yA i hi
  have L3 : xdL u3 = xdL x ++ [b, arr] := by
    rw [e3, e2, e1]
    show xdL y = _
    rw [yL, hLn, List.append_assoc]; rfl
  clear e1 e2 e3
  have u503 : xi u3 503 = nI N := by unfold xi; rw [s3.1]; exact hlg.2.1
  unfold X_BD_addRow X_BD_addRow_29
  rw [u503]
  have c1 : ((100 : Int32) ≤ nI N) = (100 ≤ N) := ni_le (a := 100) (by omega) (by omega)
  rw [c1]
  refine ⟨fun q => by omega, fun _ => ⟨b, rfl, i3, vp_in_nI (by omega) (by omega), ?_⟩⟩
  intro u4 e4
  rw [ni_cl (by omega)] at e4
  intro u5 e5
  have u503' : xi u4 503 = nI N := by rw [e4]; exact u503
  rw [u503', show nI N + (1 : Int32) = nI (N + 1) from nI_1 N] at e5
  subst e5
  subst e4
  have p5 : ∀ cc, pxT x (xs_si (xs_so u3 500 (va_up (xo u3 500) N (some b))) 503 (nI (N + 1))) cc := fun cc => p3 cc
  refine hK _ arr (by show th_si u3.1 503 _ = th_si x.1 503 _; rw [s3.1]) s3.2.1 (fun k hk => ?_) p5 L3 i3 a3 ⟨by omega, rfl, fun j hj => ?_, fun i j hi hj hij => ?_, fun j i => ?_, fun j i => ?_⟩
  · show va_up u3.2.2.1 500 _ k = _
    rw [xu_n _ _ hk, s3.2.2]
  · by_cases e : j = N
    · subst e
      rw [iu_s, iu_s, iu_s, iu_s, iu_s, iu_s]
      refine ⟨?_, ⟨i3, R3, a3, Or.inl ⟨N3.trans hL, fun i hi => ⟨?_, ?_⟩⟩⟩, I30, I31, hh, hd⟩
      · show va_up u3.2.2.1 500 (va_up (xo u3 500) j (some b)) 500 j = _
        rw [xu_s, xu_s]
      · show xdA u3 arr i = iI (if i < n then B i else 0)
        rw [if_pos hi]; exact A3 i (by omega)
      · show xdA u3 arr (n + i) = iI (if i < n then B (n + i) else 0)
        rw [if_pos hi]; exact A3 (n + i) (by omega)
    · have hlj := hlg.2.2.1 j (by omega)
      rw [iu_n e, iu_n e, iu_n e, iu_n e, iu_n e, iu_n e]
      refine ⟨?_, pxT_rA (p5 b) hlj.2.1, ?_, ?_, hlj.2.2.2.2⟩
      · show va_up u3.2.2.1 500 (va_up (xo u3 500) N (some b)) 500 j = _
        rw [xu_s, xu_n _ _ e]
        unfold xo
        rw [s3.2.2]; exact hlj.1
      · exact ((p3 b _ hlj.2.1.1.1).2.2.2.1 0).trans hlj.2.2.1
      · exact ((p3 b _ hlj.2.1.1.1).2.2.2.1 1).trans hlj.2.2.2.1
  · have fr : ∀ k, k < N → er k ≠ b := fun k hk e => hb (by rw [← e]; exact (hlg.2.2.1 k hk).2.1.1.1)
    by_cases e1 : i = N
    · by_cases e2 : j = N
      · omega
      · subst e1
        rw [iu_s, iu_n e2] at hij
        exact absurd hij.symm (fr j (by omega))
    · by_cases e2 : j = N
      · subst e2
        rw [iu_s, iu_n e1] at hij
        exact absurd hij (fr i (by omega))
      · rw [iu_n e1, iu_n e2] at hij
        exact hlg.2.2.2.1 i j (by omega) (by omega) hij
  · by_cases e : j = N
    · subst e
      rw [iu_s]
      show -99 ≤ (if i < n then B i else 0) ∧ (if i < n then B i else 0) ≤ 99
      by_cases q : i < n
      · rw [if_pos q]; exact (hok.2 i q).1
      · rw [if_neg q]; omega
    · rw [iu_n e]; exact hlg.2.2.2.2.1 j i
  · by_cases e : j = N
    · subst e
      rw [iu_s]
      show -50 ≤ (if i < n then B (n + i) else 0) ∧ (if i < n then B (n + i) else 0) ≤ 50
      by_cases q : i < n
      · rw [if_pos q]; exact (hok.2 i q).2
      · rw [if_neg q]; omega
    · rw [iu_n e]; exact hlg.2.2.2.2.2 j i

/-! feelBehind, lookBack, feelOf -/
theorem xn_L (u : xs_St) (b k : Nat) : xdL (xs_new u b k) = xdL u ++ [b] := rfl
theorem xn_K (u : xs_St) (b k c : Nat) : xdK (xs_new u b k) c = if c = b then k else xdK u c := va_upE _ _ _ _
theorem xn_R (u : xs_St) (b k f c : Nat) : xdR (xs_new u b k) f c = if c = b then none else xdR u f c := va_upE _ _ _ _
theorem xn_Ii (u : xs_St) (b k f c : Nat) : xdI (xs_new u b k) f c = if c = b then 0 else xdI u f c := va_upE _ _ _ _
theorem xnA_K (u : xs_St) (b k N c : Nat) : xdK (xs_newA u b k N) c = if c = b then k else xdK u c := va_upE _ _ _ _
theorem xnA_N (u : xs_St) (b k N c : Nat) : xdN (xs_newA u b k N) c = if c = b then N else xdN u c := va_upE _ _ _ _
theorem xnA_A (u : xs_St) (b k N c : Nat) : xdA (xs_newA u b k N) c = if c = b then (fun _ => 0) else xdA u c := va_upE _ _ _ _
theorem pxT_t {x y z : xs_St} {cc : Nat} (h : pxT x y cc) (h2 : pxT y z cc) : pxT x z cc := fun c hc => by
  obtain ⟨a1, a2, a3, a4, a5, a6⟩ := h c hc
  obtain ⟨b1, b2, b3, b4, b5, b6⟩ := h2 c a1
  exact ⟨b1, b2.trans a2, fun f hf => (b3 f hf).trans (a3 f hf), fun f => (b4 f).trans (a4 f), b5.trans a5, b6.trans a6⟩
theorem pxT_w {x y : xs_St} {cc : Nat} (h : pxT x y cc) {c2 : Nat} (h2 : cc ∉ xdL x) : pxT x y c2 := fun c hc => by
  obtain ⟨a1, a2, a3, a4, a5, a6⟩ := h c hc
  exact ⟨a1, a2, fun f _ => a3 f (Or.inr (fun e => h2 (by rw [← e]; exact hc))), a4, a5, a6⟩
theorem pxT_new {x : xs_St} {b k cc : Nat} (hb : b ∉ xdL x) : pxT x (xs_new x b k) cc := fun c hc => by
  have hne : c ≠ b := fun e => hb (by rw [← e]; exact hc)
  refine ⟨List.mem_append_left _ hc, ?_, fun f _ => ?_, fun f => ?_, rfl, rfl⟩
  · rw [xn_K, if_neg hne]
  · rw [xn_R, if_neg hne]
  · rw [xn_Ii, if_neg hne]
theorem pxT_newA {x : xs_St} {b k N cc : Nat} (hb : b ∉ xdL x) : pxT x (xs_newA x b k N) cc := fun c hc => by
  have hne : c ≠ b := fun e => hb (by rw [← e]; exact hc)
  refine ⟨List.mem_append_left _ hc, ?_, fun f _ => rfl, fun f => rfl, ?_, ?_⟩
  · rw [xnA_K, if_neg hne]
  · rw [xnA_N, if_neg hne]
  · rw [xnA_A, if_neg hne]
theorem pxT_dr {x y : xs_St} {b f cc : Nat} {v : Option Nat} (h : pxT x y cc) (hb : b ∉ xdL x) : pxT x (xs_dr y f b v) cc := fun c hc => by
  have hne : c ≠ b := fun e => hb (by rw [← e]; exact hc)
  obtain ⟨a1, a2, a3, a4, a5, a6⟩ := h c hc
  exact ⟨a1, a2, fun g hg => by rw [xq_dR, if_neg (fun q => hne q.2)]; exact a3 g hg, a4, a5, a6⟩
theorem pxT_di {x y : xs_St} {b f cc : Nat} {v : Int32} (h : pxT x y cc) (hb : b ∉ xdL x) : pxT x (xs_di y f b v) cc := fun c hc => by
  have hne : c ≠ b := fun e => hb (by rw [← e]; exact hc)
  obtain ⟨a1, a2, a3, a4, a5, a6⟩ := h c hc
  exact ⟨a1, a2, a3, fun g => by rw [xq_dI, if_neg (fun q => hne q.2)]; exact a4 g, a5, a6⟩
theorem pxT_da {x y : xs_St} {b cc : Nat} {v : Nat → Int32} (h : pxT x y cc) (hb : b ∉ xdL x) : pxT x (xs_da y b v) cc := fun c hc => by
  have hne : c ≠ b := fun e => hb (by rw [← e]; exact hc)
  obtain ⟨a1, a2, a3, a4, a5, a6⟩ := h c hc
  exact ⟨a1, a2, a3, a4, a5, by rw [xq_dA, if_neg hne]; exact a6⟩
theorem pxT_kp {x y z : xs_St} {b arr cc : Nat} (h : pxT x y cc) (hk : kp y z b arr) (hb : b ∉ xdL x) (ha : arr ∉ xdL x) : pxT x z cc := fun c hc => by
  have hne : c ≠ b := fun e => hb (by rw [← e]; exact hc)
  have hne2 : c ≠ arr := fun e => ha (by rw [← e]; exact hc)
  obtain ⟨a1, a2, a3, a4, a5, a6⟩ := h c hc
  refine ⟨by rw [hk.2.2.2.1]; exact a1, (hk.2.2.2.2.1 c).trans a2, fun f hf => (hk.2.2.2.2.2.1 f c).trans (a3 f hf), fun f => (hk.2.2.2.2.2.2.1 f c hne).trans (a4 f), (hk.2.2.2.2.2.2.2.1 c).trans a5, (hk.2.2.2.2.2.2.2.2 c hne2).trans a6⟩
/-- the numbers, references and arrays of references are the same -/
def sm (x y : xs_St) : Prop := y.1 = x.1 ∧ y.2.1 = x.2.1 ∧ y.2.2.1 = x.2.2.1
theorem sm_r (x : xs_St) : sm x x := ⟨rfl, rfl, rfl⟩
theorem sm_t {x y z : xs_St} (h : sm x y) (h2 : sm y z) : sm x z := ⟨h2.1.trans h.1, h2.2.1.trans h.2.1, h2.2.2.trans h.2.2⟩
/-- a new node, before it settles -/
theorem sx_init {x : xs_St} {b n : Nat} {r c : Option Nat} {K : xs_St → Prop} (hn : n ≤ 48) (h300 : xi x 300 = nI n) (hb : b ∉ xdL x) (h : ∀ (y : xs_St) (arr : Nat), sm x y → (∀ cc, pxT x y cc) → xdL y = xdL x ++ [b, arr] → arr ∉ xdL x → arr ≠ b → xd_is y b 3 → xd_is y arr 4 → xdN y arr = n → (∀ f, xdI y f b = 0) → xdR y 1 b = r → xdR y 2 b = c → xdR y 3 b = some arr → xdR y 4 b = none → xdR y 5 b = none → K y) : X_Feel_init_d b r c (xi (xs_new x b 3) 300) (xs_new x b 3) K := by
  have hbn : ∀ (f : Nat), xdI (xs_new x b 3) f b = 0 := fun f => by rw [xn_Ii, if_pos rfl]
  have hrn : ∀ (f : Nat), xdR (xs_new x b 3) f b = none := fun f => by rw [xn_R, if_pos rfl]
  have his : xd_is (xs_new x b 3) b 3 := ⟨List.mem_append_right _ (List.mem_singleton.mpr rfl), by rw [xn_K, if_pos rfl]⟩
  have hpx : ∀ cc, pxT x (xs_new x b 3) cc := fun cc => pxT_new hb
  have hL : xdL (xs_new x b 3) = xdL x ++ [b] := rfl
  have hsm : sm x (xs_new x b 3) := ⟨rfl, rfl, rfl⟩
  have h3 : xi (xs_new x b 3) 300 = nI n := h300
  generalize xs_new x b 3 = u at *
  rw [h3]
  unfold X_Feel_init_d
  refine ⟨his, ?_⟩
  intro u1 e1
  have i1 : xd_is u1 b 3 := by rw [e1]; exact his
  have p1 : ∀ cc, pxT x u1 cc := fun cc => by rw [e1]; exact pxT_di (hpx cc) hb
  have z1 : ∀ f, xdI u1 f b = 0 := fun f => by
    rw [e1, xq_dI]; by_cases q : f = 2 ∧ b = b
    · rw [if_pos q]
    · rw [if_neg q]; exact hbn f
  have w1 : ∀ f, xdR u1 f b = none := fun f => by rw [e1]; exact hrn f
  have l1 : xdL u1 = xdL x ++ [b] := by rw [e1]; exact hL
  have s1 : sm x u1 := by rw [e1]; exact hsm
  clear e1
  refine ⟨i1, ?_⟩
  intro u2 e2
  have i2 : xd_is u2 b 3 := by rw [e2]; exact i1
  have p2 : ∀ cc, pxT x u2 cc := fun cc => by rw [e2]; exact pxT_di (p1 cc) hb
  have z2 : ∀ f, xdI u2 f b = 0 := fun f => by
    rw [e2, xq_dI]; by_cases q : f = 3 ∧ b = b
    · rw [if_pos q]
    · rw [if_neg q]; exact z1 f
  have w2 : ∀ f, xdR u2 f b = none := fun f => by rw [e2]; exact w1 f
  have l2 : xdL u2 = xdL x ++ [b] := by rw [e2]; exact l1
  have s2 : sm x u2 := by rw [e2]; exact s1
  clear e2
  refine ⟨i2, ?_⟩
  intro u3 e3
  have i3 : xd_is u3 b 3 := by rw [e3]; exact i2
  have p3 : ∀ cc, pxT x u3 cc := fun cc => by rw [e3]; exact pxT_di (p2 cc) hb
  have z3 : ∀ f, xdI u3 f b = 0 := fun f => by
    rw [e3, xq_dI]; by_cases q : f = 4 ∧ b = b
    · rw [if_pos q]
    · rw [if_neg q]; exact z2 f
  have w3 : ∀ f, xdR u3 f b = none := fun f => by rw [e3]; exact w2 f
  have l3 : xdL u3 = xdL x ++ [b] := by rw [e3]; exact l2
  have s3 : sm x u3 := by rw [e3]; exact s2
  clear e3
  refine ⟨i3, ?_⟩
  intro u4 e4
  have i4 : xd_is u4 b 3 := by rw [e4]; exact i3
  have p4 : ∀ cc, pxT x u4 cc := fun cc => by rw [e4]; exact pxT_dr (p3 cc) hb
  have z4 : ∀ f, xdI u4 f b = 0 := fun f => by rw [e4]; exact z3 f
  have w4 : ∀ f, xdR u4 f b = none := fun f => by
    rw [e4, xq_dR]; by_cases q : f = 4 ∧ b = b
    · rw [if_pos q]
    · rw [if_neg q]; exact w3 f
  have l4 : xdL u4 = xdL x ++ [b] := by rw [e4]; exact l3
  have s4 : sm x u4 := by rw [e4]; exact s3
  clear e4
  refine ⟨i4, ?_⟩
  intro u5 e5
  have i5 : xd_is u5 b 3 := by rw [e5]; exact i4
  have p5 : ∀ cc, pxT x u5 cc := fun cc => by rw [e5]; exact pxT_dr (p4 cc) hb
  have z5 : ∀ f, xdI u5 f b = 0 := fun f => by rw [e5]; exact z4 f
  have w5 : ∀ f, xdR u5 f b = none := fun f => by
    rw [e5, xq_dR]; by_cases q : f = 5 ∧ b = b
    · rw [if_pos q]
    · rw [if_neg q]; exact w4 f
  have l5 : xdL u5 = xdL x ++ [b] := by rw [e5]; exact l4
  have s5 : sm x u5 := by rw [e5]; exact s4
  clear e5
  refine ⟨i5, ?_⟩
  intro u6 e6
  have i6 : xd_is u6 b 3 := by rw [e6]; exact i5
  have p6 : ∀ cc, pxT x u6 cc := fun cc => by rw [e6]; exact pxT_dr (p5 cc) hb
  have z6 : ∀ f, xdI u6 f b = 0 := fun f => by rw [e6]; exact z5 f
  have w6 : ∀ f, xdR u6 f b = if f = 1 then r else none := fun f => by
    rw [e6, xq_dR]; by_cases q : f = 1
    · rw [if_pos ⟨q, rfl⟩, if_pos q]
    · rw [if_neg (fun g => q g.1), if_neg q]; exact w5 f
  have l6 : xdL u6 = xdL x ++ [b] := by rw [e6]; exact l5
  have s6 : sm x u6 := by rw [e6]; exact s5
  clear e6
  refine ⟨i6, ?_⟩
  intro u7 e7
  have i7 : xd_is u7 b 3 := by rw [e7]; exact i6
  have p7 : ∀ cc, pxT x u7 cc := fun cc => by rw [e7]; exact pxT_dr (p6 cc) hb
  have z7 : ∀ f, xdI u7 f b = 0 := fun f => by rw [e7]; exact z6 f
  have w7 : ∀ f, xdR u7 f b = if f = 2 then c else if f = 1 then r else none := fun f => by
    rw [e7, xq_dR]; by_cases q : f = 2
    · rw [if_pos ⟨q, rfl⟩, if_pos q]
    · rw [if_neg (fun g => q g.1), if_neg q]; exact w6 f
  have l7 : xdL u7 = xdL x ++ [b] := by rw [e7]; exact l6
  have s7 : sm x u7 := by rw [e7]; exact s6
  clear e7
  have c0 : ((0 : Int32) ≤ nI n) = (0 ≤ n) := ni_le (a := 0) (by omega) (by omega)
  rw [c0]
  refine br1 (fun _ => ?_) (fun q => by omega)
  unfold X_Feel_init_d_49
  have c1 : (nI n < (0 : Int32)) = (n < 0) := ni_lt (b := 0) (by omega) (by omega)
  refine ⟨by rw [c1]; omega, by rw [ni_cl (by omega)]; exact hn, ?_⟩
  intro arr harr u8 e8
  rw [ni_cl (by omega)] at e8
  have hab : arr ≠ b := fun e => harr (by rw [l7, e]; exact List.mem_append_right _ (List.mem_singleton.mpr rfl))
  have hax : arr ∉ xdL x := fun q => harr (by rw [l7]; exact List.mem_append_left _ q)
  have i8 : xd_is u8 b 3 := by
    rw [e8]; exact ⟨List.mem_append_left _ i7.1, by rw [xnA_K, if_neg (Ne.symm hab)]; exact i7.2⟩
  refine ⟨i8, ?_⟩
  intro u9 e9
  subst e9
  subst e8
  refine h _ arr ⟨s7.1, s7.2.1, s7.2.2⟩ (fun cc => pxT_dr (pxT_t (p7 cc) (pxT_newA harr)) hb) ?_ hax hab i8 ⟨List.mem_append_right _ (List.mem_singleton.mpr rfl), ?_⟩ ?_ z7 ?_ ?_ ?_ ?_ ?_
  · show xdL u7 ++ [arr] = _
    rw [l7, List.append_assoc]; rfl
  · show xdK (xs_newA u7 arr 4 n) arr = 4
    rw [xnA_K, if_pos rfl]
  · show xdN (xs_newA u7 arr 4 n) arr = n
    rw [xnA_N, if_pos rfl]
  · rw [xq_dR, if_neg (fun q => by cases q.1)]; exact w7 1
  · rw [xq_dR, if_neg (fun q => by cases q.1)]; exact w7 2
  · rw [xq_dR, if_pos ⟨rfl, rfl⟩]
  · rw [xq_dR, if_neg (fun q => by cases q.1)]; exact w7 4
  · rw [xq_dR, if_neg (fun q => by cases q.1)]; exact w7 5
theorem sx_behind {x : xs_St} {n : Nat} {fx : Nat → Bool} {hd : Nat → Int} {N : Nat} {eh ed er ea : Nat → Nat} {rd wd : Nat → Nat → Int} {P : Nat → List Nat} {c j : Nat} {K : Option Nat → xs_St → Prop} (hT : txP x n fx hd) (hlg : lgX x n N eh ed er ea rd wd) (htr : trX x n fx hd N eh er rd P) (hc : xd_is x c 3) (hj : j < N) (hlen : eh j = (P c).length)
    (h : ∀ (y : xs_St) (P' : Nat → List Nat) (b : Nat), sm x y → lgX y n N eh ed er ea rd wd → trX y n fx hd N eh er rd P' → xd_is y b 3 → P' b = j :: P c → K (some b) y) : X_BD_feelBehind (some c) (some (er j)) x K := by
  have hn := hT.1
  have hnd := htr.2 c hc
  obtain ⟨⟨l, hl1, hl2⟩, -⟩ := id hnd
  unfold X_BD_feelBehind
  refine ⟨c, rfl, hc, hc, ?_⟩
  refine sx_by (o := none) l _ hl1 (fun b hb => (hl2 b hb).1) (fun b hb hrow => ?_) ?_
  · refine ⟨fun _ => ?_, fun q => by cases q⟩
    unfold X_BD_feelBehind_16 X_BD_feelBehind_27
    refine ⟨fun _ => ?_, fun q => by cases q⟩
    have hb3 := (hl2 b hb).1
    rcases (htr.2 b hb3).2 with ⟨-, h2, -⟩ | ⟨j', js, a, arr, h1, h2, h3, h4, h5, h6, h7, -⟩
    · rw [(hl2 b hb).2] at h2; cases h2
    · rw [(hl2 b hb).2] at h4
      injection h4 with h4
      subst h4
      rw [h7] at hrow
      injection hrow with hrow
      have := hlg.2.2.2.1 j' j h2 hj hrow
      subst this
      exact h x P b (sm_r x) hlg htr hb3 (by rw [h1, h6])
  · refine ⟨fun q => absurd rfl q, fun _ => ⟨fun _ => ?_, fun q => by cases q⟩⟩
    intro b hb u5 e5
    subst e5
    refine sx_init (n := n) hn.2 hT.2.1 hb (fun y arr ysm ypx yL harr hab yb yarr yN yI y1 y2 y3 y4 y5 => ?_)
    refine ⟨yb, ?_⟩
    obtain ⟨arr2, hA2⟩ := ndX_A hnd
    obtain ⟨r0, a0, w0, hr1, hr2⟩ := ndX_R hlg hnd
    have hbc : b ≠ c := fun e => hb (by rw [e]; exact hc.1)
    have hlj := hlg.2.2.1 j hj
    have hPl := ndX_l hlg hnd
    have yc := pxT_is (ypx b) hc
    have hPl2 : (P c).length < 40 := by have := hlj.2.2.2.2.1; omega
    have yT : txP y n fx hd := txP_f hT ysm.1
    refine sx_settle (c := c) (arr2 := arr2) (r := er j) (ra := ea j) (a0 := r0) (a1 := a0) (s := rd j) (s0 := rd0 rd (P c)) (ga := (flG n fx hd rd (P c)).1) yT yb yc y2 y1 (pxT_rA (ypx b) hlj.2.1) ?_ (pxT_rA (ypx b) hr2) (pxT_nA (ypx b) hc.1 hA2) y3 yarr yN yI (fun e => harr (by rw [← e]; exact hA2.2.1.1)) (fun e => harr (by rw [← e]; exact hlj.2.1.2.2.1.1)) (fun e => harr (by rw [← e]; exact hr2.2.2.1.1)) ?_ (fun i => hlg.2.2.2.2.1 j i) ?_ (fun z g hg zk zA z2 z3 z4 => ?_)
    · rw [(ypx b c hc.1).2.2.1 1 (Or.inl (by decide))]; exact hr1
    · intro i hi
      have q := flG_b (fx := fx) (rd := rd) (fun i hi => (hT.2.2 i (by omega)).2.2.1) hlg.2.2.2.2.1 (P c) i hi
      omega
    · intro i
      cases e : P c with
      | nil => rw [rd0]; omega
      | cons j' js' => rw [rd0]; exact hlg.2.2.2.2.1 j' i
    · have zc : xd_is z c 3 := (kp_is zk).mpr yc
      have zb : xd_is z b 3 := (kp_is zk).mpr yb
      refine ⟨c, rfl, zc, zc, b, rfl, zb, ?_⟩
      intro u2 e2
      refine ⟨by rw [e2]; exact zc, ?_⟩
      intro u3 e3
      have zpx : ∀ cc, pxT x z cc := fun cc => pxT_kp (ypx cc) zk hb harr
      have zR4 : xdR z 4 c = xdR x 4 c := ((zk.2.2.2.2.2.1 4 c).trans ((ypx b c hc.1).2.2.1 4 (Or.inr (Ne.symm hbc))))
      have zsm : sm x z := ⟨zk.1.trans ysm.1, zk.2.1.trans ysm.2.1, zk.2.2.1.trans ysm.2.2⟩
      have u3R : ∀ f c', xdR u3 f c' = if f = 4 ∧ c' = c then some b else if f = 5 ∧ c' = b then xdR x 4 c else xdR z f c' := fun f c' => by
        rw [e3, xq_dR]
        by_cases q : f = 4 ∧ c' = c
        · rw [if_pos q, if_pos q]
        · rw [if_neg q, if_neg q, e2, xq_dR]
          by_cases q2 : f = 5 ∧ c' = b
          · rw [if_pos q2, if_pos q2]; exact zR4
          · rw [if_neg q2, if_neg q2]
      have u3sm : sm x u3 := by rw [e3, e2]; exact zsm
      have u3px : pxT x u3 c := fun c' hc' => by
        obtain ⟨t1, t2, t3, t4, t5, t6⟩ := zpx c c' hc'
        refine ⟨by rw [e3, e2]; exact t1, by rw [e3, e2]; exact t2, fun f hf => ?_, fun f => by rw [e3, e2]; exact t4 f, by rw [e3, e2]; exact t5, by rw [e3, e2]; exact t6⟩
        rw [u3R, if_neg (fun q => hf.elim (fun g => g q.1) (fun g => g q.2)), if_neg (fun q => hb (by rw [← q.2]; exact hc'))]
        exact t3 f hf
      have u3is : ∀ q k, xd_is u3 q k ↔ xd_is z q k := fun q k => by rw [e3, e2]; exact Iff.rfl
      have u3L : xdL u3 = xdL x ++ [b, arr] := by rw [e3, e2]; exact (zk.2.2.2.1).trans yL
      have u3I : ∀ f q, xdI u3 f q = xdI z f q := fun f q => by rw [e3, e2]; rfl
      have u3nA : nA u3 b arr n g := by
        obtain ⟨t1, t2, t3⟩ := zA
        refine ⟨by rw [u3R, if_neg (fun q => by cases q.1), if_neg (fun q => by cases q.1)]; exact t1, (u3is _ _).mpr t2, ?_⟩
        rw [e3, e2]; exact t3
      clear e3 e2
      have hP' : ∀ c', xd_is x c' 3 → iu P b (j :: P c) c' = P c' := fun c' hc' => iu_n (fun e => hb (by rw [← e]; exact hc'.1))
      refine h u3 (iu P b (j :: P c)) b u3sm (pxT_lg u3px (by unfold xi; rw [u3sm.1]) (by unfold xo; rw [u3sm.2.2]) hlg) ⟨?_, fun c' hc' => ?_⟩ ((u3is _ _).mpr zb) (iu_s _ _ _)
      · obtain ⟨st, g1, g2, g3⟩ := htr.1
        exact ⟨st, by unfold xr; rw [u3sm.2.1]; exact g1, pxT_is u3px g2, (hP' st g2).trans g3⟩
      · have hmem : c' ∈ xdL x ++ [b, arr] := by rw [← u3L]; exact hc'.1
        rcases List.mem_append.mp hmem with hin | hin
        · have hx3 : xd_is x c' 3 := ⟨hin, (u3px c' hin).2.1.symm.trans hc'.2⟩
          by_cases e : c' = c
          · subst e
            refine ⟨⟨b :: l, ?_, fun q hq => ?_⟩, pxT_nd2 u3px htr hx3 hP' (Nat.le_refl N) (fun _ _ => ⟨rfl, rfl, rfl⟩)⟩
            · rw [lkX]
              refine ⟨by rw [u3R, if_pos ⟨rfl, rfl⟩], ?_⟩
              rw [u3R, if_neg (fun q => by cases q.1), if_pos ⟨rfl, rfl⟩]
              exact pxT_lk u3px l _ (fun q hq => (hl2 q hq).1) hl1
            · rcases List.mem_cons.mp hq with rfl | hq
              · refine ⟨(u3is _ _).mpr zb, ?_⟩
                rw [u3R, if_neg (fun q => by cases q.1), if_neg (fun q => by cases q.1), zk.2.2.2.2.2.1]; exact y2
              · have g := hl2 q hq
                exact ⟨pxT_is u3px g.1, by rw [(u3px q g.1.1).2.2.1 2 (Or.inl (by decide))]; exact g.2⟩
          · exact pxT_nd u3px htr hx3 e hP' (Nat.le_refl N) (fun _ _ => ⟨rfl, rfl, rfl⟩)
        · rcases List.mem_cons.mp hin with rfl | hin
          · refine ⟨⟨[], ?_, fun q hq => by cases hq⟩, Or.inr ⟨j, P c, c, arr, iu_s _ _ _, hj, hlen, ?_, pxT_is u3px hc, hP' c hc, ?_, ?_, ?_, ?_, ?_⟩⟩
            · rw [lkX, u3R, if_neg (fun q => hbc q.2), if_neg (fun q => by cases q.1), zk.2.2.2.2.2.1]; exact y4
            · rw [u3R, if_neg (fun q => by cases q.1), if_neg (fun q => by cases q.1), zk.2.2.2.2.2.1]; exact y2
            · rw [u3R, if_neg (fun q => by cases q.1), if_neg (fun q => by cases q.1), zk.2.2.2.2.2.1]; exact y1
            · rw [flG, ← hg]; exact u3nA
            · rw [u3I, flG]; exact z2
            · rw [u3I, z3, hg]; rfl
            · rw [u3I, z4, hg]; rfl
          · rcases List.mem_cons.mp hin with rfl | hin
            · exfalso
              have g := (u3is _ _).mpr zA.2.1
              have := g.2.symm.trans hc'.2
              omega
            · cases hin
theorem sx_lookB {x : xs_St} {n N : Nat} {eh ed er ea : Nat → Nat} {rd wd : Nat → Nat → Int} {a : Int32} {K : Int32 → xs_St → Prop} (hlg : lgX x n N eh ed er ea rd wd) (hok : lgOk eh ed N)
    (h : ∀ f : Nat → Option Nat, (∀ k, k < thr eh ed a.toInt N → f k = some (er (qF eh ed a.toInt k N))) → K (nI (thr eh ed a.toInt N)) (xs_so x 501 f)) (h0 : thr eh ed a.toInt N = 0 → K (nI 0) x) : X_BD_lookBack a x K := by
  have hra := ti_r a
  unfold X_BD_lookBack
  have fin : ∀ r, r ≤ N → (∀ j, r ≤ j → j < N → ¬ (ed j : Int) ≤ a.toInt) → ∀ u, ((u = x ∧ thr eh ed a.toInt r = 0) ∨ ∃ f : Nat → Option Nat, u = xs_so x 501 f ∧ ∀ k, k < thr eh ed a.toInt r → f k = some (er (qF eh ed a.toInt k r))) → K (nI (thr eh ed a.toInt r)) u := by
    intro r hr hcut u hu
    have e1 := thr_cut (eh := eh) N hr hcut
    rcases hu with ⟨rfl, e0⟩ | ⟨f, rfl, hf⟩
    · have := h0 (e1.trans e0)
      rw [e0]; exact this
    · have := h f (fun k hk => by rw [qF_cut N hr hcut]; exact hf k (by omega))
      rw [e1] at this; exact this
  refine lqe4 (F := X_BD_lookBack_4_lp K) (G := X_BD_lookBack_4 K) (fun _ _ _ _ _ => rfl) (fun d a1 a2 a3 u => a1 = a ∧ ∃ r, a3 = nI r ∧ r + d = N ∧ a2 = nI (thr eh ed a.toInt r) ∧ (∀ j, j < r → (ed j : Int) ≤ a.toInt) ∧ ((u = x ∧ thr eh ed a.toInt r = 0) ∨ ∃ f : Nat → Option Nat, u = xs_so x 501 f ∧ ∀ k, k < thr eh ed a.toInt r → f k = some (er (qF eh ed a.toInt k r)))) ?_ N _ _ _ _ ⟨rfl, 0, rfl, by omega, rfl, fun j hj => by omega, Or.inl ⟨rfl, rfl⟩⟩
  rintro k d a1 a2 a3 u ⟨rfl, r, rfl, hd, rfl, hall, hu⟩ ih
  have u1 : u.1 = x.1 := by rcases hu with ⟨rfl, -⟩ | ⟨f, rfl, -⟩ <;> rfl
  have uD : u.2.2.2 = x.2.2.2 := by rcases hu with ⟨rfl, -⟩ | ⟨f, rfl, -⟩ <;> rfl
  have u500 : xo u 500 = xo x 500 := by
    rcases hu with ⟨rfl, -⟩ | ⟨f, rfl, -⟩
    · rfl
    · show va_up x.2.2.1 501 f 500 = _
      rw [xu_n _ _ (by decide)]
  have uI : ∀ f c, xdI u f c = xdI x f c := fun f c => by unfold xdI; rw [uD]
  have uis : ∀ c k, xd_is u c k ↔ xd_is x c k := fun c k => by unfold xd_is xdL xdK; rw [uD]
  have u503 : xi u 503 = nI N := by unfold xi; rw [u1]; exact hlg.2.1
  have hN := hlg.1
  have hth := thr_all (eh := eh) r hall
  have hhc := hcn_le r (fun j hj => hok.1 j (by omega))
  unfold X_BD_lookBack_4 X_BD_lookBack_34
  rw [u503, ni_le (by omega) (by omega)]
  refine br1 (fun q => ?_) (fun q => ⟨vp_in_nI (by omega) (by omega), ?_⟩)
  · exact fin r (by omega) (fun j h1 h2 => by omega) u hu
  · intro y1 e1
    have hlr := hlg.2.2.1 r (by omega)
    have e1 : y1 = some (er r) := by rw [e1, ni_cl (by omega), u500]; exact hlr.1
    subst e1
    refine ⟨fun q2 => (by cases q2), fun _ => ⟨er r, rfl, (uis _ _).mpr hlr.2.1.1, ?_⟩⟩
    have i1 : xdI u 1 (er r) = nI (ed r) := (uI 1 (er r)).trans hlr.2.2.2.1
    have i0 : xdI u 0 (er r) = nI (eh r) := (uI 0 (er r)).trans hlr.2.2.1
    have h40 := hlr.2.2.2.2.1
    have h999 := hlr.2.2.2.2.2
    rw [i1, ti_le, ti_nI (by omega)]
    refine br1 (fun q2 => ⟨er r, rfl, (uis _ _).mpr hlr.2.1.1, ?_⟩) (fun q2 => ?_)
    · rw [i0]
      have c0 : (nI (eh r) < (0 : Int32)) = (eh r < 0) := ni_lt (b := 0) (by omega) (by omega)
      rw [c0]
      refine br1 (fun q3 => by omega) (fun q3 => ⟨er r, rfl, (uis _ _).mpr hlr.2.1.1, ?_⟩)
      rw [i0]
      have c1 : ((40 : Int32) ≤ nI (eh r)) = (40 ≤ eh r) := ni_le (a := 40) (by omega) (by omega)
      rw [c1]
      refine br1 (fun q4 => by omega) (fun q4 => ⟨er r, rfl, (uis _ _).mpr hlr.2.1.1, er r, rfl, (uis _ _).mpr hlr.2.1.1, ?_⟩)
      rw [i0]
      refine ⟨vp_in_nI (by omega) (by omega), ?_⟩
      intro u6 e6
      rw [ni_cl (by omega)] at e6
      have hu6 : ∃ f : Nat → Option Nat, u6 = xs_so x 501 f ∧ ∀ k, k < thr eh ed a1.toInt (r + 1) → f k = some (er (qF eh ed a1.toInt k (r + 1))) := by
        have hok1 := hok.1 r (by omega)
        have base : ∀ f0 : Nat → Option Nat, (∀ k, k < thr eh ed a1.toInt r → f0 k = some (er (qF eh ed a1.toInt k r))) → ∀ k, k < thr eh ed a1.toInt (r + 1) → va_up f0 (eh r) (some (er r)) k = some (er (qF eh ed a1.toInt k (r + 1))) := by
          intro f0 hf0 k hk
          rw [thr, if_pos q2, hth] at hk
          rw [qF]
          by_cases e : k = eh r
          · subst e; rw [xu_s, if_pos ⟨rfl, q2⟩]
          · rw [xu_n _ _ e, if_neg (fun g => e g.1.symm)]
            exact hf0 k (by omega)
        rcases hu with ⟨rfl, e0⟩ | ⟨f, rfl, hf⟩
        · exact ⟨_, e6, base _ (fun k hk => by omega)⟩
        · refine ⟨va_up f (eh r) (some (er r)), ?_, base f hf⟩
          rw [e6]
          show (x.1, x.2.1, va_up (va_up x.2.2.1 501 f) 501 (va_up (va_up x.2.2.1 501 f 501) (eh r) (some (er r))), x.2.2.2) = _
          rw [bx_uu, xu_s]; rfl
      obtain ⟨f6, hf6, hf6'⟩ := hu6
      have uis6 : ∀ c k, xd_is u6 c k ↔ xd_is x c k := fun c k => by rw [hf6]; exact Iff.rfl
      have i06 : xdI u6 0 (er r) = nI (eh r) := by rw [hf6]; exact hlr.2.2.1
      refine ⟨er r, rfl, (uis6 _ _).mpr hlr.2.1.1, ?_⟩
      rw [i06, ni_lt (by omega) (by omega)]
      have go : ∀ z : Nat, z = thr eh ed a1.toInt (r + 1) → X_BD_lookBack_86 K k a1 (nI r) (nI z) u6 := by
        intro z hz
        unfold X_BD_lookBack_86 X_BD_lookBack_87
        intro x3 e3
        subst e3
        refine ih (d - 1) _ _ _ _ (by omega) ⟨rfl, r + 1, nI_1 r, by omega, by rw [hz], fun j hj => ?_, Or.inr ⟨f6, hf6, hf6'⟩⟩
        by_cases e : j = r
        · subst e; exact q2
        · exact hall j (by omega)
      refine br1 (fun q5 => go _ (by rw [thr, if_pos q2]; omega)) (fun q5 => ⟨er r, rfl, (uis6 _ _).mpr hlr.2.1.1, ?_⟩)
      rw [i06, show nI (eh r) + (1 : Int32) = nI (eh r + 1) from nI_1 _]
      exact go _ (by rw [thr, if_pos q2]; omega)
    · refine fin r (by omega) (fun j h1 h2 h3 => q2 ?_) u hu
      have := hok.2 r j h1 h2
      omega
/-- the numbers and references stay; of the arrays of references 501 may change -/
def fF (x y : xs_St) : Prop := y.1 = x.1 ∧ y.2.1 = x.2.1 ∧ ∀ k, k ≠ 501 → xo y k = xo x k
theorem fF_r (x : xs_St) : fF x x := ⟨rfl, rfl, fun _ _ => rfl⟩
theorem fF_t {x y z : xs_St} (h : fF x y) (h2 : fF y z) : fF x z := ⟨h2.1.trans h.1, h2.2.1.trans h.2.1, fun k hk => (h2.2.2 k hk).trans (h.2.2 k hk)⟩
theorem fF_sm {x y : xs_St} (h : sm x y) : fF x y := ⟨h.1, h.2.1, fun k _ => by unfold xo; rw [h.2.2]⟩
theorem fF_so (x : xs_St) (f : Nat → Option Nat) : fF x (xs_so x 501 f) := ⟨rfl, rfl, fun k hk => xu_n _ _ hk⟩
theorem lgX_so {x : xs_St} {n N : Nat} {eh ed er ea : Nat → Nat} {rd wd : Nat → Nat → Int} {f : Nat → Option Nat} (h : lgX x n N eh ed er ea rd wd) : lgX (xs_so x 501 f) n N eh ed er ea rd wd := by
  obtain ⟨g1, g2, g3, g4⟩ := h
  refine ⟨g1, g2, fun j hj => ?_, g4⟩
  obtain ⟨q1, q2⟩ := g3 j hj
  refine ⟨?_, q2⟩
  show va_up x.2.2.1 501 f 500 j = _
  rw [xu_n _ _ (by decide)]; exact q1
theorem lkX_so {x : xs_St} {f : Nat → Option Nat} : ∀ (l : List Nat) (o : Option Nat), lkX x o l → lkX (xs_so x 501 f) o l := by
  intro l
  induction l with
  | nil => intro o h; exact h
  | cons b l ih => intro o h; rw [lkX] at h ⊢; exact ⟨h.1, ih _ h.2⟩
theorem trX_so {x : xs_St} {n : Nat} {fx : Nat → Bool} {hd : Nat → Int} {N : Nat} {eh er : Nat → Nat} {rd : Nat → Nat → Int} {P : Nat → List Nat} {f : Nat → Option Nat} (h : trX x n fx hd N eh er rd P) : trX (xs_so x 501 f) n fx hd N eh er rd P := by
  refine ⟨h.1, fun c hc => ?_⟩
  obtain ⟨⟨l, h1, h2⟩, h3⟩ := h.2 c hc
  exact ⟨⟨l, lkX_so l _ h1, h2⟩, h3⟩
/-- one step along the hours -/
theorem sx_step {x : xs_St} {n : Nat} {fx : Nat → Bool} {hd : Nat → Int} {N : Nat} {eh ed er ea : Nat → Nat} {rd wd : Nat → Nat → Int} {P : Nat → List Nat} {c i : Nat} {t : Int} {K : Option Nat → xs_St → Prop} (hT : txP x n fx hd) (hlg : lgX x n N eh ed er ea rd wd) (hok : lgOk eh ed N) (htr : trX x n fx hd N eh er rd P) (hc : xd_is x c 3) (hi : i < thr eh ed t N) (hP : P c = pthc (fun h => qF eh ed t h N) i) (h501 : xo x 501 i = some (er (qF eh ed t i N)))
    (h : ∀ (y : xs_St) (P' : Nat → List Nat) (b : Nat), sm x y → lgX y n N eh ed er ea rd wd → trX y n fx hd N eh er rd P' → xd_is y b 3 → P' b = pthc (fun h => qF eh ed t h N) (i + 1) → K (some b) y) : X_BD_feelBehind (some c) (xo x 501 i) x K := by
  have hq := qF_ok hok hi
  rw [h501]
  refine sx_behind hT hlg htr hc hq.1 (by rw [hq.2.1, hP, pthc_l]) (fun y P' b h1 h2 h3 h4 h5 => h y P' b h1 h2 h3 h4 ?_)
  rw [h5, hP]; rfl
theorem thr_40 {x : xs_St} {n N : Nat} {eh ed er ea : Nat → Nat} {rd wd : Nat → Nat → Int} (hlg : lgX x n N eh ed er ea rd wd) (t : Int) : thr eh ed t N ≤ 40 := by
  rcases Nat.lt_or_ge 40 (thr eh ed t N) with q | q
  · obtain ⟨j, h1, h2, -⟩ := thr_has N 40 q
    have := (hlg.2.2.1 j h1).2.2.2.2.1
    omega
  · exact q
theorem sx_feelOf {x : xs_St} {n : Nat} {fx : Nat → Bool} {hd : Nat → Int} {N : Nat} {eh ed er ea : Nat → Nat} {rd wd : Nat → Nat → Int} {P : Nat → List Nat} {a2 a3 : Int32} {K : Option Nat → xs_St → Prop} (hT : txP x n fx hd) (hlg : lgX x n N eh ed er ea rd wd) (hok : lgOk eh ed N) (htr : trX x n fx hd N eh er rd P)
    (k0 : ¬ (0 ≤ a2.toInt ∧ a2.toInt < thr eh ed a3.toInt N) → ∀ (y : xs_St) (P' : Nat → List Nat), fF x y → lgX y n N eh ed er ea rd wd → trX y n fx hd N eh er rd P' → K none y)
    (k1 : ∀ h : Nat, a2 = nI h → h < thr eh ed a3.toInt N → ∀ (y : xs_St) (P' : Nat → List Nat) (b : Nat), fF x y → lgX y n N eh ed er ea rd wd → trX y n fx hd N eh er rd P' → xd_is y b 3 → P' b = pthc (fun h => qF eh ed a3.toInt h N) (h + 1) → K (some b) y) : X_BD_feelOf a2 a3 x K := by
  have h40 := thr_40 hlg a3.toInt
  unfold X_BD_feelOf X_BD_feelOf_13
  rw [ti_lt, tt_0]
  refine br1 (fun q => k0 (by omega) x P (fF_r x) hlg htr) (fun q => ?_)
  refine sx_lookB hlg hok (fun f hf => ?_) (fun e0 => ?_)
  · rw [ti_lt, ti_nI (by omega)]
    refine br1 (fun q2 => ?_) (fun q2 => k0 (by omega) _ P (fF_so x f) (lgX_so hlg) (trX_so htr))
    obtain ⟨hh, ehh⟩ := Int.eq_ofNat_of_zero_le (Int.not_lt.mp q)
    have ea2 := ti_of ehh
    subst ea2
    rw [ti_nI (by omega)] at q2
    obtain ⟨st, s1, s2, s3⟩ := htr.1
    refine ⟨hh + 2, by omega, ?_⟩
    have e502 : xr (xs_so x 501 f) 502 = some st := s1
    rw [e502]
    have h501 : ∀ k, k < thr eh ed a3.toInt N → xo (xs_so x 501 f) 501 k = some (er (qF eh ed a3.toInt k N)) := fun k hk => by
      show va_up x.2.2.1 501 f 501 k = _
      rw [xu_s]; exact hf k hk
    refine lq4 (F := X_BD_feelOf_24_lp K) (G := X_BD_feelOf_24 K) (fun _ _ _ _ _ => rfl) (fun d b1 b2 b3 u => b1 = nI hh ∧ fF x u ∧ (∀ k, k < thr eh ed a3.toInt N → xo u 501 k = some (er (qF eh ed a3.toInt k N))) ∧ lgX u n N eh ed er ea rd wd ∧ ∃ (P' : Nat → List Nat) (c i : Nat), b2 = some c ∧ b3 = nI i ∧ i + d = hh + 1 ∧ trX u n fx hd N eh er rd P' ∧ xd_is u c 3 ∧ P' c = pthc (fun h => qF eh ed a3.toInt h N) i) ?_ (hh + 2) (hh + 1) _ _ _ _ (by omega) ⟨rfl, fF_so x f, h501, lgX_so hlg, P, st, 0, rfl, rfl, by omega, trX_so htr, s2, s3⟩
    rintro k d b1 b2 b3 u ⟨rfl, hfu, u501, ulg, P', c, i, rfl, rfl, hd, utr, uc, uP⟩ ih
    unfold X_BD_feelOf_24 X_BD_feelOf_59
    rw [ni_lt (by omega) (by omega)]
    refine br1 (fun q3 => ?_) (fun q3 => ?_)
    · have : i = hh + 1 := by omega
      subst this
      exact k1 hh rfl (by omega) u P' c hfu ulg utr uc uP
    · have c1 : ((40 : Int32) ≤ nI i) = (40 ≤ i) := ni_le (a := 40) (by omega) (by omega)
      rw [c1]
      refine br1 (fun q4 => by omega) (fun q4 => ⟨vp_in_nI (by omega) (by omega), ?_⟩)
      intro y1 e1
      rw [ni_cl (by omega)] at e1
      subst e1
      refine sx_step (t := a3.toInt) (txP_f hT hfu.1) ulg hok utr uc (by omega) uP (u501 i (by omega)) (fun y P2 b g1 g2 g3 g4 g5 => ?_)
      intro x5 e5
      subst e5
      refine ih (d - 1) _ _ _ _ (by omega) ⟨rfl, fF_t hfu (fF_sm g1), fun k hk => ?_, g2, P2, b, i + 1, rfl, nI_1 i, by omega, g3, g4, g5⟩
      unfold xo
      rw [g1.2.2]; exact u501 k hk
  · rw [ti_lt, ti_nI (by omega)]
    refine br1 (fun q2 => by omega) (fun q2 => k0 (by omega) x P (fF_r x) hlg htr)

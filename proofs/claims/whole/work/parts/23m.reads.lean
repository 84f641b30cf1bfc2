/-! text: line by line -/
def wI (p0 p1 p2 : Bool) : Int32 := nI ((if p0 = true then 1 else 0) + (if p1 = true then 2 else 0) + (if p2 = true then 4 else 0))
def tld (c : Nat) (p0 p1 p2 : Bool) : Prop := (c = 0 ∧ p0 = true) ∨ (c = 1 ∧ p1 = true) ∨ (c = 2 ∧ p2 = true)
def tooM (c li A : Nat) (p0 p1 p2 : Bool) : Prop := li = 24 ∨ tld c p0 p1 p2 ∨ (c = 5 ∧ A = 6)
def wIn (c : Nat) (p0 p1 p2 : Bool) : Int32 := wI (p0 || decide (c = 0)) (p1 || decide (c = 1)) (p2 || decide (c = 2))
def lnK (kd c : Nat) : Prop := (kd = 14 ∧ c = 0) ∨ (kd = 15 ∧ c = 1) ∨ (kd = 16 ∧ c = 2) ∨ (kd = 10 ∧ c = 3) ∨ (kd = 12 ∧ c = 4) ∨ (kd = 17 ∧ c = 5)
theorem wI_b (p0 p1 p2 : Bool) : ((((wI p0 p1 p2) >>> ((nI 0) &&& 31)) &&& (1 : Int32)) = (1 : Int32) ↔ p0 = true) ∧ ((((wI p0 p1 p2) >>> ((nI 1) &&& 31)) &&& (1 : Int32)) = (1 : Int32) ↔ p1 = true) ∧ ((((wI p0 p1 p2) >>> ((nI 2) &&& 31)) &&& (1 : Int32)) = (1 : Int32) ↔ p2 = true) ∧ ((wI p0 p1 p2) ||| ((1 : Int32) <<< ((nI 0) &&& 31))) = wIn 0 p0 p1 p2 ∧ ((wI p0 p1 p2) ||| ((1 : Int32) <<< ((nI 1) &&& 31))) = wIn 1 p0 p1 p2 ∧ ((wI p0 p1 p2) ||| ((1 : Int32) <<< ((nI 2) &&& 31))) = wIn 2 p0 p1 p2 := by
  cases p0 <;> cases p1 <;> cases p2 <;> decide
theorem wI_n {c : Nat} (hc : 3 ≤ c) (p0 p1 p2 : Bool) : wIn c p0 p1 p2 = wI p0 p1 p2 := by
  unfold wIn
  rw [decide_eq_false (by omega), decide_eq_false (by omega), decide_eq_false (by omega), Bool.or_false, Bool.or_false, Bool.or_false]
theorem mx_161 {u : th_St} {c li A pl : Nat} {p0 p1 p2 : Bool} {K : Int32 → th_St → Prop} {k51 : Int32 → Int32 → th_St → Prop} (hc : c ≤ 5) (hli : li ≤ 24) (hA6 : A ≤ 6) (h25 : u.1 25 = nI pl) (h15 : u.2.2.1 15 1 = nI A)
    (hb3 : tooM c li A p0 p1 p2 → ∀ z, fM u z 3 pl → K (-1) z) (hgo : ¬ tooM c li A p0 p1 p2 → M_read_248 K k51 (nI li) (nI c) (wIn c p0 p1 p2) u) : M_read_161 K k51 (nI li) (wI p0 p1 p2) (nI c) u := by
  have c0 : (nI c < (0 : Int32)) = (c < 0) := ni_lt (b := 0) (by omega) (by omega)
  have c0' : ((0 : Int32) ≤ nI c) = (0 ≤ c) := ni_le (a := 0) (by omega) (by omega)
  have c24 : (nI li = (24 : Int32)) = (li = 24) := ni_eq (b := 24) (by omega) (by omega)
  have c3 : ((3 : Int32) ≤ nI c) = (3 ≤ c) := ni_le (a := 3) (by omega) (by omega)
  have c5 : (nI c = (5 : Int32)) = (c = 5) := c_lit (z := 5) (by omega) (by omega)
  obtain ⟨w0, w1, w2, v0, v1, v2⟩ := wI_b p0 p1 p2
  have bad : tooM c li A p0 p1 p2 → M_read_202 K k51 (nI li) (wI p0 p1 p2) (nI c) u := by
    intro ht
    unfold M_read_202 M_read_207 M_read_218 M_read_228
    rw [c0, c0']
    exact ⟨fun g => by omega, fun _ => ⟨fun g => absurd g (by decide), fun _ => ⟨fun _ => mx_bad h25 (fun z zf z28 z29 => hb3 ht z ⟨zf, z28, z29⟩), fun g => absurd (Nat.zero_le _) g⟩⟩⟩
  have good : ¬ tooM c li A p0 p1 p2 → M_read_206 K k51 (nI li) (wI p0 p1 p2) (nI c) u := by
    intro ht
    have hg := hgo ht
    unfold M_read_206 M_read_207
    rw [c0, c3]
    refine ⟨fun g => by omega, fun _ => ⟨fun _ => br1 (fun q => ?_) (fun q => ?_), fun g => absurd rfl g⟩⟩
    · rw [wI_n q] at hg; exact hg
    · rcases (show c = 0 ∨ c = 1 ∨ c = 2 by omega) with rfl | rfl | rfl
      · rw [v0]; exact hg
      · rw [v1]; exact hg
      · rw [v2]; exact hg
  have g186 : ¬ li = 24 → ¬ tld c p0 p1 p2 → M_read_186 K k51 (nI li) (wI p0 p1 p2) (nI c) u := by
    intro h1 h2
    unfold M_read_186
    rw [c5]
    refine br2 (fun q => good (fun ht => ?_)) (fun q => ⟨vp_in_nI (n := 1) (by omega) (by omega), fun y1 e1 => ?_⟩)
    · rcases ht with g | g | g
      · exact h1 g
      · exact h2 g
      · exact q g.1
    · have e1 : y1 = nI A := by rw [e1]; exact h15
      subst e1
      have c6 : (nI A = (6 : Int32)) = (A = 6) := c_lit (z := 6) (by omega) (by omega)
      rw [c6]
      refine br2 (fun q2 => good (fun ht => ?_)) (fun q2 => bad (Or.inr (Or.inr ⟨q, q2⟩)))
      rcases ht with g | g | g
      · exact h1 g
      · exact h2 g
      · exact q2 g.2
  unfold M_read_161
  rw [c0, c24, c3]
  refine ⟨fun g => by omega, fun _ => br1 (fun q => bad (Or.inl q)) (fun q => br1 (fun q2 => g186 q (fun g => by unfold tld at g; omega)) (fun q2 => ?_))⟩
  rcases (show c = 0 ∨ c = 1 ∨ c = 2 by omega) with rfl | rfl | rfl
  · refine br1 (fun q3 => bad (Or.inr (Or.inl (Or.inl ⟨rfl, w0.mp q3⟩)))) (fun q3 => g186 q (fun g => ?_))
    rcases g with ⟨-, g⟩ | ⟨g, -⟩ | ⟨g, -⟩
    · exact q3 (w0.mpr g)
    · omega
    · omega
  · refine br1 (fun q3 => bad (Or.inr (Or.inl (Or.inr (Or.inl ⟨rfl, w1.mp q3⟩))))) (fun q3 => g186 q (fun g => ?_))
    rcases g with ⟨g, -⟩ | ⟨-, g⟩ | ⟨g, -⟩
    · omega
    · exact q3 (w1.mpr g)
    · omega
  · refine br1 (fun q3 => bad (Or.inr (Or.inl (Or.inr (Or.inr ⟨rfl, w2.mp q3⟩))))) (fun q3 => g186 q (fun g => ?_))
    rcases g with ⟨g, -⟩ | ⟨g, -⟩ | ⟨-, g⟩
    · omega
    · omega
    · exact q3 (w2.mpr g)
theorem mx_51 {t : TK} {u : th_St} {k li A : Nat} {p0 p1 p2 : Bool} {K : Int32 → th_St → Prop} {k51 : Int32 → Int32 → th_St → Prop} (hA : kA t) (hk : k ≤ kT t) (hc : cM t u k) (hli : li ≤ 24) (hA6 : A ≤ 6) (h15 : u.2.2.1 15 1 = nI A)
    (h0 : kK t k = 0 → kL t ≤ 400 → K (nI li) u) (hb1 : (∀ c, ¬ lnK (kK t k) c) → ¬ (kK t k = 0 ∧ kL t ≤ 400) → ∀ z, fM u z 1 (kP t k) → K (-1) z)
    (hb3 : ∀ c, lnK (kK t k) c → tooM c li A p0 p1 p2 → ∀ z, fM u z 3 (kP t k) → K (-1) z)
    (hgo : ∀ c, lnK (kK t k) c → ¬ tooM c li A p0 p1 p2 → M_read_248 K k51 (nI li) (nI c) (wIn c p0 p1 p2) u) : M_read_51 K k51 (nI li) (wI p0 p1 p2) u := by
  have w10 := m_word hA hk hc (w := 10) (by decide) (by decide)
  have w12 := m_word hA hk hc (w := 12) (by decide) (by decide)
  have w17 := m_word hA hk hc (w := 17) (by decide) (by decide)
  have w14 := m_word hA hk hc (w := 14) (by decide) (by decide)
  have w15 := m_word hA hk hc (w := 15) (by decide) (by decide)
  have w16 := m_word hA hk hc (w := 16) (by decide) (by decide)
  have go : ∀ c, lnK (kK t k) c → M_read_161 K k51 (nI li) (wI p0 p1 p2) (nI c) u := fun c hl => mx_161 (by unfold lnK at hl; omega) hli hA6 hc.2.1 h15 (hb3 c hl) (hgo c hl)
  have none : kK t k ≠ 10 → kK t k ≠ 12 → kK t k ≠ 14 → kK t k ≠ 15 → kK t k ≠ 16 → kK t k ≠ 17 → ¬ (kK t k = 0 ∧ kL t ≤ 400) → M_read_161 K k51 (nI li) (wI p0 p1 p2) (-1) u := by
    intro q10 q12 q14 q15 q16 q17 q0
    unfold M_read_161 M_read_206 M_read_207 M_read_218 M_read_228
    exact ⟨fun _ => ⟨fun _ => ⟨fun g => absurd g (by decide), fun _ => mx_bad hc.2.1 (fun z zf z28 z29 => hb1 (fun c hl => by unfold lnK at hl; omega) q0 z ⟨zf, z28, z29⟩)⟩, fun g => absurd (by decide) g⟩, fun g => absurd (by decide) g⟩
  unfold M_read_51
  rw [show (439856162148 : Int64) = wC 10 from by decide, show (448545973363 : Int64) = wC 12 from by decide, show (418430153325 : Int64) = wC 17 from by decide, show (1886743660 : Int64) = wC 14 from by decide, show (1751474548 : Int64) = wC 15 from by decide, show (474315584357 : Int64) = wC 16 from by decide]
  rw [show (0 : Int32) = nI 0 from rfl, lgn_eq, lgn_eq, lgn_eq, lgn_eq, lgn_eq, lgn_eq]
  refine br1 (fun q => ?_) (fun q => br1 (fun q1 => ?_) (fun q1 => ?_))
  · rcases m24 hA hk hc with ⟨-, e2, e3⟩ | ⟨e, -⟩ | ⟨e, -, -⟩ | ⟨e, -⟩ | ⟨e, -⟩ | ⟨e, -⟩
    · exact h0 e2 e3
    · rw [q] at e; exact absurd e (by decide)
    · rw [q] at e; exact absurd e (by decide)
    · rw [q] at e; exact absurd e (by decide)
    · rw [q] at e; exact absurd e (by decide)
    · rw [q] at e; exact absurd e (by decide)
  · refine br2 (fun a10 => br2 (fun a12 => br2 (fun a17 => br2 (fun a14 => br2 (fun a15 => br2 (fun a16 => ?_) (fun e => go 2 ?_)) (fun e => go 1 ?_)) (fun e => go 0 ?_)) (fun e => go 5 ?_)) (fun e => go 4 ?_)) (fun e => go 3 ?_)
    · exact none (fun e => a10 (w10.mpr e).2) (fun e => a12 (w12.mpr e).2) (fun e => a14 (w14.mpr e).2) (fun e => a15 (w15.mpr e).2) (fun e => a16 (w16.mpr e).2) (fun e => a17 (w17.mpr e).2) (fun g => q ((hc.2.2.2.1 g.1).1 g.2))
    · have := w16.mp ⟨q1, e⟩; unfold lnK; omega
    · have := w15.mp ⟨q1, e⟩; unfold lnK; omega
    · have := w14.mp ⟨q1, e⟩; unfold lnK; omega
    · have := w17.mp ⟨q1, e⟩; unfold lnK; omega
    · have := w12.mp ⟨q1, e⟩; unfold lnK; omega
    · have := w10.mp ⟨q1, e⟩; unfold lnK; omega
  · exact none (fun e => q1 (w10.mpr e).1) (fun e => q1 (w12.mpr e).1) (fun e => q1 (w14.mpr e).1) (fun e => q1 (w15.mpr e).1) (fun e => q1 (w16.mpr e).1) (fun e => q1 (w17.mpr e).1) (fun g => q ((hc.2.2.2.1 g.1).1 g.2))
theorem sx_begins {x : xs_St} {c : Nat} {K : Int32 → xs_St → Prop} (h1 : ∀ z, lnK c z → K 1 x) (h0 : (∀ z, ¬ lnK c z) → K 0 x) : X_RD_beginsLine (some c) x K := by
  unfold X_RD_beginsLine X_RD_beginsLine_42 X_RD_beginsLine_47
  have e : ∀ w : Nat, (some c = some w) = (c = w) := fun w => by simp
  rw [e, e, e, e, e, e]
  refine br1 (fun q => ⟨n011, h1 3 (by unfold lnK; omega)⟩) (fun q0 => br1 (fun q => ⟨n011, h1 4 (by unfold lnK; omega)⟩) (fun q1 => br1 (fun q => ⟨n011, h1 0 (by unfold lnK; omega)⟩) (fun q2 => br1 (fun q => ⟨n011, h1 1 (by unfold lnK; omega)⟩) (fun q3 => br1 (fun q => ⟨n011, h1 2 (by unfold lnK; omega)⟩) (fun q4 => br2 (fun q5 => ⟨n010, h0 (fun z hz => by unfold lnK at hz; omega)⟩) (fun q => ⟨n011, h1 5 (by unfold lnK; omega)⟩))))))
theorem sx_often {x : xs_St} {kd c A : Nat} {p0 p1 p2 : Bool} {K : Int32 → xs_St → Prop} (hl : lnK kd c) (hA6 : A ≤ 6) (h209 : xi x 209 = bI p0) (h210 : xi x 210 = bI p1) (h211 : xi x 211 = bI p2) (h405 : xi x 405 = nI A) (h1 : tld c p0 p1 p2 ∨ (c = 5 ∧ A = 6) → K 1 x) (h0 : ¬ (tld c p0 p1 p2 ∨ (c = 5 ∧ A = 6)) → K 0 x) : X_RD_isTooOften (some kd) x K := by
  unfold X_RD_isTooOften X_RD_isTooOften_14 X_RD_isTooOften_28 X_RD_isTooOften_42 X_RD_isTooOften_61 X_RD_isTooOften_65 X_RD_isTooOften_66
  have e : ∀ w : Nat, (some kd = some w) = (kd = w) := fun w => by simp
  have c6 : (nI A < (6 : Int32)) = (A < 6) := ni_lt (b := 6) (by omega) (by omega)
  rw [e, e, e, e, h209, h210, h211, h405, bI_z, bI_z, bI_z, c6]
  unfold lnK at hl
  have t5 : kd = 17 → (A < 6 → ((0 : Int32) = 0 ∨ (0 : Int32) = 1) ∧ K 0 x) ∧ (¬ A < 6 → ((1 : Int32) = 0 ∨ (1 : Int32) = 1) ∧ K 1 x) := fun q => br1 (fun p => ⟨n010, h0 (fun g => by unfold tld at g; omega)⟩) (fun p => ⟨n011, h1 (Or.inr (by omega))⟩)
  have q17 : kd ≠ 14 → kd ≠ 15 → kd ≠ 16 → ((¬ kd = 17 → ((0 : Int32) = 0 ∨ (0 : Int32) = 1) ∧ K 0 x) ∧ (kd = 17 → (A < 6 → ((0 : Int32) = 0 ∨ (0 : Int32) = 1) ∧ K 0 x) ∧ (¬ A < 6 → ((1 : Int32) = 0 ∨ (1 : Int32) = 1) ∧ K 1 x))) := fun e1 e2 e3 => br2 (fun q => ⟨n010, h0 (fun g => by unfold tld at g; omega)⟩) t5
  refine br2 (fun a14 => br2 (fun a15 => br2 (fun a16 => q17 a14 a15 a16) (fun a16 => br2 (fun p => ⟨n011, h1 (Or.inl ?_)⟩) (fun p => ?_))) (fun a15 => br2 (fun p => ⟨n011, h1 (Or.inl ?_)⟩) (fun p => ?_))) (fun a14 => br2 (fun p => ⟨n011, h1 (Or.inl ?_)⟩) (fun p => ?_))
  · exact Or.inr (Or.inr ⟨by omega, by cases p2 with | true => rfl | false => exact absurd rfl p⟩)
  · refine br2 (fun q => ⟨n010, h0 (fun g => ?_)⟩) (fun q => by omega)
    rcases g with (⟨g, -⟩ | ⟨g, -⟩ | ⟨-, g⟩) | ⟨g, -⟩
    · omega
    · omega
    · rw [p] at g; cases g
    · omega
  · exact Or.inr (Or.inl ⟨by omega, by cases p1 with | true => rfl | false => exact absurd rfl p⟩)
  · refine br2 (fun q => br2 (fun q2 => ⟨n010, h0 (fun g => ?_)⟩) (fun q2 => by omega)) (fun q => by omega)
    rcases g with (⟨g, -⟩ | ⟨-, g⟩ | ⟨g, -⟩) | ⟨g, -⟩
    · omega
    · rw [p] at g; cases g
    · omega
    · omega
  · exact Or.inl ⟨by omega, by cases p0 with | true => rfl | false => exact absurd rfl p⟩
  · refine br2 (fun q => br2 (fun q2 => br2 (fun q3 => ⟨n010, h0 (fun g => ?_)⟩) (fun q3 => by omega)) (fun q2 => by omega)) (fun q => by omega)
    rcases g with (⟨-, g⟩ | ⟨g, -⟩ | ⟨g, -⟩) | ⟨g, -⟩
    · rw [p] at g; cases g
    · omega
    · omega
    · omega
def rLn (t : TK) (K : Int32 → th_St → Prop) (k li : Nat) (w : Int32) (u : th_St) : Prop := ∀ j, kT t - k + 1 ≤ j → M_read_51_lp K j (nI li) w u
def flX (x : xs_St) (li : Nat) (p0 p1 p2 : Bool) : Prop := xi x 404 = nI li ∧ xi x 209 = bI p0 ∧ xi x 210 = bI p1 ∧ xi x 211 = bI p2
theorem flX_n {x y : xs_St} {li : Nat} {p0 p1 p2 : Bool} {I A O : List Nat} (h : flX x li p0 p1 p2) (hx : xh I A O x y) (hI : 404 ∉ I ∧ 209 ∉ I ∧ 210 ∉ I ∧ 211 ∉ I) : flX y li p0 p1 p2 := ⟨(hx.1 404 hI.1).trans h.1, (hx.1 209 hI.2.1).trans h.2.1, (hx.1 210 hI.2.2.1).trans h.2.2.1, (hx.1 211 hI.2.2.2).trans h.2.2.2⟩
theorem rd_lines {t : TK} {x : xs_St} {k o S n : Nat} {KX : Int32 → xs_St → Prop} (hA : kA t) (hg : gL t x k o S n 0) (hfl : flX x 0 false false false) (h101 : xi x 101 = nI (kL t)) (hL : kL t ≤ 440) (h212 : xi x 212 = 0)
    (kok : ∀ y k' o' S' A li, gL t y k' o' S' n A → xT x y → xi y 404 = nI li → xi y 212 = 0 → li ≤ 24 → (∀ K u0 u, lB t x u0 u k o S n 0 → (∀ u', lB t y u0 u' k' o' S' n A → K (nI li) u') → rLn t K k 0 0 u) → KX 1 y)
    (kbad : ∀ y kd pl, xT x y → (1 ≤ kd ∧ kd ≤ 4) → xi y 212 = nI kd → xi y 213 = nI pl → (∀ K u0 u, lB t x u0 u k o S n 0 → (∀ z, gB u0 z kd pl → K (-1) z) → rLn t K k 0 0 u) → KX 0 y) : X_RD_reads_65 KX x := by
  unfold X_RD_reads_65
  refine lqe2 (F := X_RD_reads_67_lp KX) (G := X_RD_reads_67 KX) (fun _ _ _ => rfl) (fun d a1 y => ∃ k1 o1 S1 A li p0 p1 p2, a1 = nI li ∧ d = kT t - k1 ∧ gL t y k1 o1 S1 n A ∧ xT x y ∧ flX y li p0 p1 p2 ∧ xi y 212 = 0 ∧ li ≤ 24 ∧ (∀ K u0 u, lB t x u0 u k o S n 0 → (∀ u', lB t y u0 u' k1 o1 S1 n A → rLn t K k1 li (wI p0 p1 p2) u') → rLn t K k 0 0 u)) ?_ (kT t - k) _ _ ⟨k, o, S, 0, 0, false, false, false, rfl, rfl, hg, xh_r x, hfl, h212, by omega, fun K u0 u hB h => h u hB⟩
  rintro kk d a1 y ⟨k1, o1, S1, A, li, p0, p1, p2, rfl, hd, yg, yT, yfl, y212, hli, hHL⟩ ih
  have yc := yg.1.1
  have ykT := yc.2.2.2
  have yA6 := yg.2.1.1
  have y405 : xi y 405 = nI A := yg.2.1.2.1
  have y101 : xi y 101 = nI (kL t) := by rw [yT.1 101 (by decide)]; exact h101
  have hB15 : ∀ u0 u', lB t y u0 u' k1 o1 S1 n A → u'.2.2.1 15 1 = nI A := fun u0 u' hB => hB.2.2.2.2.2.2.1.1
  /- the reference at this line -/
  have step : ∀ (K : Int32 → th_St → Prop) u0 u, lB t x u0 u k o S n 0 → (∀ u', lB t y u0 u' k1 o1 S1 n A → ∀ k51, (∀ li' w' v, rLn t K (k1 + 1) li' w' v → k51 (nI li') w' v) → M_read_51 K k51 (nI li) (wI p0 p1 p2) u') → rLn t K k 0 0 u := by
    intro K u0 u hB h
    refine hHL K u0 u hB (fun u' hB' j hj => ?_)
    obtain ⟨j', rfl⟩ : ∃ j', j = j' + 1 := ⟨j - 1, by omega⟩
    show M_read_51 K (M_read_51_lp K j') (nI li) (wI p0 p1 p2) u'
    rcases Nat.lt_or_ge k1 (kT t) with hlt | hge
    · exact h u' hB' _ (fun li' w' v hv => hv j' (by omega))
    · have e0 : kK t k1 = 0 := by rw [show k1 = kT t by omega]; exact hA.2.2.1
      have hall := h u' hB' (fun _ _ _ => True) (fun _ _ _ _ => trivial)
      revert hall
      have nl : ∀ c, ¬ lnK (kK t k1) c := fun c hl => by unfold lnK at hl; omega
      intro hall
      unfold M_read_51 at hall ⊢
      have k161 : ∀ (c : Int32) (k51 k51' : Int32 → Int32 → th_St → Prop), c < 0 → M_read_161 K k51 (nI li) (wI p0 p1 p2) c u' → M_read_161 K k51' (nI li) (wI p0 p1 p2) c u' := by
        intro c k51 k51' hc0 hh
        unfold M_read_161 M_read_206 M_read_207 at hh ⊢
        exact ⟨fun _ => ⟨fun _ => (hh.1 hc0).1 hc0, fun g => absurd hc0 g⟩, fun g => absurd hc0 g⟩
      have nw : u'.1 24 ≠ 1 ∨ ∀ w, 9 ≤ w → w < 27 → u'.2.1 32 ≠ wC w := by
        rcases m24 hA ykT hB'.2.1 with ⟨e, -⟩ | ⟨e, -⟩ | ⟨-, e, -⟩ | ⟨e, -⟩ | ⟨e, -⟩ | ⟨-, e, -⟩
        · exact Or.inl (by rw [e]; decide)
        · exact Or.inl (by rw [e]; decide)
        · omega
        · exact Or.inl (by rw [e]; decide)
        · exact Or.inl (by rw [e]; decide)
        · omega
      refine ⟨hall.1, fun q => ⟨fun q1 => ?_, fun q1 => k161 _ _ _ (by decide) ((hall.2 q).2 q1)⟩⟩
      rcases nw with g | g
      · exact absurd q1 g
      · have hh := (hall.2 q).1 q1
        have ne : ∀ (c : Int64) w, c = wC w → 9 ≤ w → w < 27 → ¬ lg_cmp (u'.2.1 32) c = (0 : Int32) := fun c w ec h9 h27 e => by
          rw [show (0 : Int32) = nI 0 from rfl, lgn_eq, ec] at e
          exact g w h9 h27 e
        have n1 := ne 439856162148 10 (by decide) (by decide) (by decide)
        have n2 := ne 448545973363 12 (by decide) (by decide) (by decide)
        have n3 := ne 418430153325 17 (by decide) (by decide) (by decide)
        have n4 := ne 1886743660 14 (by decide) (by decide) (by decide)
        have n5 := ne 1751474548 15 (by decide) (by decide) (by decide)
        have n6 := ne 474315584357 16 (by decide) (by decide) (by decide)
        exact ⟨fun _ => ⟨fun _ => ⟨fun _ => ⟨fun _ => ⟨fun _ => ⟨fun _ => k161 _ _ _ (by decide) ((((((hh.1 n1).1 n2).1 n3).1 n4).1 n5).1 n6), fun e => absurd e n6⟩, fun e => absurd e n5⟩, fun e => absurd e n4⟩, fun e => absurd e n3⟩, fun e => absurd e n2⟩, fun e => absurd e n1⟩
  unfold X_RD_reads_67 X_RD_reads_100
  have c24 : ((24 : Int32) < nI li) = (24 < li) := ni_lt (a := 24) (by omega) (by omega)
  have es : ∀ v : Nat, (some (kK t k1) = some v) = (kK t k1 = v) := fun v => by simp
  rw [c24, yc.2.2.1, es]
  refine ⟨fun g => by omega, fun _ => br1 (fun q0 => ?_) (fun q0 => ?_)⟩
  · unfold X_RD_reads_108 X_RD_reads_126 X_RD_reads_131
    have c400 : (nI (kL t) ≤ (400 : Int32)) = (kL t ≤ 400) := ni_le (b := 400) (by omega) (by omega)
    rw [y101, c400]
    refine br1 (fun q => ⟨n011, ?_⟩) (fun q => ?_)
    · refine kok y k1 o1 S1 A li yg yT yfl.1 y212 hli (fun K u0 u hB hK => step K u0 u hB (fun u' hB' k51 hk51 => ?_))
      exact mx_51 hA ykT hB'.2.1 hli yA6 (hB15 u0 u' hB') (fun _ _ => hK u' hB') (fun _ g => absurd ⟨q0, q⟩ g) (fun c hl => by unfold lnK at hl; omega) (fun c hl => by unfold lnK at hl; omega)
    · refine sx_flt (kd := 1) hA yc (fun z zf => ⟨fun _ => ⟨n010, ?_⟩, fun g => absurd rfl g⟩)
      refine kbad z 1 (kP t k1) (xh_t yT (xh_w zf.1 (by decide) (by decide) (by decide))) (by omega) zf.2.1 zf.2.2 (fun K u0 u hB hK => step K u0 u hB (fun u' hB' k51 hk51 => ?_))
      exact mx_51 hA ykT hB'.2.1 hli yA6 (hB15 u0 u' hB') (fun _ g => absurd g q) (fun _ _ w hw => hK w (gB_f hB'.1 hw)) (fun c hl => by unfold lnK at hl; omega) (fun c hl => by unfold lnK at hl; omega)
  · unfold X_RD_readLine X_RD_readLine_38 X_RD_readLine_126
    rw [yc.2.2.1]
    have flt : ∀ kd, kd = 1 ∨ kd = 3 → (∀ (K : Int32 → th_St → Prop) u0 u, lB t x u0 u k o S n 0 → (∀ z, gB u0 z kd (kP t k1) → K (-1) z) → rLn t K k 0 0 u) → X_RD_faulty (nI kd) y (fun r_2 u_1 => ((r_2 = 0 ∨ r_2 = 1) ∧ ((r_2 = 0 → (((0 : Int32) = 0 ∨ (0 : Int32) = 1) ∧ KX (0 : Int32) u_1)) ∧ (¬ r_2 = 0 → X_RD_take (some 3) u_1 (fun r_4 u_3 => ((¬ r_4 = 0 → ∀ x2_5 : Int32, x2_5 = nI li + (1 : Int32) → kk x2_5 u_3) ∧ (r_4 = 0 → (((0 : Int32) = 0 ∨ (0 : Int32) = 1) ∧ KX (0 : Int32) u_3)))))))) := by
      intro kd hkd hs
      refine sx_flt (kd := kd) hA yc (fun z zf => ⟨n010, fun _ => ⟨n010, ?_⟩, fun g => absurd rfl g⟩)
      exact kbad z kd (kP t k1) (xh_t yT (xh_w zf.1 (by decide) (by decide) (by decide))) (by omega) zf.2.1 zf.2.2 hs
    refine sx_begins (fun c hl => ⟨fun _ => ?_, fun g => absurd g (by decide)⟩) (fun hno => ⟨fun g => absurd rfl g, fun _ => ?_⟩)
    · have hc5 : c ≤ 5 := by unfold lnK at hl; omega
      have bad3 : tooM c li A p0 p1 p2 → ∀ (K : Int32 → th_St → Prop) u0 u, lB t x u0 u k o S n 0 → (∀ z, gB u0 z 3 (kP t k1) → K (-1) z) → rLn t K k 0 0 u := by
        intro ht K u0 u hB hK
        refine step K u0 u hB (fun u' hB' k51 hk51 => ?_)
        refine mx_51 hA ykT hB'.2.1 hli yA6 (hB15 u0 u' hB') (fun g => absurd g q0) (fun g => absurd hl (g c)) (fun _ _ _ w hw => hK w (gB_f hB'.1 hw)) (fun c' hl' hn => ?_)
        have : c' = c := by unfold lnK at hl hl'; omega
        subst this
        exact absurd ht hn
      have cl : ((24 : Int32) ≤ nI li) = (24 ≤ li) := ni_le (a := 24) (by omega) (by omega)
      rw [yfl.1, cl]
      refine br1 (fun q => flt 3 (Or.inr rfl) (bad3 (Or.inl (by omega)))) (fun q => ?_)
      refine sx_often hl yA6 yfl.2.1 yfl.2.2.1 yfl.2.2.2 y405 (fun ht => ⟨fun g => absurd g (by decide), fun _ => flt 3 (Or.inr rfl) (bad3 (Or.inr ht))⟩) (fun hnt => ⟨fun _ x5 e5 => ?_, fun g => absurd rfl g⟩)
      have hn : ¬ tooM c li A p0 p1 p2 := fun g => by
        rcases g with g | g
        · omega
        · exact hnt g
      rw [yfl.1, show nI li + (1 : Int32) = nI (li + 1) from nI_1 li] at e5
      have f5 : xh [404] [] [] y x5 := by rw [e5]; exact xh_i (by decide) (xh_r y)
      have c5 : cX t x5 k1 := cX_h yc f5 (by rw [e5]; rfl) (by decide) (by decide) (by decide)
      have hlt := kA_l hA ykT (by omega)
      refine sx_adv hA c5 hlt (fun x6 f6 c6 => ?_)
      have f56 : xh [205, 404] [] [] y x6 := xh_t (xh_w f5 (by decide) (by decide) (by decide)) (xh_w f6 (by decide) (by decide) (by decide))
      have g6 : gL t x6 (k1 + 1) o1 S1 n A := gL_n yg f56 (by decide) c6
      have fl6 : flX x6 (li + 1) p0 p1 p2 := ⟨by rw [f6.1 404 (by decide), e5]; exact xsi_s _ _ _, by rw [f56.1 209 (by decide)]; exact yfl.2.1, by rw [f56.1 210 (by decide)]; exact yfl.2.2.1, by rw [f56.1 211 (by decide)]; exact yfl.2.2.2⟩
      have T6 : xT x x6 := xh_t yT (xh_w f56 (by decide) (by decide) (by decide))
      have z6 : xi x6 212 = 0 := by rw [f56.1 212 (by decide)]; exact y212
      /- the reference enters the line -/
      have enter : ∀ (K : Int32 → th_St → Prop) u0 u, lB t x u0 u k o S n 0 → (∀ u1, lB t x6 u0 u1 (k1 + 1) o1 S1 n A → ∀ k51 : Int32 → Int32 → th_St → Prop, (∀ li' w' v, rLn t K (k1 + 1) li' w' v → k51 (nI li') w' v) → M_line (nI c) u1 (fun r_4 u_3 => ((r_4 = 0 → M_read_270 K u_3) ∧ (¬ r_4 = 0 → M_sign (59 : Int32) u_3 (fun r_6 u_5 => ((¬ r_6 = 0 → ∀ x1_7 : Int32, x1_7 = nI li + (1 : Int32) → k51 x1_7 (wIn c p0 p1 p2) u_5) ∧ (r_6 = 0 → M_read_270 K u_5))))))) → rLn t K k 0 0 u := by
        intro K u0 u hB h
        refine step K u0 u hB (fun u' hB' k51 hk51 => ?_)
        refine mx_51 hA ykT hB'.2.1 hli yA6 (hB15 u0 u' hB') (fun g => absurd g q0) (fun g => absurd hl (g c)) (fun c' hl' ht => ?_) (fun c' hl' _ => ?_)
        · have : c' = c := by unfold lnK at hl hl'; omega
          subst this
          exact absurd ht hn
        · have : c' = c := by unfold lnK at hl hl'; omega
          subst this
          unfold M_read_248
          refine mx_nxt hA hB'.2.1 hlt (fun u1 f1 c1 => ?_)
          exact h u1 (lB_n hB' f56 (by decide) (mf_w f1 (by decide) (by decide) (by decide)) c1) k51 hk51
      have lbad : ∀ z kd pl, xT x6 z → (1 ≤ kd ∧ kd ≤ 4) → xi z 212 = nI kd → xi z 213 = nI pl → siLb t x6 (k1 + 1) o1 S1 A n c kd pl → KX 0 z := by
        intro z kd pl zT hkd z212 z213 hs
        refine kbad z kd pl (xh_t T6 zT) hkd z212 z213 (fun K u0 u hB hK => enter K u0 u hB (fun u1 B1 k51 hk51 => ?_))
        refine hs _ u0 u1 B1 (fun w hw => ⟨fun _ => ?_, fun g => absurd rfl g⟩)
        unfold M_read_270
        exact hK w hw
      have lok : ∀ z k' o' S' A' q0' q1' q2', gL t z k' o' S' n A' → xT x6 z → xi z 212 = 0 → flX z (li + 1) q0' q1' q2' → wI q0' q1' q2' = wIn c p0 p1 p2 → k1 + 1 < k' → siL t x6 z (k1 + 1) o1 S1 A k' o' S' A' n c → X_RD_take (some 3) z (fun r_4 u_3 => ((¬ r_4 = 0 → ∀ x2_5 : Int32, x2_5 = nI li + (1 : Int32) → kk x2_5 u_3) ∧ (r_4 = 0 → (((0 : Int32) = 0 ∨ (0 : Int32) = 1) ∧ KX (0 : Int32) u_3)))) := by
        intro z k' o' S' A' q0' q1' q2' zg zT z212 zfl hwI hk' hs
        have zkT := zg.1.1.2.2.2
        refine sx_take (w := 3) hA zg.1.1 (by decide) (fun q3 z2 f2 c2 => ⟨fun _ x2 e2 => ?_, fun g => absurd g (by decide)⟩) (fun q3 z2 zf => ⟨fun g => absurd rfl g, fun _ => ⟨n010, ?_⟩⟩)
        · subst e2
          have hlt' := kA_l hA zkT (by omega)
          have c2T := c2.2.2.2
          refine ih (kT t - (k' + 1)) _ _ (by omega) ⟨k' + 1, o', S', A', li + 1, q0', q1', q2', nI_1 li, rfl, gL_n zg f2 (by decide) c2, xh_t T6 (xh_t zT (xh_w f2 (by decide) (by decide) (by decide))), flX_n zfl f2 (by decide), by rw [f2.1 212 (by decide)]; exact z212, by omega, fun K u0 u hB hK => ?_⟩
          refine enter K u0 u hB (fun u1 B1 k51 hk51 => hs _ u0 u1 B1 (fun u2 B2 => ⟨fun g => absurd g (by decide), fun _ => ?_⟩))
          refine mx_sgn hA zkT B2.2.1 (w := 3) (by decide) (by decide) rfl (fun _ u3 f3 c3 => ⟨fun _ x7 e7 => ?_, fun g => absurd g (by decide)⟩) (fun g => absurd q3 g)
          subst e7
          rw [show nI li + (1 : Int32) = nI (li + 1) from nI_1 li, ← hwI]
          refine hk51 (li + 1) _ u3 (fun j hj => hK u3 (lB_n B2 f2 (by decide) (mf_w f3 (by decide) (by decide) (by decide)) c3) j (by omega))
        · refine kbad z2 1 (kP t k') (xh_t T6 (xh_t zT (xh_w zf.1 (by decide) (by decide) (by decide)))) (by omega) zf.2.1 zf.2.2 (fun K u0 u hB hK => ?_)
          refine enter K u0 u hB (fun u1 B1 k51 hk51 => hs _ u0 u1 B1 (fun u2 B2 => ⟨fun g => absurd g (by decide), fun _ => ?_⟩))
          refine mx_sgn hA zkT B2.2.1 (w := 3) (by decide) (by decide) rfl (fun g => absurd g q3) (fun _ w hw => ⟨fun g => absurd rfl g, fun _ => ?_⟩)
          unfold M_read_270
          exact hK w (gB_f B2.1 hw)
      rw [es, es, es]
      refine br2 (fun q10 => br2 (fun q12 => br1 (fun q17 => ?_) (fun q17 => ?_)) (fun q12 => ?_)) (fun q10 => ?_)
      · have c5' : c = 5 := by unfold lnK at hl; omega
        subst c5'
        have hA5 : A < 6 := by
          rcases Nat.lt_or_ge A 6 with g | g
          · exact g
          · exact absurd (Or.inr (Or.inr ⟨rfl, by omega⟩)) hn
        refine rd_alarm (KX := fun r_2 u_1 => ((r_2 = 0 → (((0 : Int32) = 0 ∨ (0 : Int32) = 1) ∧ KX (0 : Int32) u_1)) ∧ (¬ r_2 = 0 → X_RD_take (some 3) u_1 (fun r_4 u_3 => ((¬ r_4 = 0 → ∀ x2_5 : Int32, x2_5 = nI li + (1 : Int32) → kk x2_5 u_3) ∧ (r_4 = 0 → (((0 : Int32) = 0 ∨ (0 : Int32) = 1) ∧ KX (0 : Int32) u_3))))))) hA g6 hA5 (fun z k' o' S' zg zf z212 hk' hs => ⟨fun g => absurd g (by decide), fun _ => lok z k' o' S' (A + 1) p0 p1 p2 zg (xh_w zf (by decide) (by decide) (by decide)) (z212.trans z6) (flX_n fl6 zf (by decide)) (wI_n (by decide) p0 p1 p2).symm hk' hs⟩) (fun z kd pl zT hkd z212 z213 hs => ⟨fun _ => ⟨n010, lbad z kd pl zT hkd z212 z213 hs⟩, fun g => absurd rfl g⟩)
      · obtain ⟨hc2, hkc⟩ : c ≤ 2 ∧ kK t k1 = 14 + c := by unfold lnK at hl; omega
        rw [hkc]
        refine rd_set hA g6 hc2 (fun z k' zg zf hk' z1 hs => ⟨n011, fun g => absurd g (by decide), fun _ => ?_⟩) (fun z kd pl zT hkd z212 z213 hs => ⟨n010, fun _ => ⟨n010, lbad z kd pl zT hkd z212 z213 hs⟩, fun g => absurd rfl g⟩)
        have zn : ∀ j, j ≠ 205 → j ≠ 207 → j ≠ 209 + c → j ≠ 401 + c → xi z j = xi x6 j := fun j j1 j2 j3 j4 => zf.1 j (by simp; omega)
        have fl : ∀ j : Nat, j ≤ 2 → ∀ p : Bool, xi x6 (209 + j) = bI p → xi z (209 + j) = bI (p || decide (c = j)) := by
          intro j hj p hp
          by_cases e : c = j
          · subst e
            rw [decide_eq_true rfl, Bool.or_true, z1]; rfl
          · rw [decide_eq_false e, Bool.or_false, zn (209 + j) (by omega) (by omega) (by omega) (by omega)]; exact hp
        refine lok z k' o1 S1 A _ _ _ zg ?_ (by rw [zn 212 (by omega) (by omega) (by omega) (by omega)]; exact z6) ⟨by rw [zn 404 (by omega) (by omega) (by omega) (by omega)]; exact fl6.1, fl 0 (by omega) p0 fl6.2.1, fl 1 (by omega) p1 fl6.2.2.1, fl 2 (by omega) p2 fl6.2.2.2⟩ rfl hk' hs
        refine xh_w zf (fun j hj => ?_) (by decide) (by decide)
        rcases (show c = 0 ∨ c = 1 ∨ c = 2 by omega) with rfl | rfl | rfl
        · exact (show ∀ k, k ∈ [205, 207, 209 + 0, 401 + 0] → k ∈ TI by decide) j hj
        · exact (show ∀ k, k ∈ [205, 207, 209 + 1, 401 + 1] → k ∈ TI by decide) j hj
        · exact (show ∀ k, k ∈ [205, 207, 209 + 2, 401 + 2] → k ∈ TI by decide) j hj
      · have c4' : c = 4 := by unfold lnK at hl; omega
        subst c4'
        exact rd_holds hA g6 (fun z k' zg zf hk' hs => ⟨n011, fun g => absurd g (by decide), fun _ => lok z k' o1 S1 A p0 p1 p2 zg (xh_w zf (by decide) (by decide) (by decide)) (by rw [zf.1 212 (by decide)]; exact z6) (flX_n fl6 zf (by decide)) (wI_n (by decide) p0 p1 p2).symm hk' hs⟩) (fun z kd pl zT hkd z212 z213 hs => ⟨n010, fun _ => ⟨n010, lbad z kd pl zT hkd z212 z213 hs⟩, fun g => absurd rfl g⟩)
      · have c3' : c = 3 := by unfold lnK at hl; omega
        subst c3'
        exact rd_fixed hA g6 (fun z k' zg zf hk' hs => ⟨n011, fun g => absurd g (by decide), fun _ => lok z k' o1 S1 A p0 p1 p2 zg (xh_w zf (by decide) (by decide) (by decide)) (by rw [zf.1 212 (by decide)]; exact z6) (flX_n fl6 zf (by decide)) (wI_n (by decide) p0 p1 p2).symm hk' hs⟩) (fun z kd pl zT hkd z212 z213 hs => ⟨n010, fun _ => ⟨n010, lbad z kd pl zT hkd z212 z213 hs⟩, fun g => absurd rfl g⟩)
    · refine flt 1 (Or.inl rfl) (fun K u0 u hB hK => step K u0 u hB (fun u' hB' k51 hk51 => ?_))
      exact mx_51 hA ykT hB'.2.1 hli yA6 (hB15 u0 u' hB') (fun g => absurd g q0) (fun _ _ w hw => hK w (gB_f hB'.1 hw)) (fun c hl => absurd hl (hno c)) (fun c hl => absurd hl (hno c))

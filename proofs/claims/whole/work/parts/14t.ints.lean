/-! numbers in one form: nI of a Nat, iI of an Int; walks; loops; frames -/
def iI (z : Int) : Int32 := Int32.ofInt z
theorem ii_toInt {z : Int} (h1 : -2147483648 ≤ z) (h2 : z ≤ 2147483647) : (iI z).toInt = z := by
  unfold iI; rw [Int32.toInt_ofInt]; exact ti_bm h1 h2
theorem ii_self (a : Int32) : iI a.toInt = a := Int32.ofInt_toInt a
theorem ii_nat (n : Nat) : iI (n : Int) = nI n := rfl
theorem ii_add (a b : Int) : iI a + iI b = iI (a + b) := (Int32.ofInt_add a b).symm
theorem ii_mul (a b : Int) : iI a * iI b = iI (a * b) := (Int32.ofInt_mul a b).symm
theorem ii_neg (a : Int) : -iI a = iI (-a) := (Int32.ofInt_neg a).symm
theorem ii_sub (a b : Int) : iI a - iI b = iI (a - b) := (Int32.ofInt_sub a b).symm
theorem ii_addL (a : Int) (b : Nat) : iI a + nI b = iI (a + b) := ii_add a b
theorem ii_addR (a : Nat) (b : Int) : nI a + iI b = iI (a + b) := ii_add a b
theorem ii_subL (a : Int) (b : Nat) : iI a - nI b = iI (a - b) := ii_sub a b
theorem ii_subR (a : Nat) (b : Int) : nI a - iI b = iI (a - b) := ii_sub a b
theorem ii_mulL (a : Int) (b : Nat) : iI a * nI b = iI (a * b) := ii_mul a b
theorem ii_mulR (a : Nat) (b : Int) : nI a * iI b = iI (a * b) := ii_mul a b
theorem ii_nneg (a : Nat) : -nI a = iI (-(a : Int)) := ii_neg a
theorem ii_nsub (a b : Nat) : nI a - nI b = iI ((a : Int) - b) := ii_sub a b
theorem ni_sub {a b : Nat} (h : b ≤ a) : nI a - nI b = nI (a - b) := pk_sub h
theorem ii_le {a b : Int} (h1 : -2147483648 ≤ a) (h2 : a ≤ 2147483647) (h3 : -2147483648 ≤ b) (h4 : b ≤ 2147483647) : (iI a ≤ iI b) = (a ≤ b) := by
  rw [ti_le, ii_toInt h1 h2, ii_toInt h3 h4]
theorem ii_lt {a b : Int} (h1 : -2147483648 ≤ a) (h2 : a ≤ 2147483647) (h3 : -2147483648 ≤ b) (h4 : b ≤ 2147483647) : (iI a < iI b) = (a < b) := by
  rw [ti_lt, ii_toInt h1 h2, ii_toInt h3 h4]
theorem ii_eq {a b : Int} (h1 : -2147483648 ≤ a) (h2 : a ≤ 2147483647) (h3 : -2147483648 ≤ b) (h4 : b ≤ 2147483647) : (iI a = iI b) = (a = b) := by
  rw [ti_eq, ii_toInt h1 h2, ii_toInt h3 h4]
theorem ii_leL {a : Int} {b : Nat} (h1 : -2147483648 ≤ a) (h2 : a ≤ 2147483647) (h4 : b ≤ 2147483647) : (iI a ≤ nI b) = (a ≤ b) := ii_le (b := (b : Int)) h1 h2 (by omega) (by omega)
theorem ii_leR {a : Nat} {b : Int} (h2 : a ≤ 2147483647) (h3 : -2147483648 ≤ b) (h4 : b ≤ 2147483647) : (nI a ≤ iI b) = (a ≤ b) := ii_le (a := (a : Int)) (by omega) (by omega) h3 h4
theorem ii_ltL {a : Int} {b : Nat} (h1 : -2147483648 ≤ a) (h2 : a ≤ 2147483647) (h4 : b ≤ 2147483647) : (iI a < nI b) = (a < b) := ii_lt (b := (b : Int)) h1 h2 (by omega) (by omega)
theorem ii_ltR {a : Nat} {b : Int} (h2 : a ≤ 2147483647) (h3 : -2147483648 ≤ b) (h4 : b ≤ 2147483647) : (nI a < iI b) = (a < b) := ii_lt (a := (a : Int)) (by omega) (by omega) h3 h4
theorem ii_eqL {a : Int} {b : Nat} (h1 : -2147483648 ≤ a) (h2 : a ≤ 2147483647) (h4 : b ≤ 2147483647) : (iI a = nI b) = (a = b) := ii_eq (b := (b : Int)) h1 h2 (by omega) (by omega)
theorem ii_eqR {a : Nat} {b : Int} (h2 : a ≤ 2147483647) (h3 : -2147483648 ≤ b) (h4 : b ≤ 2147483647) : (nI a = iI b) = (a = b) := ii_eq (a := (a : Int)) (by omega) (by omega) h3 h4
theorem ni_le {a b : Nat} (ha : a ≤ 2147483647) (hb : b ≤ 2147483647) : (nI a ≤ nI b) = (a ≤ b) := propext (nI_leI (by omega) (by omega))
theorem ni_lt {a b : Nat} (ha : a ≤ 2147483647) (hb : b ≤ 2147483647) : (nI a < nI b) = (a < b) := propext (nI_ltI (by omega) (by omega))
theorem ni_eq {a b : Nat} (ha : a ≤ 2147483647) (hb : b ≤ 2147483647) : (nI a = nI b) = (a = b) := propext (nI_eq (by omega) (by omega))
theorem nI_lit (n : Nat) : (OfNat.ofNat n : Int32) = nI (OfNat.ofNat n) := id rfl
theorem nI_m1 (n : Nat) : nI (n + 1) + iI (-((1 : Nat) : Int)) = nI n := by
  rw [show nI (n + 1) = iI ((n : Int) + 1) from rfl, ii_add, show ((n : Int) + 1 + -((1 : Nat) : Int)) = (n : Int) by omega]; rfl
theorem ni_div {a d : Nat} (ha : a ≤ 2147483647) (h0 : 0 < d) (hd : d ≤ 2147483647) : nI a / nI d = nI (a / d) := pk_div (by omega) h0 (by omega)
theorem ni_rem {a d : Nat} (h : d * (a / d) ≤ a) : nI a - nI (a / d * d) = nI (a % d) := by
  rw [pk_sub (by rw [Nat.mul_comm]; exact h), Nat.mod_eq_sub_mul_div, Nat.mul_comm]
theorem ni_cl {n : Nat} (h : n ≤ 2147483647) : (nI n).toNatClampNeg = n := nI_clamp (by omega)
theorem vq_in {n N : Nat} (h : n < N) (hN : N ≤ 2147483647) : vp_in (nI n) N = True := eq_true (vp_in_nI h (by omega))
theorem va_upE {α : Type} (f : Nat → α) (k : Nat) (v : α) (j : Nat) : va_up f k v j = if j = k then v else f j := by
  by_cases h : j = k
  · subst h; rw [va_up_self, if_pos rfl]
  · rw [va_up_ne _ _ h, if_neg h]
theorem xq_si (u : xs_St) (k j : Nat) (v : Int32) : xi (xs_si u k v) j = if j = k then v else xi u j := va_upE _ _ _ _
theorem xq_si2 (u : xs_St) (k j : Nat) (v : Int32) : xa (xs_si u k v) j = xa u j := rfl
theorem xq_si3 (u : xs_St) (k j : Nat) (v : Int32) : xl (xs_si u k v) j = xl u j := rfl
theorem xq_sa (u : xs_St) (k j : Nat) (f : Nat → Int32) : xa (xs_sa u k f) j = if j = k then f else xa u j := va_upE _ _ _ _
theorem xq_sa2 (u : xs_St) (k j : Nat) (f : Nat → Int32) : xi (xs_sa u k f) j = xi u j := rfl
theorem xq_sa3 (u : xs_St) (k j : Nat) (f : Nat → Int32) : xl (xs_sa u k f) j = xl u j := rfl
theorem xq_sl (u : xs_St) (k j : Nat) (f : Nat → Int64) : xl (xs_sl u k f) j = if j = k then f else xl u j := va_upE _ _ _ _
theorem xq_sl2 (u : xs_St) (k j : Nat) (f : Nat → Int64) : xi (xs_sl u k f) j = xi u j := rfl
theorem xq_sl3 (u : xs_St) (k j : Nat) (f : Nat → Int64) : xa (xs_sl u k f) j = xa u j := rfl
theorem xq_di (u : xs_St) (k : Nat) (v : Int32) : (xs_si u k v).2 = u.2 := rfl
theorem xq_da (u : xs_St) (k : Nat) (f : Nat → Int32) : (xs_sa u k f).2 = u.2 := rfl
theorem xq_dl (u : xs_St) (k : Nat) (f : Nat → Int64) : (xs_sl u k f).2 = u.2 := rfl
theorem mq_si (u : th_St) (k : Nat) (v : Int32) : (th_si u k v).1 = va_up u.1 k v := rfl
theorem mq_si2 (u : th_St) (k : Nat) (v : Int32) : (th_si u k v).2 = u.2 := rfl
theorem mq_si3 (u : th_St) (k : Nat) (v : Int64) : (th_sj u k v).1 = u.1 := rfl
theorem mq_si4 (u : th_St) (k : Nat) (v : Int64) : (th_sj u k v).2.2 = u.2.2 := rfl
theorem mq_sa (u : th_St) (k : Nat) (f : Nat → Int32) : (th_sa u k f).2.2.1 = va_up u.2.2.1 k f := rfl
theorem mq_sa2 (u : th_St) (k : Nat) (f : Nat → Int32) : (th_sa u k f).1 = u.1 := rfl
theorem mq_sa3 (u : th_St) (k : Nat) (f : Nat → Int32) : (th_sa u k f).2.1 = u.2.1 := rfl
theorem mq_sa4 (u : th_St) (k : Nat) (f : Nat → Int32) : (th_sa u k f).2.2.2 = u.2.2.2 := rfl
theorem mq_sl (u : th_St) (k : Nat) (f : Nat → Int64) : (th_sl u k f).2.2.2 = va_up u.2.2.2 k f := rfl
theorem mq_sl2 (u : th_St) (k : Nat) (f : Nat → Int64) : (th_sl u k f).1 = u.1 := rfl
theorem mq_sl3 (u : th_St) (k : Nat) (f : Nat → Int64) : (th_sl u k f).2.1 = u.2.1 := rfl
theorem mq_sl4 (u : th_St) (k : Nat) (f : Nat → Int64) : (th_sl u k f).2.2.1 = u.2.2.1 := rfl
theorem vq_and {i : Int32} {n : Nat} {P : Prop} (h : vp_in i n) (h2 : P) : vp_in i n ∧ P := ⟨h, h2⟩
theorem n20 : ¬ (2 : Int32) = 0 := by decide
theorem n010 : (0 : Int32) = 0 ∨ (0 : Int32) = 1 := Or.inl rfl
theorem n011 : (1 : Int32) = 0 ∨ (1 : Int32) = 1 := Or.inr rfl
theorem br1 {c P Q : Prop} (h1 : c → P) (h2 : ¬ c → Q) : (c → P) ∧ (¬ c → Q) := ⟨h1, h2⟩
theorem br2 {c P Q : Prop} (h1 : ¬ c → P) (h2 : c → Q) : (¬ c → P) ∧ (c → Q) := ⟨h1, h2⟩

theorem lq1 {T0 : Type} {F : Nat → T0 → Prop} {G : (T0 → Prop) → T0 → Prop} (hF : ∀ (n : Nat) (a0 : T0), F (n + 1) a0 = G (F n) a0) (Inv : Nat → T0 → Prop) (H : ∀ (k : T0 → Prop) (d : Nat) (a0 : T0), Inv d a0 → (∀ (e : Nat) (b0 : T0), e < d → Inv e b0 → k b0) → G k a0) : ∀ (n d : Nat) (a0 : T0), d < n → Inv d a0 → F n a0 := by
  intro n
  induction n with
  | zero => intro d a0 h; omega
  | succ n ih =>
    intro d a0 h hI
    rw [hF]
    exact H _ d a0 hI (fun e b0 he hI2 => ih e b0 (by omega) hI2)
theorem lqe1 {T0 : Type} {F : Nat → T0 → Prop} {G : (T0 → Prop) → T0 → Prop} (hF : ∀ (n : Nat) (a0 : T0), F (n + 1) a0 = G (F n) a0) (Inv : Nat → T0 → Prop) (H : ∀ (k : T0 → Prop) (d : Nat) (a0 : T0), Inv d a0 → (∀ (e : Nat) (b0 : T0), e < d → Inv e b0 → k b0) → G k a0) (d : Nat) (a0 : T0) (h : Inv d a0) : ∃ n, F n a0 := ⟨d + 1, lq1 hF Inv H (d + 1) d a0 (by omega) h⟩
theorem lq2 {T0 T1 : Type} {F : Nat → T0 → T1 → Prop} {G : (T0 → T1 → Prop) → T0 → T1 → Prop} (hF : ∀ (n : Nat) (a0 : T0) (a1 : T1), F (n + 1) a0 a1 = G (F n) a0 a1) (Inv : Nat → T0 → T1 → Prop) (H : ∀ (k : T0 → T1 → Prop) (d : Nat) (a0 : T0) (a1 : T1), Inv d a0 a1 → (∀ (e : Nat) (b0 : T0) (b1 : T1), e < d → Inv e b0 b1 → k b0 b1) → G k a0 a1) : ∀ (n d : Nat) (a0 : T0) (a1 : T1), d < n → Inv d a0 a1 → F n a0 a1 := by
  intro n
  induction n with
  | zero => intro d a0 a1 h; omega
  | succ n ih =>
    intro d a0 a1 h hI
    rw [hF]
    exact H _ d a0 a1 hI (fun e b0 b1 he hI2 => ih e b0 b1 (by omega) hI2)
theorem lqe2 {T0 T1 : Type} {F : Nat → T0 → T1 → Prop} {G : (T0 → T1 → Prop) → T0 → T1 → Prop} (hF : ∀ (n : Nat) (a0 : T0) (a1 : T1), F (n + 1) a0 a1 = G (F n) a0 a1) (Inv : Nat → T0 → T1 → Prop) (H : ∀ (k : T0 → T1 → Prop) (d : Nat) (a0 : T0) (a1 : T1), Inv d a0 a1 → (∀ (e : Nat) (b0 : T0) (b1 : T1), e < d → Inv e b0 b1 → k b0 b1) → G k a0 a1) (d : Nat) (a0 : T0) (a1 : T1) (h : Inv d a0 a1) : ∃ n, F n a0 a1 := ⟨d + 1, lq2 hF Inv H (d + 1) d a0 a1 (by omega) h⟩
theorem lq3 {T0 T1 T2 : Type} {F : Nat → T0 → T1 → T2 → Prop} {G : (T0 → T1 → T2 → Prop) → T0 → T1 → T2 → Prop} (hF : ∀ (n : Nat) (a0 : T0) (a1 : T1) (a2 : T2), F (n + 1) a0 a1 a2 = G (F n) a0 a1 a2) (Inv : Nat → T0 → T1 → T2 → Prop) (H : ∀ (k : T0 → T1 → T2 → Prop) (d : Nat) (a0 : T0) (a1 : T1) (a2 : T2), Inv d a0 a1 a2 → (∀ (e : Nat) (b0 : T0) (b1 : T1) (b2 : T2), e < d → Inv e b0 b1 b2 → k b0 b1 b2) → G k a0 a1 a2) : ∀ (n d : Nat) (a0 : T0) (a1 : T1) (a2 : T2), d < n → Inv d a0 a1 a2 → F n a0 a1 a2 := by
  intro n
  induction n with
  | zero => intro d a0 a1 a2 h; omega
  | succ n ih =>
    intro d a0 a1 a2 h hI
    rw [hF]
    exact H _ d a0 a1 a2 hI (fun e b0 b1 b2 he hI2 => ih e b0 b1 b2 (by omega) hI2)
theorem lqe3 {T0 T1 T2 : Type} {F : Nat → T0 → T1 → T2 → Prop} {G : (T0 → T1 → T2 → Prop) → T0 → T1 → T2 → Prop} (hF : ∀ (n : Nat) (a0 : T0) (a1 : T1) (a2 : T2), F (n + 1) a0 a1 a2 = G (F n) a0 a1 a2) (Inv : Nat → T0 → T1 → T2 → Prop) (H : ∀ (k : T0 → T1 → T2 → Prop) (d : Nat) (a0 : T0) (a1 : T1) (a2 : T2), Inv d a0 a1 a2 → (∀ (e : Nat) (b0 : T0) (b1 : T1) (b2 : T2), e < d → Inv e b0 b1 b2 → k b0 b1 b2) → G k a0 a1 a2) (d : Nat) (a0 : T0) (a1 : T1) (a2 : T2) (h : Inv d a0 a1 a2) : ∃ n, F n a0 a1 a2 := ⟨d + 1, lq3 hF Inv H (d + 1) d a0 a1 a2 (by omega) h⟩
theorem lq4 {T0 T1 T2 T3 : Type} {F : Nat → T0 → T1 → T2 → T3 → Prop} {G : (T0 → T1 → T2 → T3 → Prop) → T0 → T1 → T2 → T3 → Prop} (hF : ∀ (n : Nat) (a0 : T0) (a1 : T1) (a2 : T2) (a3 : T3), F (n + 1) a0 a1 a2 a3 = G (F n) a0 a1 a2 a3) (Inv : Nat → T0 → T1 → T2 → T3 → Prop) (H : ∀ (k : T0 → T1 → T2 → T3 → Prop) (d : Nat) (a0 : T0) (a1 : T1) (a2 : T2) (a3 : T3), Inv d a0 a1 a2 a3 → (∀ (e : Nat) (b0 : T0) (b1 : T1) (b2 : T2) (b3 : T3), e < d → Inv e b0 b1 b2 b3 → k b0 b1 b2 b3) → G k a0 a1 a2 a3) : ∀ (n d : Nat) (a0 : T0) (a1 : T1) (a2 : T2) (a3 : T3), d < n → Inv d a0 a1 a2 a3 → F n a0 a1 a2 a3 := by
  intro n
  induction n with
  | zero => intro d a0 a1 a2 a3 h; omega
  | succ n ih =>
    intro d a0 a1 a2 a3 h hI
    rw [hF]
    exact H _ d a0 a1 a2 a3 hI (fun e b0 b1 b2 b3 he hI2 => ih e b0 b1 b2 b3 (by omega) hI2)
theorem lqe4 {T0 T1 T2 T3 : Type} {F : Nat → T0 → T1 → T2 → T3 → Prop} {G : (T0 → T1 → T2 → T3 → Prop) → T0 → T1 → T2 → T3 → Prop} (hF : ∀ (n : Nat) (a0 : T0) (a1 : T1) (a2 : T2) (a3 : T3), F (n + 1) a0 a1 a2 a3 = G (F n) a0 a1 a2 a3) (Inv : Nat → T0 → T1 → T2 → T3 → Prop) (H : ∀ (k : T0 → T1 → T2 → T3 → Prop) (d : Nat) (a0 : T0) (a1 : T1) (a2 : T2) (a3 : T3), Inv d a0 a1 a2 a3 → (∀ (e : Nat) (b0 : T0) (b1 : T1) (b2 : T2) (b3 : T3), e < d → Inv e b0 b1 b2 b3 → k b0 b1 b2 b3) → G k a0 a1 a2 a3) (d : Nat) (a0 : T0) (a1 : T1) (a2 : T2) (a3 : T3) (h : Inv d a0 a1 a2 a3) : ∃ n, F n a0 a1 a2 a3 := ⟨d + 1, lq4 hF Inv H (d + 1) d a0 a1 a2 a3 (by omega) h⟩
theorem lq5 {T0 T1 T2 T3 T4 : Type} {F : Nat → T0 → T1 → T2 → T3 → T4 → Prop} {G : (T0 → T1 → T2 → T3 → T4 → Prop) → T0 → T1 → T2 → T3 → T4 → Prop} (hF : ∀ (n : Nat) (a0 : T0) (a1 : T1) (a2 : T2) (a3 : T3) (a4 : T4), F (n + 1) a0 a1 a2 a3 a4 = G (F n) a0 a1 a2 a3 a4) (Inv : Nat → T0 → T1 → T2 → T3 → T4 → Prop) (H : ∀ (k : T0 → T1 → T2 → T3 → T4 → Prop) (d : Nat) (a0 : T0) (a1 : T1) (a2 : T2) (a3 : T3) (a4 : T4), Inv d a0 a1 a2 a3 a4 → (∀ (e : Nat) (b0 : T0) (b1 : T1) (b2 : T2) (b3 : T3) (b4 : T4), e < d → Inv e b0 b1 b2 b3 b4 → k b0 b1 b2 b3 b4) → G k a0 a1 a2 a3 a4) : ∀ (n d : Nat) (a0 : T0) (a1 : T1) (a2 : T2) (a3 : T3) (a4 : T4), d < n → Inv d a0 a1 a2 a3 a4 → F n a0 a1 a2 a3 a4 := by
  intro n
  induction n with
  | zero => intro d a0 a1 a2 a3 a4 h; omega
  | succ n ih =>
    intro d a0 a1 a2 a3 a4 h hI
    rw [hF]
    exact H _ d a0 a1 a2 a3 a4 hI (fun e b0 b1 b2 b3 b4 he hI2 => ih e b0 b1 b2 b3 b4 (by omega) hI2)
theorem lqe5 {T0 T1 T2 T3 T4 : Type} {F : Nat → T0 → T1 → T2 → T3 → T4 → Prop} {G : (T0 → T1 → T2 → T3 → T4 → Prop) → T0 → T1 → T2 → T3 → T4 → Prop} (hF : ∀ (n : Nat) (a0 : T0) (a1 : T1) (a2 : T2) (a3 : T3) (a4 : T4), F (n + 1) a0 a1 a2 a3 a4 = G (F n) a0 a1 a2 a3 a4) (Inv : Nat → T0 → T1 → T2 → T3 → T4 → Prop) (H : ∀ (k : T0 → T1 → T2 → T3 → T4 → Prop) (d : Nat) (a0 : T0) (a1 : T1) (a2 : T2) (a3 : T3) (a4 : T4), Inv d a0 a1 a2 a3 a4 → (∀ (e : Nat) (b0 : T0) (b1 : T1) (b2 : T2) (b3 : T3) (b4 : T4), e < d → Inv e b0 b1 b2 b3 b4 → k b0 b1 b2 b3 b4) → G k a0 a1 a2 a3 a4) (d : Nat) (a0 : T0) (a1 : T1) (a2 : T2) (a3 : T3) (a4 : T4) (h : Inv d a0 a1 a2 a3 a4) : ∃ n, F n a0 a1 a2 a3 a4 := ⟨d + 1, lq5 hF Inv H (d + 1) d a0 a1 a2 a3 a4 (by omega) h⟩
theorem lq6 {T0 T1 T2 T3 T4 T5 : Type} {F : Nat → T0 → T1 → T2 → T3 → T4 → T5 → Prop} {G : (T0 → T1 → T2 → T3 → T4 → T5 → Prop) → T0 → T1 → T2 → T3 → T4 → T5 → Prop} (hF : ∀ (n : Nat) (a0 : T0) (a1 : T1) (a2 : T2) (a3 : T3) (a4 : T4) (a5 : T5), F (n + 1) a0 a1 a2 a3 a4 a5 = G (F n) a0 a1 a2 a3 a4 a5) (Inv : Nat → T0 → T1 → T2 → T3 → T4 → T5 → Prop) (H : ∀ (k : T0 → T1 → T2 → T3 → T4 → T5 → Prop) (d : Nat) (a0 : T0) (a1 : T1) (a2 : T2) (a3 : T3) (a4 : T4) (a5 : T5), Inv d a0 a1 a2 a3 a4 a5 → (∀ (e : Nat) (b0 : T0) (b1 : T1) (b2 : T2) (b3 : T3) (b4 : T4) (b5 : T5), e < d → Inv e b0 b1 b2 b3 b4 b5 → k b0 b1 b2 b3 b4 b5) → G k a0 a1 a2 a3 a4 a5) : ∀ (n d : Nat) (a0 : T0) (a1 : T1) (a2 : T2) (a3 : T3) (a4 : T4) (a5 : T5), d < n → Inv d a0 a1 a2 a3 a4 a5 → F n a0 a1 a2 a3 a4 a5 := by
  intro n
  induction n with
  | zero => intro d a0 a1 a2 a3 a4 a5 h; omega
  | succ n ih =>
    intro d a0 a1 a2 a3 a4 a5 h hI
    rw [hF]
    exact H _ d a0 a1 a2 a3 a4 a5 hI (fun e b0 b1 b2 b3 b4 b5 he hI2 => ih e b0 b1 b2 b3 b4 b5 (by omega) hI2)
theorem lqe6 {T0 T1 T2 T3 T4 T5 : Type} {F : Nat → T0 → T1 → T2 → T3 → T4 → T5 → Prop} {G : (T0 → T1 → T2 → T3 → T4 → T5 → Prop) → T0 → T1 → T2 → T3 → T4 → T5 → Prop} (hF : ∀ (n : Nat) (a0 : T0) (a1 : T1) (a2 : T2) (a3 : T3) (a4 : T4) (a5 : T5), F (n + 1) a0 a1 a2 a3 a4 a5 = G (F n) a0 a1 a2 a3 a4 a5) (Inv : Nat → T0 → T1 → T2 → T3 → T4 → T5 → Prop) (H : ∀ (k : T0 → T1 → T2 → T3 → T4 → T5 → Prop) (d : Nat) (a0 : T0) (a1 : T1) (a2 : T2) (a3 : T3) (a4 : T4) (a5 : T5), Inv d a0 a1 a2 a3 a4 a5 → (∀ (e : Nat) (b0 : T0) (b1 : T1) (b2 : T2) (b3 : T3) (b4 : T4) (b5 : T5), e < d → Inv e b0 b1 b2 b3 b4 b5 → k b0 b1 b2 b3 b4 b5) → G k a0 a1 a2 a3 a4 a5) (d : Nat) (a0 : T0) (a1 : T1) (a2 : T2) (a3 : T3) (a4 : T4) (a5 : T5) (h : Inv d a0 a1 a2 a3 a4 a5) : ∃ n, F n a0 a1 a2 a3 a4 a5 := ⟨d + 1, lq6 hF Inv H (d + 1) d a0 a1 a2 a3 a4 a5 (by omega) h⟩
theorem lq7 {T0 T1 T2 T3 T4 T5 T6 : Type} {F : Nat → T0 → T1 → T2 → T3 → T4 → T5 → T6 → Prop} {G : (T0 → T1 → T2 → T3 → T4 → T5 → T6 → Prop) → T0 → T1 → T2 → T3 → T4 → T5 → T6 → Prop} (hF : ∀ (n : Nat) (a0 : T0) (a1 : T1) (a2 : T2) (a3 : T3) (a4 : T4) (a5 : T5) (a6 : T6), F (n + 1) a0 a1 a2 a3 a4 a5 a6 = G (F n) a0 a1 a2 a3 a4 a5 a6) (Inv : Nat → T0 → T1 → T2 → T3 → T4 → T5 → T6 → Prop) (H : ∀ (k : T0 → T1 → T2 → T3 → T4 → T5 → T6 → Prop) (d : Nat) (a0 : T0) (a1 : T1) (a2 : T2) (a3 : T3) (a4 : T4) (a5 : T5) (a6 : T6), Inv d a0 a1 a2 a3 a4 a5 a6 → (∀ (e : Nat) (b0 : T0) (b1 : T1) (b2 : T2) (b3 : T3) (b4 : T4) (b5 : T5) (b6 : T6), e < d → Inv e b0 b1 b2 b3 b4 b5 b6 → k b0 b1 b2 b3 b4 b5 b6) → G k a0 a1 a2 a3 a4 a5 a6) : ∀ (n d : Nat) (a0 : T0) (a1 : T1) (a2 : T2) (a3 : T3) (a4 : T4) (a5 : T5) (a6 : T6), d < n → Inv d a0 a1 a2 a3 a4 a5 a6 → F n a0 a1 a2 a3 a4 a5 a6 := by
  intro n
  induction n with
  | zero => intro d a0 a1 a2 a3 a4 a5 a6 h; omega
  | succ n ih =>
    intro d a0 a1 a2 a3 a4 a5 a6 h hI
    rw [hF]
    exact H _ d a0 a1 a2 a3 a4 a5 a6 hI (fun e b0 b1 b2 b3 b4 b5 b6 he hI2 => ih e b0 b1 b2 b3 b4 b5 b6 (by omega) hI2)
theorem lqe7 {T0 T1 T2 T3 T4 T5 T6 : Type} {F : Nat → T0 → T1 → T2 → T3 → T4 → T5 → T6 → Prop} {G : (T0 → T1 → T2 → T3 → T4 → T5 → T6 → Prop) → T0 → T1 → T2 → T3 → T4 → T5 → T6 → Prop} (hF : ∀ (n : Nat) (a0 : T0) (a1 : T1) (a2 : T2) (a3 : T3) (a4 : T4) (a5 : T5) (a6 : T6), F (n + 1) a0 a1 a2 a3 a4 a5 a6 = G (F n) a0 a1 a2 a3 a4 a5 a6) (Inv : Nat → T0 → T1 → T2 → T3 → T4 → T5 → T6 → Prop) (H : ∀ (k : T0 → T1 → T2 → T3 → T4 → T5 → T6 → Prop) (d : Nat) (a0 : T0) (a1 : T1) (a2 : T2) (a3 : T3) (a4 : T4) (a5 : T5) (a6 : T6), Inv d a0 a1 a2 a3 a4 a5 a6 → (∀ (e : Nat) (b0 : T0) (b1 : T1) (b2 : T2) (b3 : T3) (b4 : T4) (b5 : T5) (b6 : T6), e < d → Inv e b0 b1 b2 b3 b4 b5 b6 → k b0 b1 b2 b3 b4 b5 b6) → G k a0 a1 a2 a3 a4 a5 a6) (d : Nat) (a0 : T0) (a1 : T1) (a2 : T2) (a3 : T3) (a4 : T4) (a5 : T5) (a6 : T6) (h : Inv d a0 a1 a2 a3 a4 a5 a6) : ∃ n, F n a0 a1 a2 a3 a4 a5 a6 := ⟨d + 1, lq7 hF Inv H (d + 1) d a0 a1 a2 a3 a4 a5 a6 (by omega) h⟩
theorem lq8 {T0 T1 T2 T3 T4 T5 T6 T7 : Type} {F : Nat → T0 → T1 → T2 → T3 → T4 → T5 → T6 → T7 → Prop} {G : (T0 → T1 → T2 → T3 → T4 → T5 → T6 → T7 → Prop) → T0 → T1 → T2 → T3 → T4 → T5 → T6 → T7 → Prop} (hF : ∀ (n : Nat) (a0 : T0) (a1 : T1) (a2 : T2) (a3 : T3) (a4 : T4) (a5 : T5) (a6 : T6) (a7 : T7), F (n + 1) a0 a1 a2 a3 a4 a5 a6 a7 = G (F n) a0 a1 a2 a3 a4 a5 a6 a7) (Inv : Nat → T0 → T1 → T2 → T3 → T4 → T5 → T6 → T7 → Prop) (H : ∀ (k : T0 → T1 → T2 → T3 → T4 → T5 → T6 → T7 → Prop) (d : Nat) (a0 : T0) (a1 : T1) (a2 : T2) (a3 : T3) (a4 : T4) (a5 : T5) (a6 : T6) (a7 : T7), Inv d a0 a1 a2 a3 a4 a5 a6 a7 → (∀ (e : Nat) (b0 : T0) (b1 : T1) (b2 : T2) (b3 : T3) (b4 : T4) (b5 : T5) (b6 : T6) (b7 : T7), e < d → Inv e b0 b1 b2 b3 b4 b5 b6 b7 → k b0 b1 b2 b3 b4 b5 b6 b7) → G k a0 a1 a2 a3 a4 a5 a6 a7) : ∀ (n d : Nat) (a0 : T0) (a1 : T1) (a2 : T2) (a3 : T3) (a4 : T4) (a5 : T5) (a6 : T6) (a7 : T7), d < n → Inv d a0 a1 a2 a3 a4 a5 a6 a7 → F n a0 a1 a2 a3 a4 a5 a6 a7 := by
  intro n
  induction n with
  | zero => intro d a0 a1 a2 a3 a4 a5 a6 a7 h; omega
  | succ n ih =>
    intro d a0 a1 a2 a3 a4 a5 a6 a7 h hI
    rw [hF]
    exact H _ d a0 a1 a2 a3 a4 a5 a6 a7 hI (fun e b0 b1 b2 b3 b4 b5 b6 b7 he hI2 => ih e b0 b1 b2 b3 b4 b5 b6 b7 (by omega) hI2)
theorem lqe8 {T0 T1 T2 T3 T4 T5 T6 T7 : Type} {F : Nat → T0 → T1 → T2 → T3 → T4 → T5 → T6 → T7 → Prop} {G : (T0 → T1 → T2 → T3 → T4 → T5 → T6 → T7 → Prop) → T0 → T1 → T2 → T3 → T4 → T5 → T6 → T7 → Prop} (hF : ∀ (n : Nat) (a0 : T0) (a1 : T1) (a2 : T2) (a3 : T3) (a4 : T4) (a5 : T5) (a6 : T6) (a7 : T7), F (n + 1) a0 a1 a2 a3 a4 a5 a6 a7 = G (F n) a0 a1 a2 a3 a4 a5 a6 a7) (Inv : Nat → T0 → T1 → T2 → T3 → T4 → T5 → T6 → T7 → Prop) (H : ∀ (k : T0 → T1 → T2 → T3 → T4 → T5 → T6 → T7 → Prop) (d : Nat) (a0 : T0) (a1 : T1) (a2 : T2) (a3 : T3) (a4 : T4) (a5 : T5) (a6 : T6) (a7 : T7), Inv d a0 a1 a2 a3 a4 a5 a6 a7 → (∀ (e : Nat) (b0 : T0) (b1 : T1) (b2 : T2) (b3 : T3) (b4 : T4) (b5 : T5) (b6 : T6) (b7 : T7), e < d → Inv e b0 b1 b2 b3 b4 b5 b6 b7 → k b0 b1 b2 b3 b4 b5 b6 b7) → G k a0 a1 a2 a3 a4 a5 a6 a7) (d : Nat) (a0 : T0) (a1 : T1) (a2 : T2) (a3 : T3) (a4 : T4) (a5 : T5) (a6 : T6) (a7 : T7) (h : Inv d a0 a1 a2 a3 a4 a5 a6 a7) : ∃ n, F n a0 a1 a2 a3 a4 a5 a6 a7 := ⟨d + 1, lq8 hF Inv H (d + 1) d a0 a1 a2 a3 a4 a5 a6 a7 (by omega) h⟩
theorem lq9 {T0 T1 T2 T3 T4 T5 T6 T7 T8 : Type} {F : Nat → T0 → T1 → T2 → T3 → T4 → T5 → T6 → T7 → T8 → Prop} {G : (T0 → T1 → T2 → T3 → T4 → T5 → T6 → T7 → T8 → Prop) → T0 → T1 → T2 → T3 → T4 → T5 → T6 → T7 → T8 → Prop} (hF : ∀ (n : Nat) (a0 : T0) (a1 : T1) (a2 : T2) (a3 : T3) (a4 : T4) (a5 : T5) (a6 : T6) (a7 : T7) (a8 : T8), F (n + 1) a0 a1 a2 a3 a4 a5 a6 a7 a8 = G (F n) a0 a1 a2 a3 a4 a5 a6 a7 a8) (Inv : Nat → T0 → T1 → T2 → T3 → T4 → T5 → T6 → T7 → T8 → Prop) (H : ∀ (k : T0 → T1 → T2 → T3 → T4 → T5 → T6 → T7 → T8 → Prop) (d : Nat) (a0 : T0) (a1 : T1) (a2 : T2) (a3 : T3) (a4 : T4) (a5 : T5) (a6 : T6) (a7 : T7) (a8 : T8), Inv d a0 a1 a2 a3 a4 a5 a6 a7 a8 → (∀ (e : Nat) (b0 : T0) (b1 : T1) (b2 : T2) (b3 : T3) (b4 : T4) (b5 : T5) (b6 : T6) (b7 : T7) (b8 : T8), e < d → Inv e b0 b1 b2 b3 b4 b5 b6 b7 b8 → k b0 b1 b2 b3 b4 b5 b6 b7 b8) → G k a0 a1 a2 a3 a4 a5 a6 a7 a8) : ∀ (n d : Nat) (a0 : T0) (a1 : T1) (a2 : T2) (a3 : T3) (a4 : T4) (a5 : T5) (a6 : T6) (a7 : T7) (a8 : T8), d < n → Inv d a0 a1 a2 a3 a4 a5 a6 a7 a8 → F n a0 a1 a2 a3 a4 a5 a6 a7 a8 := by
  intro n
  induction n with
  | zero => intro d a0 a1 a2 a3 a4 a5 a6 a7 a8 h; omega
  | succ n ih =>
    intro d a0 a1 a2 a3 a4 a5 a6 a7 a8 h hI
    rw [hF]
    exact H _ d a0 a1 a2 a3 a4 a5 a6 a7 a8 hI (fun e b0 b1 b2 b3 b4 b5 b6 b7 b8 he hI2 => ih e b0 b1 b2 b3 b4 b5 b6 b7 b8 (by omega) hI2)
theorem lqe9 {T0 T1 T2 T3 T4 T5 T6 T7 T8 : Type} {F : Nat → T0 → T1 → T2 → T3 → T4 → T5 → T6 → T7 → T8 → Prop} {G : (T0 → T1 → T2 → T3 → T4 → T5 → T6 → T7 → T8 → Prop) → T0 → T1 → T2 → T3 → T4 → T5 → T6 → T7 → T8 → Prop} (hF : ∀ (n : Nat) (a0 : T0) (a1 : T1) (a2 : T2) (a3 : T3) (a4 : T4) (a5 : T5) (a6 : T6) (a7 : T7) (a8 : T8), F (n + 1) a0 a1 a2 a3 a4 a5 a6 a7 a8 = G (F n) a0 a1 a2 a3 a4 a5 a6 a7 a8) (Inv : Nat → T0 → T1 → T2 → T3 → T4 → T5 → T6 → T7 → T8 → Prop) (H : ∀ (k : T0 → T1 → T2 → T3 → T4 → T5 → T6 → T7 → T8 → Prop) (d : Nat) (a0 : T0) (a1 : T1) (a2 : T2) (a3 : T3) (a4 : T4) (a5 : T5) (a6 : T6) (a7 : T7) (a8 : T8), Inv d a0 a1 a2 a3 a4 a5 a6 a7 a8 → (∀ (e : Nat) (b0 : T0) (b1 : T1) (b2 : T2) (b3 : T3) (b4 : T4) (b5 : T5) (b6 : T6) (b7 : T7) (b8 : T8), e < d → Inv e b0 b1 b2 b3 b4 b5 b6 b7 b8 → k b0 b1 b2 b3 b4 b5 b6 b7 b8) → G k a0 a1 a2 a3 a4 a5 a6 a7 a8) (d : Nat) (a0 : T0) (a1 : T1) (a2 : T2) (a3 : T3) (a4 : T4) (a5 : T5) (a6 : T6) (a7 : T7) (a8 : T8) (h : Inv d a0 a1 a2 a3 a4 a5 a6 a7 a8) : ∃ n, F n a0 a1 a2 a3 a4 a5 a6 a7 a8 := ⟨d + 1, lq9 hF Inv H (d + 1) d a0 a1 a2 a3 a4 a5 a6 a7 a8 (by omega) h⟩
theorem lq10 {T0 T1 T2 T3 T4 T5 T6 T7 T8 T9 : Type} {F : Nat → T0 → T1 → T2 → T3 → T4 → T5 → T6 → T7 → T8 → T9 → Prop} {G : (T0 → T1 → T2 → T3 → T4 → T5 → T6 → T7 → T8 → T9 → Prop) → T0 → T1 → T2 → T3 → T4 → T5 → T6 → T7 → T8 → T9 → Prop} (hF : ∀ (n : Nat) (a0 : T0) (a1 : T1) (a2 : T2) (a3 : T3) (a4 : T4) (a5 : T5) (a6 : T6) (a7 : T7) (a8 : T8) (a9 : T9), F (n + 1) a0 a1 a2 a3 a4 a5 a6 a7 a8 a9 = G (F n) a0 a1 a2 a3 a4 a5 a6 a7 a8 a9) (Inv : Nat → T0 → T1 → T2 → T3 → T4 → T5 → T6 → T7 → T8 → T9 → Prop) (H : ∀ (k : T0 → T1 → T2 → T3 → T4 → T5 → T6 → T7 → T8 → T9 → Prop) (d : Nat) (a0 : T0) (a1 : T1) (a2 : T2) (a3 : T3) (a4 : T4) (a5 : T5) (a6 : T6) (a7 : T7) (a8 : T8) (a9 : T9), Inv d a0 a1 a2 a3 a4 a5 a6 a7 a8 a9 → (∀ (e : Nat) (b0 : T0) (b1 : T1) (b2 : T2) (b3 : T3) (b4 : T4) (b5 : T5) (b6 : T6) (b7 : T7) (b8 : T8) (b9 : T9), e < d → Inv e b0 b1 b2 b3 b4 b5 b6 b7 b8 b9 → k b0 b1 b2 b3 b4 b5 b6 b7 b8 b9) → G k a0 a1 a2 a3 a4 a5 a6 a7 a8 a9) : ∀ (n d : Nat) (a0 : T0) (a1 : T1) (a2 : T2) (a3 : T3) (a4 : T4) (a5 : T5) (a6 : T6) (a7 : T7) (a8 : T8) (a9 : T9), d < n → Inv d a0 a1 a2 a3 a4 a5 a6 a7 a8 a9 → F n a0 a1 a2 a3 a4 a5 a6 a7 a8 a9 := by
  intro n
  induction n with
  | zero => intro d a0 a1 a2 a3 a4 a5 a6 a7 a8 a9 h; omega
  | succ n ih =>
    intro d a0 a1 a2 a3 a4 a5 a6 a7 a8 a9 h hI
    rw [hF]
    exact H _ d a0 a1 a2 a3 a4 a5 a6 a7 a8 a9 hI (fun e b0 b1 b2 b3 b4 b5 b6 b7 b8 b9 he hI2 => ih e b0 b1 b2 b3 b4 b5 b6 b7 b8 b9 (by omega) hI2)
theorem lqe10 {T0 T1 T2 T3 T4 T5 T6 T7 T8 T9 : Type} {F : Nat → T0 → T1 → T2 → T3 → T4 → T5 → T6 → T7 → T8 → T9 → Prop} {G : (T0 → T1 → T2 → T3 → T4 → T5 → T6 → T7 → T8 → T9 → Prop) → T0 → T1 → T2 → T3 → T4 → T5 → T6 → T7 → T8 → T9 → Prop} (hF : ∀ (n : Nat) (a0 : T0) (a1 : T1) (a2 : T2) (a3 : T3) (a4 : T4) (a5 : T5) (a6 : T6) (a7 : T7) (a8 : T8) (a9 : T9), F (n + 1) a0 a1 a2 a3 a4 a5 a6 a7 a8 a9 = G (F n) a0 a1 a2 a3 a4 a5 a6 a7 a8 a9) (Inv : Nat → T0 → T1 → T2 → T3 → T4 → T5 → T6 → T7 → T8 → T9 → Prop) (H : ∀ (k : T0 → T1 → T2 → T3 → T4 → T5 → T6 → T7 → T8 → T9 → Prop) (d : Nat) (a0 : T0) (a1 : T1) (a2 : T2) (a3 : T3) (a4 : T4) (a5 : T5) (a6 : T6) (a7 : T7) (a8 : T8) (a9 : T9), Inv d a0 a1 a2 a3 a4 a5 a6 a7 a8 a9 → (∀ (e : Nat) (b0 : T0) (b1 : T1) (b2 : T2) (b3 : T3) (b4 : T4) (b5 : T5) (b6 : T6) (b7 : T7) (b8 : T8) (b9 : T9), e < d → Inv e b0 b1 b2 b3 b4 b5 b6 b7 b8 b9 → k b0 b1 b2 b3 b4 b5 b6 b7 b8 b9) → G k a0 a1 a2 a3 a4 a5 a6 a7 a8 a9) (d : Nat) (a0 : T0) (a1 : T1) (a2 : T2) (a3 : T3) (a4 : T4) (a5 : T5) (a6 : T6) (a7 : T7) (a8 : T8) (a9 : T9) (h : Inv d a0 a1 a2 a3 a4 a5 a6 a7 a8 a9) : ∃ n, F n a0 a1 a2 a3 a4 a5 a6 a7 a8 a9 := ⟨d + 1, lq10 hF Inv H (d + 1) d a0 a1 a2 a3 a4 a5 a6 a7 a8 a9 (by omega) h⟩
def iu {α : Type} (g : Nat → α) (k : Nat) (v : α) : Nat → α := fun j => if j = k then v else g j
theorem iu_s {α : Type} (g : Nat → α) (k : Nat) (v : α) : iu g k v k = v := if_pos rfl
theorem iu_n {α : Type} {g : Nat → α} {k j : Nat} {v : α} (h : j ≠ k) : iu g k v j = g j := if_neg h
theorem iu_p {f : Nat → Int32} {g : Nat → Int} {c : Nat} {v : Int32} {z : Int} (hv : v = iI z) (h : ∀ k, k < c → f k = iI (g k)) : ∀ k, k < c + 1 → upd f c v k = iI (iu g c z k) := by
  intro k hk
  rcases Nat.lt_or_ge k c with h4 | h4
  · rw [pk_un (by omega), iu_n (by omega)]; exact h k h4
  · have : k = c := by omega
    subst this
    rw [pk_us, iu_s]; exact hv
theorem iu_q {f : Nat → Int32} {g : Nat → Int} {c : Nat} {v : Int32} (hv : v = iI (g c)) (h : ∀ k, k < c → f k = iI (g k)) : ∀ k, k < c + 1 → upd f c v k = iI (g k) := by
  intro k hk
  rcases Nat.lt_or_ge k c with h4 | h4
  · rw [pk_un (by omega)]; exact h k h4
  · have : k = c := by omega
    subst this
    rw [pk_us]; exact hv
/-- frames: what stays -/
def xf (I A L : List Nat) (x y : xs_St) : Prop := (∀ k, k ∉ I → xi y k = xi x k) ∧ (∀ k, k ∉ A → xa y k = xa x k) ∧ (∀ k, k ∉ L → xl y k = xl x k) ∧ y.2 = x.2
def mf (I A L : List Nat) (x y : th_St) : Prop := (∀ k, k ∉ I → y.1 k = x.1 k) ∧ (∀ k, k ∉ A → y.2.2.1 k = x.2.2.1 k) ∧ (∀ k, k ∉ L → y.2.2.2 k = x.2.2.2 k)
theorem xf_r {I A L : List Nat} (x : xs_St) : xf I A L x x := ⟨fun _ _ => rfl, fun _ _ => rfl, fun _ _ => rfl, rfl⟩
theorem mf_r {I A L : List Nat} (x : th_St) : mf I A L x x := ⟨fun _ _ => rfl, fun _ _ => rfl, fun _ _ => rfl⟩
theorem xf_i {I A L : List Nat} {x y : xs_St} {k : Nat} {v : Int32} (hk : k ∈ I) (h : xf I A L x y) : xf I A L x (xs_si y k v) := by
  refine ⟨fun j hj => ?_, h.2.1, h.2.2.1, h.2.2.2⟩
  show va_up y.1.1 k v j = _
  rw [va_up_ne _ _ (show j ≠ k from fun e => hj (by rw [e]; exact hk))]; exact h.1 j hj
theorem xf_a {I A L : List Nat} {x y : xs_St} {k : Nat} {f : Nat → Int32} (hk : k ∈ A) (h : xf I A L x y) : xf I A L x (xs_sa y k f) := by
  refine ⟨h.1, fun j hj => ?_, h.2.2.1, h.2.2.2⟩
  show va_up y.1.2.2.1 k f j = _
  rw [va_up_ne _ _ (show j ≠ k from fun e => hj (by rw [e]; exact hk))]; exact h.2.1 j hj
theorem xf_l {I A L : List Nat} {x y : xs_St} {k : Nat} {f : Nat → Int64} (hk : k ∈ L) (h : xf I A L x y) : xf I A L x (xs_sl y k f) := by
  refine ⟨h.1, h.2.1, fun j hj => ?_, h.2.2.2⟩
  show va_up y.1.2.2.2 k f j = _
  rw [va_up_ne _ _ (show j ≠ k from fun e => hj (by rw [e]; exact hk))]; exact h.2.2.1 j hj
theorem mf_i {I A L : List Nat} {x y : th_St} {k : Nat} {v : Int32} (hk : k ∈ I) (h : mf I A L x y) : mf I A L x (th_si y k v) := by
  refine ⟨fun j hj => ?_, h.2.1, h.2.2⟩
  show va_up y.1 k v j = _
  rw [va_up_ne _ _ (show j ≠ k from fun e => hj (by rw [e]; exact hk))]; exact h.1 j hj
theorem mf_a {I A L : List Nat} {x y : th_St} {k : Nat} {f : Nat → Int32} (hk : k ∈ A) (h : mf I A L x y) : mf I A L x (th_sa y k f) := by
  refine ⟨h.1, fun j hj => ?_, h.2.2⟩
  show va_up y.2.2.1 k f j = _
  rw [va_up_ne _ _ (show j ≠ k from fun e => hj (by rw [e]; exact hk))]; exact h.2.1 j hj
theorem mf_l {I A L : List Nat} {x y : th_St} {k : Nat} {f : Nat → Int64} (hk : k ∈ L) (h : mf I A L x y) : mf I A L x (th_sl y k f) := by
  refine ⟨h.1, h.2.1, fun j hj => ?_⟩
  show va_up y.2.2.2 k f j = _
  rw [va_up_ne _ _ (show j ≠ k from fun e => hj (by rw [e]; exact hk))]; exact h.2.2 j hj
theorem xf_t {I A L : List Nat} {x y z : xs_St} (h : xf I A L x y) (h2 : xf I A L y z) : xf I A L x z := ⟨fun k hk => (h2.1 k hk).trans (h.1 k hk), fun k hk => (h2.2.1 k hk).trans (h.2.1 k hk), fun k hk => (h2.2.2.1 k hk).trans (h.2.2.1 k hk), h2.2.2.2.trans h.2.2.2⟩
theorem mf_t {I A L : List Nat} {x y z : th_St} (h : mf I A L x y) (h2 : mf I A L y z) : mf I A L x z := ⟨fun k hk => (h2.1 k hk).trans (h.1 k hk), fun k hk => (h2.2.1 k hk).trans (h.2.1 k hk), fun k hk => (h2.2.2 k hk).trans (h.2.2 k hk)⟩
theorem xf_w {I A L I' A' L' : List Nat} {x y : xs_St} (h : xf I A L x y) (hI : ∀ k, k ∈ I → k ∈ I') (hA : ∀ k, k ∈ A → k ∈ A') (hL : ∀ k, k ∈ L → k ∈ L') : xf I' A' L' x y := ⟨fun k hk => h.1 k (fun q => hk (hI k q)), fun k hk => h.2.1 k (fun q => hk (hA k q)), fun k hk => h.2.2.1 k (fun q => hk (hL k q)), h.2.2.2⟩
theorem mf_w {I A L I' A' L' : List Nat} {x y : th_St} (h : mf I A L x y) (hI : ∀ k, k ∈ I → k ∈ I') (hA : ∀ k, k ∈ A → k ∈ A') (hL : ∀ k, k ∈ L → k ∈ L') : mf I' A' L' x y := ⟨fun k hk => h.1 k (fun q => hk (hI k q)), fun k hk => h.2.1 k (fun q => hk (hA k q)), fun k hk => h.2.2 k (fun q => hk (hL k q))⟩

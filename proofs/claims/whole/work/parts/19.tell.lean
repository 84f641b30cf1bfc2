/-! tellings: sums, bits, what is counted -/
theorem fsT_k {f g : Nat → Nat} (N : Nat) (h : ∀ s, s < N → f s = g s) : fsT f N = fsT g N := by
  induction N with
  | zero => rfl
  | succ N ih => rw [fsT, fsT, ih (fun s hs => h s (by omega)), h N (by omega)]
theorem fsT_m (c : Nat) (f : Nat → Nat) (N : Nat) : fsT (fun s => c * f s) N = c * fsT f N := by
  induction N with
  | zero => rfl
  | succ N ih => rw [fsT, fsT, ih, Nat.mul_add]
theorem fsT_r (c : Nat) (f : Nat → Nat) (N : Nat) : fsT (fun s => f s * c) N = fsT f N * c := by
  induction N with
  | zero => exact (Nat.zero_mul c).symm
  | succ N ih => rw [fsT, fsT, ih, Nat.add_mul]
theorem fsT_0 (N : Nat) : fsT (fun _ => 0) N = 0 := by
  induction N with
  | zero => rfl
  | succ N ih => rw [fsT, ih]
theorem fsT_sw (f : Nat → Nat → Nat) (N M : Nat) : fsT (fun a => fsT (fun b => f a b) M) N = fsT (fun b => fsT (fun a => f a b) N) M := by
  induction N with
  | zero => exact (fsT_0 M).symm
  | succ N ih => rw [fsT, ih, ← fsT_add]; exact fsT_k M (fun b _ => rfl)
theorem fsT_p (f : Nat → Nat) (N : Nat) : 0 < fsT f N ↔ ∃ s, s < N ∧ 0 < f s := by
  induction N with
  | zero => exact ⟨fun h => absurd h (Nat.lt_irrefl 0), fun ⟨s, h, _⟩ => absurd h (Nat.not_lt_zero s)⟩
  | succ N ih =>
    rw [fsT]
    constructor
    · intro h
      rcases Nat.eq_zero_or_pos (fsT f N) with h0 | h0
      · exact ⟨N, by omega, by omega⟩
      · obtain ⟨s, h1, h2⟩ := ih.mp h0
        exact ⟨s, by omega, h2⟩
    · rintro ⟨s, h1, h2⟩
      rcases Nat.lt_or_ge s N with h3 | h3
      · have := ih.mpr ⟨s, h3, h2⟩; omega
      · have : s = N := by omega
        subst this; omega
theorem fsT_1 (f : Nat → Nat) (N k : Nat) : fsT (fun s => if s = k then f s else 0) N = if k < N then f k else 0 := by
  induction N with
  | zero => rw [if_neg (by omega)]; rfl
  | succ N ih =>
    rw [fsT, ih]
    by_cases h : N = k
    · subst h; rw [if_neg (by omega), if_pos rfl, if_pos (by omega)]; omega
    · rw [if_neg h]
      by_cases h2 : k < N
      · rw [if_pos h2, if_pos (by omega)]; omega
      · rw [if_neg h2, if_neg (by omega)]
theorem fsT_bd {f : Nat → Nat} {B : Nat} (N : Nat) (h : ∀ s, s < N → f s ≤ B) : fsT f N ≤ N * B := by
  induction N with
  | zero => rw [Nat.zero_mul]; exact Nat.le_refl 0
  | succ N ih =>
    have h1 := ih (fun s hs => h s (by omega))
    have h2 := h N (by omega)
    rw [fsT, Nat.add_mul, Nat.one_mul]; omega
theorem fsT_wn (f : Nat → Nat) (lo hi : Nat) (h : lo ≤ hi + 1) (N : Nat) : fsT (fun a => if lo ≤ a ∧ a ≤ hi then f a else 0) N + fsT f (min N lo) = fsT f (min N (hi + 1)) := by
  induction N with
  | zero => rw [Nat.zero_min, Nat.zero_min]; rfl
  | succ N ih =>
    rw [fsT]
    by_cases h1 : N < lo
    · rw [if_neg (by omega), show min (N + 1) lo = N + 1 by omega, show min (N + 1) (hi + 1) = N + 1 by omega]
      rw [show min N lo = N by omega, show min N (hi + 1) = N by omega] at ih
      rw [fsT]; omega
    · by_cases h2 : N ≤ hi
      · rw [if_pos (by omega), show min (N + 1) lo = lo by omega, show min (N + 1) (hi + 1) = N + 1 by omega]
        rw [show min N lo = lo by omega, show min N (hi + 1) = N by omega] at ih
        rw [fsT]; omega
      · rw [if_neg (by omega), show min (N + 1) lo = lo by omega, show min (N + 1) (hi + 1) = hi + 1 by omega]
        rw [show min N lo = lo by omega, show min N (hi + 1) = hi + 1 by omega] at ih
        omega
def tSat (x : Nat) : Nat := min x 1000000000000000
theorem tSat_le (x : Nat) : tSat x ≤ 1000000000000000 := Nat.min_le_right _ _
theorem tSat_p (x : Nat) : 0 < tSat x ↔ 0 < x := by unfold tSat; omega
theorem tSat_a (x y : Nat) : tSat (tSat x + tSat y) = tSat (x + y) := by unfold tSat; omega
theorem tSat_b (x y : Nat) : tSat (x + tSat y) = tSat (x + y) := by unfold tSat; omega
theorem tSat_c (x y : Nat) : tSat (tSat x + y) = tSat (x + y) := by unfold tSat; omega
theorem tSat_s (f : Nat → Nat) (N : Nat) : tSat (fsT (fun s => tSat (f s)) N) = tSat (fsT f N) := by
  induction N with
  | zero => rfl
  | succ N ih => rw [fsT, fsT, tSat_b, ← tSat_c, ih, tSat_c]
theorem tSat_i (p : Prop) [Decidable p] (x : Nat) : (if p then tSat x else 0) = tSat (if p then x else 0) := by
  by_cases h : p
  · rw [if_pos h, if_pos h]
  · rw [if_neg h, if_neg h]; rfl
/-- what foot i, with its neighbours, may feel: a, b, c are 15 more -/
def tFit (S : Nat → Int) (v : Nat) (i a b c : Nat) : Prop := S i - v ≤ 2 * (b : Int) + a + c - 60 ∧ 2 * (b : Int) + a + c - 60 ≤ S i + v
theorem tFit_dec (S : Nat → Int) (v i a b c : Nat) : tFit S v i a b c ∨ ¬ tFit S v i a b c := Classical.em _
noncomputable def tI (p : Prop) (x : Nat) : Nat := @ite Nat p (Classical.propDecidable p) x 0
theorem tI_t {p : Prop} {x : Nat} (h : p) : tI p x = x := by unfold tI; exact if_pos h
theorem tI_f {p : Prop} {x : Nat} (h : ¬ p) : tI p x = 0 := by unfold tI; exact if_neg h
theorem tI_sat (p : Prop) (x : Nat) : tI p (tSat x) = tSat (tI p x) := by
  by_cases h : p
  · rw [tI_t h, tI_t h]
  · rw [tI_f h, tI_f h]; rfl
theorem tI_le (p : Prop) (x : Nat) : tI p x ≤ x := by
  by_cases h : p
  · rw [tI_t h]; exact Nat.le_refl _
  · rw [tI_f h]; exact Nat.zero_le _
theorem tI_p (p : Prop) (x : Nat) : 0 < tI p x ↔ p ∧ 0 < x := by
  by_cases h : p
  · rw [tI_t h]; exact ⟨fun q => ⟨h, q⟩, fun q => q.2⟩
  · rw [tI_f h]; exact ⟨fun q => absurd q (Nat.lt_irrefl 0), fun q => absurd q.1 h⟩
/-- ways up to there, ways from there on -/
noncomputable def tF (S : Nat → Int) (v : Nat) : Nat → Nat → Nat → Nat
  | 0, a, _ => if a = 15 then 1 else 0
  | i + 1, b, c => fsT (fun a => tI (tFit S v i a b c) (tF S v i a b)) 31
noncomputable def tG (S : Nat → Int) (v : Nat) : Nat → Nat → Nat → Nat → Nat
  | 0, _, _, b => if b = 15 then 1 else 0
  | d + 1, i, a, b => fsT (fun c => tI (tFit S v i a b c) (tG S v d (i + 1) b c)) 31
noncomputable def tJ (S : Nat → Int) (v d i : Nat) : Nat := fsT (fun a => fsT (fun b => tF S v i a b * tG S v d i a b) 31) 31
theorem tJ_s (S : Nat → Int) (v d i : Nat) : tJ S v (d + 1) i = tJ S v d (i + 1) := by
  have h1 : tJ S v (d + 1) i = fsT (fun a => fsT (fun b => fsT (fun c => tI (tFit S v i a b c) (tF S v i a b * tG S v d (i + 1) b c)) 31) 31) 31 := by
    refine fsT_k 31 (fun a _ => fsT_k 31 (fun b _ => ?_))
    rw [tG, ← fsT_m]
    refine fsT_k 31 (fun c _ => ?_)
    by_cases h : tFit S v i a b c
    · rw [tI_t h, tI_t h]
    · rw [tI_f h, tI_f h]; rfl
  have h2 : tJ S v d (i + 1) = fsT (fun b => fsT (fun c => fsT (fun a => tI (tFit S v i a b c) (tF S v i a b * tG S v d (i + 1) b c)) 31) 31) 31 := by
    refine fsT_k 31 (fun b _ => fsT_k 31 (fun c _ => ?_))
    rw [tF, ← fsT_r]
    refine fsT_k 31 (fun a _ => ?_)
    by_cases h : tFit S v i a b c
    · rw [tI_t h, tI_t h]
    · rw [tI_f h, tI_f h, Nat.zero_mul]
  rw [h1, h2, fsT_sw]
  refine fsT_k 31 (fun b _ => ?_)
  exact fsT_sw _ 31 31
theorem tJ_i (S : Nat → Int) (v n : Nat) : ∀ i d, i + d = n → tJ S v d i = tJ S v n 0 := by
  intro i
  induction i with
  | zero => intro d h; rw [show d = n by omega]
  | succ i ih => intro d h; rw [← tJ_s]; exact ih (d + 1) (by omega)
theorem tJ_0 (S : Nat → Int) (v n : Nat) : tJ S v n 0 = fsT (fun b => tG S v n 0 15 b) 31 := by
  have : tJ S v n 0 = fsT (fun a => if a = 15 then fsT (fun b => tG S v n 0 a b) 31 else 0) 31 := by
    refine fsT_k 31 (fun a _ => ?_)
    by_cases h : a = 15
    · rw [if_pos h]; refine fsT_k 31 (fun b _ => ?_); rw [tF, if_pos h, Nat.one_mul]
    · rw [if_neg h]
      rw [fsT_k (g := fun _ => 0) 31 (fun b _ => by rw [tF, if_neg h, Nat.zero_mul])]
      exact fsT_0 31
  rw [this, fsT_1]; rfl
theorem tJ_n (S : Nat → Int) (v n : Nat) : tJ S v n 0 = fsT (fun b => tF S v n b 15) 31 := by
  rw [← tJ_i S v n n 0 (by omega)]
  refine fsT_k 31 (fun a _ => ?_)
  have : fsT (fun b => tF S v n a b * tG S v 0 n a b) 31 = fsT (fun b => if b = 15 then tF S v n a b else 0) 31 := by
    refine fsT_k 31 (fun b _ => ?_)
    rw [tG]
    by_cases h : b = 15
    · rw [if_pos h, if_pos h, Nat.mul_one]
    · rw [if_neg h, if_neg h]; rfl
  rw [this, fsT_1]; rfl
/-- what foot i may feel -/
def tFe (S : Nat → Int) (v n i b : Nat) : Prop := ∃ a, a < 31 ∧ 0 < tF S v i a b ∧ 0 < tG S v (n - i) i a b
theorem tFe_ex {S : Nat → Int} {v n : Nat} (h : 0 < tJ S v n 0) {i : Nat} (hi : i ≤ n) : ∃ b, b < 31 ∧ tFe S v n i b := by
  rw [← tJ_i S v n i (n - i) (by omega)] at h
  obtain ⟨a, ha, h1⟩ := (fsT_p _ _).mp h
  obtain ⟨b, hb, h2⟩ := (fsT_p _ _).mp h1
  exact ⟨b, hb, a, ha, Nat.pos_of_mul_pos_right h2, Nat.pos_of_mul_pos_left h2⟩
/-- the pair of feet i, i + 1 -/
theorem tFe_l {S : Nat → Int} {v n i b : Nat} (hi : i < n) : tFe S v n i b ↔ ∃ c, c < 31 ∧ 0 < tF S v (i + 1) b c ∧ 0 < tG S v (n - (i + 1)) (i + 1) b c := by
  unfold tFe
  rw [show n - i = (n - (i + 1)) + 1 by omega]
  constructor
  · rintro ⟨a, ha, h1, h2⟩
    rw [tG] at h2
    obtain ⟨c, hc, h3⟩ := (fsT_p _ _).mp h2
    obtain ⟨h4, h5⟩ := (tI_p _ _).mp h3
    refine ⟨c, hc, ?_, h5⟩
    rw [tF]
    exact (fsT_p _ _).mpr ⟨a, ha, (tI_p _ _).mpr ⟨h4, h1⟩⟩
  · rintro ⟨c, hc, h1, h2⟩
    rw [tF] at h1
    obtain ⟨a, ha, h3⟩ := (fsT_p _ _).mp h1
    obtain ⟨h4, h5⟩ := (tI_p _ _).mp h3
    refine ⟨a, ha, h5, ?_⟩
    rw [tG]
    exact (fsT_p _ _).mpr ⟨c, hc, (tI_p _ _).mpr ⟨h4, h2⟩⟩
def tLe (P : Nat → Prop) (z : Int) : Prop := (∃ b : Nat, b < 31 ∧ P b ∧ z = (b : Int) - 15) ∧ ∀ b : Nat, b < 31 → P b → z ≤ (b : Int) - 15
def tMo (P : Nat → Prop) (z : Int) : Prop := (∃ b : Nat, b < 31 ∧ P b ∧ z = (b : Int) - 15) ∧ ∀ b : Nat, b < 31 → P b → (b : Int) - 15 ≤ z
theorem tLe_u {P : Nat → Prop} {y z : Int} (h : tLe P y) (h2 : tLe P z) : y = z := by
  obtain ⟨⟨b, hb, hp, e⟩, h⟩ := h
  obtain ⟨⟨c, hc, hq, e2⟩, h2⟩ := h2
  have := h c hc hq
  have := h2 b hb hp
  omega
theorem tMo_u {P : Nat → Prop} {y z : Int} (h : tMo P y) (h2 : tMo P z) : y = z := by
  obtain ⟨⟨b, hb, hp, e⟩, h⟩ := h
  obtain ⟨⟨c, hc, hq, e2⟩, h2⟩ := h2
  have := h c hc hq
  have := h2 b hb hp
  omega
/-- least and greatest so far of what was looked at, from a start -/
def tLs (s : Int) (P : Nat → Prop) (z : Int) : Prop := (z = s ∨ ∃ b : Nat, b < 31 ∧ P b ∧ z = (b : Int) - 15) ∧ z ≤ s ∧ ∀ b : Nat, b < 31 → P b → z ≤ (b : Int) - 15
def tMs (s : Int) (P : Nat → Prop) (z : Int) : Prop := (z = s ∨ ∃ b : Nat, b < 31 ∧ P b ∧ z = (b : Int) - 15) ∧ s ≤ z ∧ ∀ b : Nat, b < 31 → P b → (b : Int) - 15 ≤ z
theorem tLs_0 (s : Int) : tLs s (fun _ => False) s := ⟨Or.inl rfl, Int.le_refl _, fun _ _ h => h.elim⟩
theorem tMs_0 (s : Int) : tMs s (fun _ => False) s := ⟨Or.inl rfl, Int.le_refl _, fun _ _ h => h.elim⟩
theorem tLs_c {s : Int} {P Q : Nat → Prop} {z : Int} (h : tLs s P z) (hPQ : ∀ b, b < 31 → (P b ↔ Q b)) : tLs s Q z := by
  refine ⟨h.1.elim Or.inl (fun ⟨b, hb, hp, e⟩ => Or.inr ⟨b, hb, (hPQ b hb).mp hp, e⟩), h.2.1, fun b hb hq => h.2.2 b hb ((hPQ b hb).mpr hq)⟩
theorem tMs_c {s : Int} {P Q : Nat → Prop} {z : Int} (h : tMs s P z) (hPQ : ∀ b, b < 31 → (P b ↔ Q b)) : tMs s Q z := by
  refine ⟨h.1.elim Or.inl (fun ⟨b, hb, hp, e⟩ => Or.inr ⟨b, hb, (hPQ b hb).mp hp, e⟩), h.2.1, fun b hb hq => h.2.2 b hb ((hPQ b hb).mpr hq)⟩
theorem tLs_a {s : Int} {P : Nat → Prop} {z : Int} (h : tLs s P z) {c : Nat} (hc : c < 31) : tLs s (fun b => P b ∨ b = c) (if (c : Int) - 15 < z then (c : Int) - 15 else z) := by
  by_cases h1 : (c : Int) - 15 < z
  · rw [if_pos h1]
    refine ⟨Or.inr ⟨c, hc, Or.inr rfl, rfl⟩, by have := h.2.1; omega, fun b hb hp => ?_⟩
    rcases hp with hp | rfl
    · have := h.2.2 b hb hp; omega
    · exact Int.le_refl _
  · rw [if_neg h1]
    refine ⟨h.1.elim Or.inl (fun ⟨b, hb, hp, e⟩ => Or.inr ⟨b, hb, Or.inl hp, e⟩), h.2.1, fun b hb hp => ?_⟩
    rcases hp with hp | rfl
    · exact h.2.2 b hb hp
    · omega
theorem tMs_a {s : Int} {P : Nat → Prop} {z : Int} (h : tMs s P z) {c : Nat} (hc : c < 31) : tMs s (fun b => P b ∨ b = c) (if z < (c : Int) - 15 then (c : Int) - 15 else z) := by
  by_cases h1 : z < (c : Int) - 15
  · rw [if_pos h1]
    refine ⟨Or.inr ⟨c, hc, Or.inr rfl, rfl⟩, by have := h.2.1; omega, fun b hb hp => ?_⟩
    rcases hp with hp | rfl
    · have := h.2.2 b hb hp; omega
    · exact Int.le_refl _
  · rw [if_neg h1]
    refine ⟨h.1.elim Or.inl (fun ⟨b, hb, hp, e⟩ => Or.inr ⟨b, hb, Or.inl hp, e⟩), h.2.1, fun b hb hp => ?_⟩
    rcases hp with hp | rfl
    · exact h.2.2 b hb hp
    · omega
theorem tLs_e {s : Int} (hs : 15 ≤ s) {P : Nat → Prop} {z : Int} (h : tLs s P z) (hx : ∃ b, b < 31 ∧ P b) : tLe P z := by
  refine ⟨?_, h.2.2⟩
  rcases h.1 with h1 | h1
  · obtain ⟨b, hb, hp⟩ := hx
    have := h.2.2 b hb hp
    exact ⟨b, hb, hp, by omega⟩
  · exact h1
theorem tMs_e {s : Int} (hs : s ≤ -15) {P : Nat → Prop} {z : Int} (h : tMs s P z) (hx : ∃ b, b < 31 ∧ P b) : tMo P z := by
  refine ⟨?_, h.2.2⟩
  rcases h.1 with h1 | h1
  · obtain ⟨b, hb, hp⟩ := hx
    have := h.2.2 b hb hp
    exact ⟨b, hb, hp, by omega⟩
  · exact h1
/-- sets as bits -/
def bs (x : Int32) (P : Nat → Prop) : Prop := ∀ j, j < 32 → (x.toBitVec.getLsbD j = true ↔ (j < 31 ∧ P j))
theorem bs_0 : bs 0 (fun _ => False) := fun j _ => by
  rw [show (0 : Int32).toBitVec = 0#32 from rfl, BitVec.getLsbD_zero]; simp
theorem bs_c {x : Int32} {P Q : Nat → Prop} (h : bs x P) (hPQ : ∀ j, j < 31 → (P j ↔ Q j)) : bs x Q := fun j hj => (h j hj).trans ⟨fun q => ⟨q.1, (hPQ j q.1).mp q.2⟩, fun q => ⟨q.1, (hPQ j q.1).mpr q.2⟩⟩
theorem bs_1 : ∀ k, k < 31 → ∀ j, j < 32 → ((1 : Int32) <<< (nI k &&& (31 : Int32))).toBitVec.getLsbD j = decide (j = k) := by decide +kernel
theorem bs_m : ∀ k, k < 32 → ∀ j, j < 32 → (((1 : Int32) <<< (nI k &&& (31 : Int32))) - 1).toBitVec.getLsbD j = decide (j < k) := by decide +kernel
theorem bs_n : ∀ j, j < 32 → (-1 : Int32).toBitVec.getLsbD j = true := by decide +kernel
theorem bs_or {x : Int32} {P : Nat → Prop} {k : Nat} (h : bs x P) (hk : k < 31) : bs (x ||| ((1 : Int32) <<< (nI k &&& (31 : Int32)))) (fun j => P j ∨ j = k) := fun j hj => by
  rw [Int32.toBitVec_or, BitVec.getLsbD_or, bs_1 k hk j hj, Bool.or_eq_true, h j hj, decide_eq_true_iff]
  constructor
  · rintro (⟨h1, h2⟩ | rfl)
    · exact ⟨h1, Or.inl h2⟩
    · exact ⟨hk, Or.inr rfl⟩
  · rintro ⟨h1, h2 | h2⟩
    · exact Or.inl ⟨h1, h2⟩
    · exact Or.inr h2
theorem bs_and {x y : Int32} {P Q : Nat → Prop} (hx : bs x P) (hy : bs y Q) : (x &&& y = 0) ↔ ∀ j, j < 31 → ¬ (P j ∧ Q j) := by
  constructor
  · intro h j hj hpq
    have e : (x &&& y).toBitVec.getLsbD j = true := by
      rw [Int32.toBitVec_and, BitVec.getLsbD_and, (hx j (by omega)).mpr ⟨hj, hpq.1⟩, (hy j (by omega)).mpr ⟨hj, hpq.2⟩]; rfl
    rw [h, show (0 : Int32).toBitVec = 0#32 from rfl, BitVec.getLsbD_zero] at e
    cases e
  · intro h
    apply Int32.toBitVec_inj.mp
    apply BitVec.eq_of_getLsbD_eq
    intro j hj
    rw [show (0 : Int32).toBitVec = 0#32 from rfl, BitVec.getLsbD_zero, Int32.toBitVec_and, BitVec.getLsbD_and]
    cases e : x.toBitVec.getLsbD j && y.toBitVec.getLsbD j with
    | false => rfl
    | true =>
      rw [Bool.and_eq_true] at e
      have h1 := (hx j hj).mp e.1
      have h2 := (hy j hj).mp e.2
      exact absurd ⟨h1.2, h2.2⟩ (h j h1.1)
theorem bs_15 : bs 32768 (fun j => j = 15) := fun j hj => by
  have : ∀ j, j < 32 → (32768 : Int32).toBitVec.getLsbD j = decide (j = 15) := by decide +kernel
  rw [this j hj, decide_eq_true_iff]
  exact ⟨fun h => ⟨by omega, h⟩, fun h => h.2⟩
theorem sx_bits {x : xs_St} {lo hi : Int} {K : Int32 → xs_St → Prop} (h1 : -100000 ≤ lo) (h2 : lo ≤ 100000) (h3 : -100000 ≤ hi) (h4 : hi ≤ 100000) (h : ∀ r, bs r (fun j => lo ≤ (j : Int) ∧ (j : Int) ≤ hi) → K r x) : X_US_bits (iI lo) (iI hi) x K := by
  have c1 : ((0 : Int32) < iI lo) = (0 < lo) := ii_lt (a := 0) (by omega) (by omega) (by omega) (by omega)
  have c2 : (iI hi < (30 : Int32)) = (hi < 30) := ii_lt (b := 30) (by omega) (by omega) (by omega) (by omega)
  unfold X_US_bits
  intro y1 e1 y2 e2
  have e1 : y1 = nI lo.toNat := by
    rw [e1]
    by_cases q : 0 < lo
    · rw [if_pos (by rw [c1]; exact q), ← ii_nat, show ((lo.toNat : Nat) : Int) = lo by omega]
    · rw [if_neg (by rw [c1]; exact q), show lo.toNat = 0 by omega]; rfl
  have e2 : y2 = iI (min hi 30) := by
    rw [e2]
    by_cases q : hi < 30
    · rw [if_pos (by rw [c2]; exact q), show min hi 30 = hi by omega]
    · rw [if_neg (by rw [c2]; exact q), show min hi 30 = 30 by omega]; rfl
  subst e1; subst e2
  have c3 : (nI lo.toNat ≤ iI (min hi 30)) = (((lo.toNat : Nat) : Int) ≤ min hi 30) := ii_leR (by omega) (by omega) (by omega)
  unfold X_US_bits_37
  rw [c3]
  refine ⟨fun q => h _ (fun j hj => ?_), fun q => h _ (bs_c bs_0 (fun j hj => ⟨fun f => f.elim, fun f => absurd f (by omega)⟩))⟩
  obtain ⟨k, hk⟩ := Int.eq_ofNat_of_zero_le (show 0 ≤ min hi 30 by omega)
  have e5 : iI (min hi 30) + (1 : Int32) = nI (k + 1) := by
    rw [hk]; exact nI_1 k
  rw [e5, Int32.toBitVec_and, BitVec.getLsbD_and, Int32.toBitVec_xor, BitVec.getLsbD_xor, bs_m (k + 1) (by omega) j hj, bs_m lo.toNat (by omega) j hj, bs_n j hj]
  rw [Bool.and_eq_true, decide_eq_true_iff, Bool.xor_true, Bool.not_eq_true', decide_eq_false_iff_not]
  omega
theorem ii_pair {b : Int} {u : Nat} (h1 : -128 ≤ b) (h2 : b ≤ 127) (hu : u < 256) : (iI b <<< ((8 : Int32) &&& 31)) ||| nI u = iI (b * 256 + u) := by
  have e1 : iI b <<< ((8 : Int32) &&& 31) = iI (b * 256) := by
    apply Int32.toBitVec_inj.mp
    apply BitVec.eq_of_toNat_eq
    rw [pk_shl (iI b) _ 8 (by decide)]
    rw [show iI (b * 256) = iI b * (256 : Int32) from (ii_mul b 256).symm, Int32.toBitVec_mul, BitVec.toNat_mul]
    rfl
  rw [e1, ← ii_add]
  show iI (b * 256) ||| nI u = iI (b * 256) + nI u
  apply Int32.toBitVec_inj.mp
  rw [Int32.toBitVec_or, Int32.toBitVec_add]
  symm
  apply BitVec.add_eq_or_of_and_eq_zero
  apply BitVec.eq_of_getLsbD_eq
  intro j hj
  rw [BitVec.getLsbD_and, BitVec.getLsbD_zero]
  rcases Nat.lt_or_ge j 8 with h8 | h8
  · have : (iI (b * 256)).toBitVec.getLsbD j = false := by
      rw [← e1]
      have e3 := pk_shl (iI b) ((8 : Int32) &&& 31) 8 (by decide)
      rw [BitVec.getLsbD, e3, Nat.testBit_mod_two_pow, Nat.testBit_mul_two_pow]
      simp [show ¬ 8 ≤ j by omega]
    rw [this]; rfl
  · have : (nI u).toBitVec.getLsbD j = false := by
      rw [BitVec.getLsbD, pk_tn (by omega)]
      apply Nat.testBit_lt_two_pow
      exact Nat.lt_of_lt_of_le hu (show 2 ^ 8 ≤ 2 ^ j from Nat.pow_le_pow_right (by omega) h8)
    rw [this, Bool.and_false]

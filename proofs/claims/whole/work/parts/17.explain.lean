/-! explain: the fewest EVENTS -/
abbrev exF1 (R : Nat → Int) (s : Nat → Nat → Int) (L : Nat → Nat) (v k t i : Nat) : Prop := ∀ j, j < L k → (R (i + j) - t * s k j).natAbs ≤ v
def exT (R : Nat → Int) (s : Nat → Nat → Int) (L : Nat → Nat) (v k i : Nat) : Nat := if exF1 R s L v k 1 i then 1 else if exF1 R s L v k 2 i then 2 else if exF1 R s L v k 3 i then 3 else if exF1 R s L v k 4 i then 4 else if exF1 R s L v k 5 i then 5 else 0
theorem exT_lo {R : Nat → Int} {s : Nat → Nat → Int} {L : Nat → Nat} {v k i t : Nat} (h1 : 1 ≤ t) (h5 : t ≤ 5) (h : ∀ t', 1 ≤ t' → t' < t → ¬ exF1 R s L v k t' i) (ht : exF1 R s L v k t i) : exT R s L v k i = t := by
  unfold exT
  rcases (show t = 1 ∨ t = 2 ∨ t = 3 ∨ t = 4 ∨ t = 5 by omega) with rfl | rfl | rfl | rfl | rfl
  · rw [if_pos ht]
  · rw [if_neg (h 1 (by omega) (by omega)), if_pos ht]
  · rw [if_neg (h 1 (by omega) (by omega)), if_neg (h 2 (by omega) (by omega)), if_pos ht]
  · rw [if_neg (h 1 (by omega) (by omega)), if_neg (h 2 (by omega) (by omega)), if_neg (h 3 (by omega) (by omega)), if_pos ht]
  · rw [if_neg (h 1 (by omega) (by omega)), if_neg (h 2 (by omega) (by omega)), if_neg (h 3 (by omega) (by omega)), if_neg (h 4 (by omega) (by omega)), if_pos ht]
theorem exT_0 {R : Nat → Int} {s : Nat → Nat → Int} {L : Nat → Nat} {v k i : Nat} (h : ∀ t', 1 ≤ t' → t' ≤ 5 → ¬ exF1 R s L v k t' i) : exT R s L v k i = 0 := by
  unfold exT
  rw [if_neg (h 1 (by omega) (by omega)), if_neg (h 2 (by omega) (by omega)), if_neg (h 3 (by omega) (by omega)), if_neg (h 4 (by omega) (by omega)), if_neg (h 5 (by omega) (by omega))]
theorem exT_sp (R : Nat → Int) (s : Nat → Nat → Int) (L : Nat → Nat) (v k i : Nat) : (exT R s L v k i = 0 ∧ ∀ t', 1 ≤ t' → t' ≤ 5 → ¬ exF1 R s L v k t' i) ∨ (∃ t, exT R s L v k i = t ∧ 1 ≤ t ∧ t ≤ 5 ∧ exF1 R s L v k t i ∧ ∀ t', 1 ≤ t' → t' < t → ¬ exF1 R s L v k t' i) := by
  by_cases h : ∃ t, 1 ≤ t ∧ t ≤ 5 ∧ exF1 R s L v k t i
  · obtain ⟨t, ⟨h1, h2, h3⟩, hm⟩ := pk_least (fun t => 1 ≤ t ∧ t ≤ 5 ∧ exF1 R s L v k t i) h
    have hm' : ∀ t', 1 ≤ t' → t' < t → ¬ exF1 R s L v k t' i := fun t' p1 p2 p3 => hm t' p2 ⟨p1, by omega, p3⟩
    exact Or.inr ⟨t, exT_lo h1 h2 hm' h3, h1, h2, h3, hm'⟩
  · have hm : ∀ t', 1 ≤ t' → t' ≤ 5 → ¬ exF1 R s L v k t' i := fun t' p1 p2 p3 => h ⟨t', p1, p2, p3⟩
    exact Or.inl ⟨exT_0 hm, hm⟩
section
variable (R : Nat → Int) (s : Nat → Nat → Int) (L : Nat → Nat) (v n : Nat)
def exG (F : Nat → Nat) (i : Nat) : Nat → Nat
  | 0 => if (R i).natAbs ≤ v then F (i + 1) else 1000
  | k + 1 => if L k ≠ 0 ∧ i + L k ≤ n ∧ F (i + L k) + 1 < exG F i k ∧ exT R s L v k i ≠ 0 then F (i + L k) + 1 else exG F i k
def exS (F : Nat → Nat) (i : Nat) : Nat → Nat × Nat
  | 0 => (0, 0)
  | k + 1 => if L k ≠ 0 ∧ i + L k ≤ n ∧ F (i + L k) + 1 < exG R s L v n F i k ∧ exT R s L v k i ≠ 0 then (k, exT R s L v k i) else exS F i k
def exE (F : Nat → Nat) : Nat → Nat → List (Nat × Nat × Nat)
  | 0, _ => []
  | q + 1, i => if n ≤ i then [] else if (exS R s L v n F i 6).2 = 0 then exE F q (i + 1) else ((exS R s L v n F i 6).1, i, (exS R s L v n F i 6).2) :: exE F q (i + L (exS R s L v n F i 6).1)
theorem exG_c {F F' : Nat → Nat} {i : Nat} (h : ∀ j, i < j → F j = F' j) (k : Nat) : exG R s L v n F i k = exG R s L v n F' i k := by
  induction k with
  | zero => rw [exG, exG, h (i + 1) (by omega)]
  | succ k ih =>
    rw [exG, exG, ih]
    by_cases hL : L k = 0
    · rw [if_neg (fun q => q.1 hL), if_neg (fun q => q.1 hL)]
    · rw [h (i + L k) (by omega)]
theorem exF_ex : ∃ F : Nat → Nat, F n = 0 ∧ ∀ i, i < n → F i = exG R s L v n F i 6 := by
  have key : ∀ d, d ≤ n → ∃ F : Nat → Nat, F n = 0 ∧ ∀ i, n - d ≤ i → i < n → F i = exG R s L v n F i 6 := by
    intro d
    induction d with
    | zero => intro _; exact ⟨fun _ => 0, rfl, fun i h1 h2 => by omega⟩
    | succ d ih =>
      intro hd
      obtain ⟨F, h0, h1⟩ := ih (by omega)
      refine ⟨iu F (n - (d + 1)) (exG R s L v n F (n - (d + 1)) 6), ?_, fun i h2 h3 => ?_⟩
      · rw [iu_n (by omega)]; exact h0
      · have hc : exG R s L v n (iu F (n - (d + 1)) (exG R s L v n F (n - (d + 1)) 6)) i 6 = exG R s L v n F i 6 := exG_c R s L v n (fun j hj => iu_n (by omega)) 6
        rw [hc]
        by_cases e : i = n - (d + 1)
        · subst e; rw [iu_s]
        · rw [iu_n e]; exact h1 i (by omega) h3
  obtain ⟨F, h0, h1⟩ := key n (Nat.le_refl _)
  exact ⟨F, h0, fun i hi => h1 i (by omega) hi⟩
theorem exG_le {F : Nat → Nat} (h0 : F n = 0) (h : ∀ i, i < n → F i = exG R s L v n F i 6) : (∀ i, i ≤ n → F i ≤ 1000) ∧ ∀ i k, i < n → exG R s L v n F i k ≤ 1000 := by
  have one : ∀ i, i < n → F (i + 1) ≤ 1000 → ∀ k, exG R s L v n F i k ≤ 1000 := by
    intro i hi h1 k
    induction k with
    | zero => rw [exG]; split <;> omega
    | succ k ih => rw [exG]; split <;> omega
  have all : ∀ d i, i + d = n → F i ≤ 1000 := by
    intro d
    induction d with
    | zero => intro i hi; have : i = n := by omega
              subst this; omega
    | succ d ih =>
      intro i hi
      rw [h i (by omega)]
      exact one i (by omega) (ih (i + 1) (by omega)) 6
  exact ⟨fun i hi => all (n - i) i (by omega), fun i k hi => one i hi (all (n - (i + 1)) (i + 1) (by omega)) k⟩
theorem exS_sp (F : Nat → Nat) (i : Nat) (k : Nat) : ((exS R s L v n F i k).2 = 0 ∧ exG R s L v n F i k = exG R s L v n F i 0) ∨ (∃ k0, k0 < k ∧ (exS R s L v n F i k).1 = k0 ∧ (exS R s L v n F i k).2 = exT R s L v k0 i ∧ exT R s L v k0 i ≠ 0 ∧ L k0 ≠ 0 ∧ i + L k0 ≤ n ∧ F (i + L k0) + 1 = exG R s L v n F i k ∧ exG R s L v n F i k < exG R s L v n F i 0 ∧ ∀ k', k' < k0 → L k' ≠ 0 → i + L k' ≤ n → exT R s L v k' i ≠ 0 → F (i + L k') + 1 ≠ exG R s L v n F i k) := by
  have mono : ∀ k, exG R s L v n F i (k + 1) ≤ exG R s L v n F i k := by
    intro k
    rw [exG]
    split <;> omega
  have low : ∀ k k', k' < k → L k' ≠ 0 → i + L k' ≤ n → exT R s L v k' i ≠ 0 → exG R s L v n F i k ≤ F (i + L k') + 1 := by
    intro k
    induction k with
    | zero => intro k' h; omega
    | succ k ih =>
      intro k' h1 h2 h3 h4
      rcases Nat.lt_or_ge k' k with h5 | h5
      · exact Nat.le_trans (mono k) (ih k' h5 h2 h3 h4)
      · have : k' = k := by omega
        subst this
        rw [exG]
        by_cases h6 : F (i + L k') + 1 < exG R s L v n F i k'
        · rw [if_pos ⟨h2, h3, h6, h4⟩]; omega
        · rw [if_neg (fun q => h6 q.2.2.1)]; omega
  induction k with
  | zero => exact Or.inl ⟨by rw [exS], rfl⟩
  | succ k ih =>
    by_cases hc : L k ≠ 0 ∧ i + L k ≤ n ∧ F (i + L k) + 1 < exG R s L v n F i k ∧ exT R s L v k i ≠ 0
    · refine Or.inr ⟨k, by omega, ?_, ?_, hc.2.2.2, hc.1, hc.2.1, ?_, ?_, ?_⟩
      · rw [exS, if_pos hc]
      · rw [exS, if_pos hc]
      · rw [exG, if_pos hc]
      · have h1 : exG R s L v n F i (k + 1) = F (i + L k) + 1 := by rw [exG, if_pos hc]
        have h2 : exG R s L v n F i k ≤ exG R s L v n F i 0 := by
          rcases ih with ih | ⟨_, _, _, _, _, _, _, _, ih, _⟩ <;> omega
        omega
      · intro k' h1 h2 h3 h4
        have := low k k' h1 h2 h3 h4
        have h5 : exG R s L v n F i (k + 1) = F (i + L k) + 1 := by rw [exG, if_pos hc]
        omega
    · have e1 : exG R s L v n F i (k + 1) = exG R s L v n F i k := by rw [exG, if_neg hc]
      have e2 : exS R s L v n F i (k + 1) = exS R s L v n F i k := by rw [exS, if_neg hc]
      rw [e1, e2]
      rcases ih with ih | ⟨k0, h1, h2⟩
      · exact Or.inl ih
      · exact Or.inr ⟨k0, by omega, h2⟩
end
theorem dr_cons {α : Type} {T : List α} {c : Nat} {e d : α} {r : List α} (h : T.drop c = e :: r) : T.getD c d = e ∧ T.drop (c + 1) = r ∧ c < T.length := by
  induction T generalizing c with
  | nil => simp at h
  | cons a T ih =>
    cases c with
    | zero =>
      simp at h
      obtain ⟨rfl, rfl⟩ := h
      simp
    | succ c =>
      simp at h
      have := ih h
      simp
      simpa using this
theorem ex_pr {t : Nat} {z : Int} (ht : t ≤ 5) (h1 : -99 ≤ z) (h2 : z ≤ 99) : -495 ≤ (t : Int) * z ∧ (t : Int) * z ≤ 495 := by
  rcases (show t = 0 ∨ t = 1 ∨ t = 2 ∨ t = 3 ∨ t = 4 ∨ t = 5 by omega) with rfl | rfl | rfl | rfl | rfl | rfl <;> omega
/-- the SHAPES as Ints -/
abbrev shP (a b : Nat → Int32) (L : Nat → Nat) (s : Nat → Nat → Int) : Prop := (∀ k, L k ≤ 9) ∧ (∀ k j, -99 ≤ s k j ∧ s k j ≤ 99) ∧ (∀ k, k < 6 → a k = nI (L k)) ∧ ∀ k j, k < 6 → j < L k → b (9 * k + j) = iI (s k j)
theorem sh_of {x : xs_St} {m : th_St} (h : sShape x m) : ∃ (L : Nat → Nat) (s : Nat → Nat → Int), shP (xa x 700) (xa x 701) L s ∧ shP (m.2.2.1 50) (m.2.2.1 49) L s := by
  have ch : ∃ L : Nat → Nat, ∀ k, L k ≤ 9 ∧ (k < 6 → xa x 700 k = nI (L k) ∧ m.2.2.1 50 k = nI (L k) ∧ ∀ j, j < L k → xa x 701 (9 * k + j) = m.2.2.1 49 (9 * k + j) ∧ s_wi 99 (xa x 701 (9 * k + j))) := by
    refine ⟨fun k => if hk : k < 6 then Classical.choose (h k hk) else 0, fun k => ?_⟩
    by_cases hk : k < 6
    · have hs := Classical.choose_spec (h k hk)
      simp only [dif_pos hk]
      exact ⟨hs.1, fun _ => hs.2⟩
    · simp only [dif_neg hk]
      exact ⟨by omega, fun q => absurd q hk⟩
  obtain ⟨L, hL⟩ := ch
  have hr : ∀ k j, -99 ≤ (if k < 6 ∧ j < L k then (xa x 701 (9 * k + j)).toInt else 0) ∧ (if k < 6 ∧ j < L k then (xa x 701 (9 * k + j)).toInt else 0) ≤ 99 := by
    intro k j
    by_cases hk : k < 6 ∧ j < L k
    · rw [if_pos hk]
      have := ((hL k).2 hk.1).2.2 j hk.2
      exact ⟨this.2.1, this.2.2⟩
    · rw [if_neg hk]; decide
  refine ⟨L, fun k j => if k < 6 ∧ j < L k then (xa x 701 (9 * k + j)).toInt else 0, ⟨fun k => (hL k).1, hr, fun k hk => ((hL k).2 hk).1, fun k j hk hj => ?_⟩, ⟨fun k => (hL k).1, hr, fun k hk => ((hL k).2 hk).2.1, fun k j hk hj => ?_⟩⟩
  · show _ = iI (if k < 6 ∧ j < L k then (xa x 701 (9 * k + j)).toInt else 0)
    rw [if_pos ⟨hk, hj⟩, ii_self]
  · show _ = iI (if k < 6 ∧ j < L k then (xa x 701 (9 * k + j)).toInt else 0)
    rw [if_pos ⟨hk, hj⟩, ii_self, (((hL k).2 hk).2.2 j hj).1]

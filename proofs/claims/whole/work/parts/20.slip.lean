/-! slipping, feeling, the log of rows -/
def slS (fx : Nat → Bool) (hd : Nat → Int) (g : Nat → Int) (i : Nat) : Bool := !fx i && !fx (i + 1) && decide (hd i < (g i - g (i + 1)).natAbs)
def slM (g : Nat → Int) (i : Nat) : Nat → Int := if g (i + 1) < g i then iu (iu g i (g i - 1)) (i + 1) (g (i + 1) + 1) else iu (iu g i (g i + 1)) (i + 1) (g (i + 1) - 1)
def slR (n : Nat) (fx : Nat → Bool) (hd : Nat → Int) : Nat → (Nat → Int) → Nat → Nat → (Nat → Int) × Nat
  | 0, g, _, s => (g, s)
  | k + 1, g, i, s => if i + 1 < n ∧ s < 100000 then (if slS fx hd g i = true then slR n fx hd k (slM g i) (i - 1) (s + 1) else slR n fx hd k g (i + 1) s) else (g, s)
/-- the state (g, i, s) comes to r -/
def slTo (n : Nat) (fx : Nat → Bool) (hd : Nat → Int) (g : Nat → Int) (i s : Nat) (r : (Nat → Int) × Nat) : Prop := ∃ k, 2 * (100000 - s) + (n - i) ≤ k ∧ slR n fx hd k g i s = r
theorem slTo_e {n : Nat} {fx : Nat → Bool} {hd : Nat → Int} {g : Nat → Int} {i s : Nat} {r : (Nat → Int) × Nat} (h : slTo n fx hd g i s r) (hc : ¬ (i + 1 < n ∧ s < 100000)) : r = (g, s) := by
  obtain ⟨k, _, h⟩ := h
  cases k with
  | zero => exact h.symm
  | succ k => rw [slR, if_neg hc] at h; exact h.symm
theorem slTo_a {n : Nat} {fx : Nat → Bool} {hd : Nat → Int} {g : Nat → Int} {i s : Nat} {r : (Nat → Int) × Nat} (h : slTo n fx hd g i s r) (h1 : i + 1 < n) (h2 : s < 100000) (h3 : ¬ slS fx hd g i = true) : slTo n fx hd g (i + 1) s r := by
  obtain ⟨k, hk, h⟩ := h
  cases k with
  | zero => omega
  | succ k => rw [slR, if_pos ⟨h1, h2⟩, if_neg h3] at h; exact ⟨k, by omega, h⟩
theorem slTo_s {n : Nat} {fx : Nat → Bool} {hd : Nat → Int} {g : Nat → Int} {i s : Nat} {r : (Nat → Int) × Nat} (h : slTo n fx hd g i s r) (h1 : i + 1 < n) (h2 : s < 100000) (h3 : slS fx hd g i = true) : slTo n fx hd (slM g i) (i - 1) (s + 1) r := by
  obtain ⟨k, hk, h⟩ := h
  cases k with
  | zero => omega
  | succ k => rw [slR, if_pos ⟨h1, h2⟩, if_pos h3] at h; exact ⟨k, by omega, h⟩
def slF (n : Nat) (fx : Nat → Bool) (hd : Nat → Int) (g : Nat → Int) : (Nat → Int) × Nat := slR n fx hd (200000 + n) g 0 0
theorem slF_to (n : Nat) (fx : Nat → Bool) (hd : Nat → Int) (g : Nat → Int) : slTo n fx hd g 0 0 (slF n fx hd g) := ⟨200000 + n, by omega, rfl⟩
def bdd (g : Nat → Int) (n : Nat) (B : Int) : Prop := ∀ j, j < n → -B ≤ g j ∧ g j ≤ B
theorem slS_i {fx : Nat → Bool} {hd : Nat → Int} {g : Nat → Int} {i : Nat} : slS fx hd g i = true ↔ fx i = false ∧ fx (i + 1) = false ∧ hd i < (g i - g (i + 1)).natAbs := by
  unfold slS
  simp [and_assoc]
theorem slM_v {g : Nat → Int} {i : Nat} (j : Nat) : slM g i j = if j = i then (if g (i + 1) < g i then g i - 1 else g i + 1) else if j = i + 1 then (if g (i + 1) < g i then g (i + 1) + 1 else g (i + 1) - 1) else g j := by
  unfold slM
  by_cases h : g (i + 1) < g i
  · simp only [if_pos h, iu]
    by_cases h1 : j = i
    · rw [if_pos h1, if_neg (by omega), if_pos h1]
    · rw [if_neg h1]
      by_cases h2 : j = i + 1
      · rw [if_pos h2, if_neg h1]
      · rw [if_neg h2, if_neg h1]
  · simp only [if_neg h, iu]
    by_cases h1 : j = i
    · rw [if_pos h1, if_neg (by omega), if_pos h1]
    · rw [if_neg h1]
      by_cases h2 : j = i + 1
      · rw [if_pos h2, if_neg h1]
      · rw [if_neg h2, if_neg h1]
theorem slM_b {fx : Nat → Bool} {hd : Nat → Int} {g : Nat → Int} {i n : Nat} {B : Int} (hg : bdd g n B) (hi : i + 1 < n) (hh : 1 ≤ hd i) (h : slS fx hd g i = true) : bdd (slM g i) n B := by
  have h3 := (slS_i.mp h).2.2
  have g1 := hg i (by omega)
  have g2 := hg (i + 1) hi
  intro j hj
  have g3 := hg j hj
  rw [slM_v]
  by_cases e1 : j = i
  · rw [if_pos e1]
    by_cases e2 : g (i + 1) < g i
    · rw [if_pos e2]; omega
    · rw [if_neg e2]; omega
  · rw [if_neg e1]
    by_cases e3 : j = i + 1
    · rw [if_pos e3]
      by_cases e2 : g (i + 1) < g i
      · rw [if_pos e2]; omega
      · rw [if_neg e2]; omega
    · rw [if_neg e3]; exact g3
theorem slR_b {n : Nat} {fx : Nat → Bool} {hd : Nat → Int} {B : Int} (hh : ∀ i, i < n → 1 ≤ hd i) : ∀ k g i s, bdd g n B → bdd (slR n fx hd k g i s).1 n B := by
  intro k
  induction k with
  | zero => intro g i s h; exact h
  | succ k ih =>
    intro g i s h
    rw [slR]
    by_cases h1 : i + 1 < n ∧ s < 100000
    · rw [if_pos h1]
      by_cases h2 : slS fx hd g i = true
      · rw [if_pos h2]; exact ih _ _ _ (slM_b h h1.1 (hh i (by omega)) h2)
      · rw [if_neg h2]; exact ih _ _ _ h
    · rw [if_neg h1]; exact h
theorem slR_c {n : Nat} {fx : Nat → Bool} {hd : Nat → Int} : ∀ k g i s, (slR n fx hd k g i s).2 ≤ max s 100000 := by
  intro k
  induction k with
  | zero => intro g i s; exact Nat.le_max_left _ _
  | succ k ih =>
    intro g i s
    rw [slR]
    by_cases h1 : i + 1 < n ∧ s < 100000
    · rw [if_pos h1]
      by_cases h2 : slS fx hd g i = true
      · rw [if_pos h2]; have := ih (slM g i) (i - 1) (s + 1); omega
      · rw [if_neg h2]; exact ih _ _ _
    · rw [if_neg h1]; exact Nat.le_max_left _ _
/-- what the feet feel behind a path of rows, the latest ahead -/
def rd0 (rd : Nat → Nat → Int) : List Nat → Nat → Int
  | [], _ => 0
  | j :: _, i => rd j i
def flG (n : Nat) (fx : Nat → Bool) (hd : Nat → Int) (rd : Nat → Nat → Int) : List Nat → (Nat → Int) × Nat
  | [] => (fun _ => 0, 0)
  | j :: js => slF n fx hd (fun i => (flG n fx hd rd js).1 i + rd j i - rd0 rd js i)
theorem flG_b {n : Nat} {fx : Nat → Bool} {hd : Nat → Int} {rd : Nat → Nat → Int} (hh : ∀ i, i < n → 1 ≤ hd i) (hr : ∀ j i, -99 ≤ rd j i ∧ rd j i ≤ 99) : ∀ js : List Nat, bdd (flG n fx hd rd js).1 n (200 * js.length) := by
  intro js
  induction js with
  | nil => intro j hj; rw [flG]; simp
  | cons j js ih =>
    rw [flG]
    refine slR_b hh _ _ _ _ (fun i hi => ?_)
    have h1 := ih i hi
    have h2 := hr j i
    have h3 : -99 ≤ rd0 rd js i ∧ rd0 rd js i ≤ 99 := by
      cases js with
      | nil => rw [rd0]; omega
      | cons j' js' => rw [rd0]; exact hr j' i
    rw [List.length_cons]
    omega
theorem flG_c {n : Nat} {fx : Nat → Bool} {hd : Nat → Int} {rd : Nat → Nat → Int} (js : List Nat) : (flG n fx hd rd js).2 ≤ 100000 := by
  cases js with
  | nil => rw [flG]; omega
  | cons j js => rw [flG]; have := slR_c (n := n) (fx := fx) (hd := hd) (200000 + n) (fun i => (flG n fx hd rd js).1 i + rd j i - rd0 rd js i) 0 0; unfold slF; omega
theorem rd0_k {rd rd' : Nat → Nat → Int} {js : List Nat} (h : ∀ j, j ∈ js → rd j = rd' j) : rd0 rd js = rd0 rd' js := by
  cases js with
  | nil => rfl
  | cons j js => funext i; rw [rd0, rd0, h j List.mem_cons_self]
theorem flG_k {n : Nat} {fx : Nat → Bool} {hd : Nat → Int} {rd rd' : Nat → Nat → Int} : ∀ js : List Nat, (∀ j, j ∈ js → rd j = rd' j) → flG n fx hd rd js = flG n fx hd rd' js := by
  intro js
  induction js with
  | nil => intro _; rfl
  | cons j js ih =>
    intro h
    rw [flG, flG, ih (fun k hk => h k (List.mem_cons_of_mem _ hk)), h j List.mem_cons_self, rd0_k (fun k hk => h k (List.mem_cons_of_mem _ hk))]
/-- changes, their greatest, their sum -/
def flL (n : Nat) (fx : Nat → Bool) (hd : Nat → Int) (rd : Nat → Nat → Int) (js : List Nat) (i : Nat) : Nat := ((flG n fx hd rd js).1 i - (flG n fx hd rd js.tail).1 i).natAbs
def mxT (f : Nat → Nat) : Nat → Nat
  | 0 => 0
  | k + 1 => max (mxT f k) (f k)
theorem mxT_b {f : Nat → Nat} {B : Nat} (N : Nat) (h : ∀ s, s < N → f s ≤ B) : mxT f N ≤ B := by
  induction N with
  | zero => exact Nat.zero_le _
  | succ N ih => rw [mxT]; have h1 := ih (fun s hs => h s (by omega)); have h2 := h N (by omega); omega
theorem flL_b {n : Nat} {fx : Nat → Bool} {hd : Nat → Int} {rd : Nat → Nat → Int} (hh : ∀ i, i < n → 1 ≤ hd i) (hr : ∀ j i, -99 ≤ rd j i ∧ rd j i ≤ 99) {js : List Nat} (hl : js.length ≤ 40) {i : Nat} (hi : i < n) : flL n fx hd rd js i ≤ 16000 := by
  have h1 := flG_b (fx := fx) (rd := rd) hh hr js i hi
  have h2 := flG_b (fx := fx) (rd := rd) hh hr js.tail i hi
  have h3 : js.tail.length ≤ 40 := by rw [List.length_tail]; omega
  unfold flL
  omega
/-- the log: entry j tells of hour eh j on day ed j -/
def hcn (eh : Nat → Nat) : Nat → Nat
  | 0 => 0
  | N + 1 => max (hcn eh N) (eh N + 1)
def thr (eh ed : Nat → Nat) (t : Int) : Nat → Nat
  | 0 => 0
  | N + 1 => if (ed N : Int) ≤ t then max (thr eh ed t N) (eh N + 1) else thr eh ed t N
def qF (eh ed : Nat → Nat) (t : Int) (h : Nat) : Nat → Nat
  | 0 => 0
  | N + 1 => if eh N = h ∧ (ed N : Int) ≤ t then N else qF eh ed t h N
/-- the log is in order -/
def lgOk (eh ed : Nat → Nat) (N : Nat) : Prop := (∀ j, j < N → eh j ≤ hcn eh j) ∧ ∀ i j, i ≤ j → j < N → ed i ≤ ed j
/-- the other side's row of entry j -/
def emr (eh : Nat → Nat) (j : Nat) : Nat := if eh j = hcn eh j then eh j else 40 + (j - hcn eh j)
theorem hcn_s {eh : Nat → Nat} {N : Nat} (h : eh N ≤ hcn eh N) : hcn eh (N + 1) = if eh N = hcn eh N then hcn eh N + 1 else hcn eh N := by
  rw [hcn]
  by_cases e : eh N = hcn eh N
  · rw [if_pos e]; omega
  · rw [if_neg e]; omega
theorem hcn_le {eh : Nat → Nat} : ∀ N, (∀ j, j < N → eh j ≤ hcn eh j) → hcn eh N ≤ N := by
  intro N
  induction N with
  | zero => intro _; exact Nat.le_refl 0
  | succ N ih =>
    intro h
    have h1 := ih (fun j hj => h j (by omega))
    rw [hcn_s (h N (by omega))]
    by_cases e : eh N = hcn eh N
    · rw [if_pos e]; omega
    · rw [if_neg e]; omega
theorem hcn_mo {eh : Nat → Nat} {i : Nat} : ∀ j, i ≤ j → hcn eh i ≤ hcn eh j := by
  intro j
  induction j with
  | zero => intro h; rw [show i = 0 by omega]; exact Nat.le_refl _
  | succ j ih =>
    intro h
    by_cases e : i = j + 1
    · rw [e]; exact Nat.le_refl _
    · have := ih (by omega); rw [hcn]; omega
theorem hcn_mn {eh : Nat → Nat} {N : Nat} (h : ∀ j, j < N → eh j ≤ hcn eh j) {i : Nat} : ∀ j, i ≤ j → j ≤ N → i - hcn eh i ≤ j - hcn eh j := by
  intro j
  induction j with
  | zero => intro h1 _; rw [show i = 0 by omega]; exact Nat.le_refl _
  | succ j ih =>
    intro h1 h2
    by_cases e : i = j + 1
    · rw [e]; exact Nat.le_refl _
    · have h3 := ih (by omega) (by omega)
      have h4 := hcn_le j (fun q hq => h q (by omega))
      rw [hcn_s (h j (by omega))]
      by_cases e2 : eh j = hcn eh j
      · rw [if_pos e2]; omega
      · rw [if_neg e2]; omega
/-- the entry that tells hour k first -/
theorem hcn_at {eh : Nat → Nat} : ∀ N, (∀ j, j < N → eh j ≤ hcn eh j) → ∀ k, k < hcn eh N → ∃ j, j < N ∧ eh j = k ∧ hcn eh j = k := by
  intro N
  induction N with
  | zero => intro _ k hk; rw [hcn] at hk; omega
  | succ N ih =>
    intro h k hk
    rw [hcn_s (h N (by omega))] at hk
    by_cases e : eh N = hcn eh N
    · rw [if_pos e] at hk
      by_cases e2 : k = hcn eh N
      · exact ⟨N, by omega, by omega, by omega⟩
      · obtain ⟨j, h1, h2⟩ := ih (fun j hj => h j (by omega)) k (by omega)
        exact ⟨j, by omega, h2⟩
    · rw [if_neg e] at hk
      obtain ⟨j, h1, h2⟩ := ih (fun j hj => h j (by omega)) k hk
      exact ⟨j, by omega, h2⟩
theorem thr_le {eh ed : Nat → Nat} {t : Int} : ∀ N, thr eh ed t N ≤ hcn eh N := by
  intro N
  induction N with
  | zero => exact Nat.le_refl _
  | succ N ih =>
    rw [thr, hcn]
    by_cases h : (ed N : Int) ≤ t
    · rw [if_pos h]; omega
    · rw [if_neg h]; omega
theorem thr_all {eh ed : Nat → Nat} {t : Int} : ∀ N, (∀ j, j < N → (ed j : Int) ≤ t) → thr eh ed t N = hcn eh N := by
  intro N
  induction N with
  | zero => intro _; rfl
  | succ N ih => intro h; rw [thr, hcn, if_pos (h N (by omega)), ih (fun j hj => h j (by omega))]
theorem thr_cut {eh ed : Nat → Nat} {t : Int} {r : Nat} : ∀ N, r ≤ N → (∀ j, r ≤ j → j < N → ¬ (ed j : Int) ≤ t) → thr eh ed t N = thr eh ed t r := by
  intro N
  induction N with
  | zero => intro h _; rw [show r = 0 by omega]
  | succ N ih =>
    intro h h2
    by_cases e : r = N + 1
    · rw [e]
    · rw [thr, if_neg (h2 N (by omega) (by omega)), ih (by omega) (fun j h3 h4 => h2 j h3 (by omega))]
theorem qF_cut {eh ed : Nat → Nat} {t : Int} {r h : Nat} : ∀ N, r ≤ N → (∀ j, r ≤ j → j < N → ¬ (ed j : Int) ≤ t) → qF eh ed t h N = qF eh ed t h r := by
  intro N
  induction N with
  | zero => intro h _; rw [show r = 0 by omega]
  | succ N ih =>
    intro h1 h2
    by_cases e : r = N + 1
    · rw [e]
    · rw [qF, if_neg (fun q => h2 N (by omega) (by omega) q.2), ih (by omega) (fun j h3 h4 => h2 j h3 (by omega))]
theorem thr_has {eh ed : Nat → Nat} {t : Int} : ∀ N k, k < thr eh ed t N → ∃ j, j < N ∧ k ≤ eh j ∧ (ed j : Int) ≤ t := by
  intro N
  induction N with
  | zero => intro k h; rw [thr] at h; omega
  | succ N ih =>
    intro k h
    rw [thr] at h
    by_cases e : (ed N : Int) ≤ t
    · rw [if_pos e] at h
      by_cases e2 : k < thr eh ed t N
      · obtain ⟨j, h1, h2⟩ := ih k e2; exact ⟨j, by omega, h2⟩
      · exact ⟨N, by omega, by omega, e⟩
    · rw [if_neg e] at h
      obtain ⟨j, h1, h2⟩ := ih k h; exact ⟨j, by omega, h2⟩
theorem thr_ge {eh ed : Nat → Nat} {t : Int} {j : Nat} : ∀ N, j < N → (ed j : Int) ≤ t → eh j < thr eh ed t N := by
  intro N
  induction N with
  | zero => intro h; omega
  | succ N ih =>
    intro h h2
    rw [thr]
    by_cases e : j = N
    · subst e; rw [if_pos h2]; omega
    · have := ih (by omega) h2
      by_cases e2 : (ed N : Int) ≤ t
      · rw [if_pos e2]; omega
      · rw [if_neg e2]; omega
/-- hour k is there as of t just when its first entry's day has come -/
theorem thr_iff {eh ed : Nat → Nat} {t : Int} {N k j : Nat} (hok : lgOk eh ed N) (hj : j < N) (h1 : eh j = k) (h2 : hcn eh j = k) : k < thr eh ed t N ↔ (ed j : Int) ≤ t := by
  constructor
  · intro h
    obtain ⟨j', g1, g2, g3⟩ := thr_has N k h
    have g4 : j ≤ j' := by
      rcases Nat.lt_or_ge j' j with q | q
      · exfalso
        have q2 := hcn_mo (eh := eh) (i := j' + 1) j (by omega)
        rw [hcn] at q2; omega
      · exact q
    have := hok.2 j j' g4 g1
    omega
  · intro h
    have := thr_ge (eh := eh) N hj h
    omega
theorem qF_has {eh ed : Nat → Nat} {t : Int} {h : Nat} : ∀ N, (∃ j, j < N ∧ eh j = h ∧ (ed j : Int) ≤ t) → qF eh ed t h N < N ∧ eh (qF eh ed t h N) = h ∧ (ed (qF eh ed t h N) : Int) ≤ t := by
  intro N
  induction N with
  | zero => rintro ⟨j, h1, _⟩; omega
  | succ N ih =>
    rintro ⟨j, h1, h2, h3⟩
    rw [qF]
    by_cases e : eh N = h ∧ (ed N : Int) ≤ t
    · rw [if_pos e]; exact ⟨by omega, e.1, e.2⟩
    · rw [if_neg e]
      have := ih ⟨j, by
        rcases Nat.lt_or_ge j N with q | q
        · exact q
        · have : j = N := by omega
          subst this; exact absurd ⟨h2, h3⟩ e, h2, h3⟩
      exact ⟨by omega, this.2⟩
theorem qF_ok {eh ed : Nat → Nat} {t : Int} {N h : Nat} (hok : lgOk eh ed N) (hh : h < thr eh ed t N) : qF eh ed t h N < N ∧ eh (qF eh ed t h N) = h ∧ (ed (qF eh ed t h N) : Int) ≤ t := by
  obtain ⟨j, h1, h2, h3⟩ := hcn_at N hok.1 h (Nat.lt_of_lt_of_le hh (thr_le N))
  exact qF_has N ⟨j, h1, h2, (thr_iff hok h1 h2 h3).mp hh⟩
/-- the path of the first c hours -/
def pthc (q : Nat → Nat) : Nat → List Nat
  | 0 => []
  | c + 1 => q c :: pthc q c
theorem pthc_l (q : Nat → Nat) (c : Nat) : (pthc q c).length = c := by
  induction c with
  | zero => rfl
  | succ c ih => rw [pthc, List.length_cons, ih]
theorem pthc_k {q q' : Nat → Nat} (c : Nat) (h : ∀ k, k < c → q k = q' k) : pthc q c = pthc q' c := by
  induction c with
  | zero => rfl
  | succ c ih => rw [pthc, pthc, h c (by omega), ih (fun k hk => h k (by omega))]
theorem pthc_m {q : Nat → Nat} {c j : Nat} (h : j ∈ pthc q c) : ∃ k, k < c ∧ j = q k := by
  induction c with
  | zero => cases h
  | succ c ih =>
    rw [pthc] at h
    rcases List.mem_cons.mp h with h | h
    · exact ⟨c, by omega, h⟩
    · obtain ⟨k, h1, h2⟩ := ih h; exact ⟨k, by omega, h2⟩
/-- rowOf: the entry in force has the row that the loop over the mended finds -/
def bst (eh ed : Nat → Nat) (t : Int) (h j : Nat) : Nat := if h < hcn eh j then emr eh (qF eh ed t h j) else h
theorem bst_h {eh ed : Nat → Nat} {t : Int} {N h j : Nat} (hok : lgOk eh ed N) (hj : j < N) (hh : h < thr eh ed t N) (he : eh j = hcn eh j) : bst eh ed t h (j + 1) = bst eh ed t h j := by
  unfold bst
  rw [hcn_s (by omega), if_pos he]
  by_cases e : h = hcn eh j
  · have hd := (thr_iff hok hj (by omega) rfl).mp (show hcn eh j < thr eh ed t N by omega)
    rw [if_pos (by omega), if_neg (by omega), qF, if_pos ⟨by omega, hd⟩]
    unfold emr
    rw [if_pos he]; omega
  · have hq : qF eh ed t h (j + 1) = qF eh ed t h j := by
      rw [qF, if_neg (fun q => e (by omega))]
    rw [hq]
    by_cases e2 : h < hcn eh j
    · rw [if_pos (show h < hcn eh j + 1 by omega), if_pos e2]
    · rw [if_neg (show ¬ h < hcn eh j + 1 by omega), if_neg e2]
theorem bst_m {eh ed : Nat → Nat} {t : Int} {N h j : Nat} (hok : lgOk eh ed N) (hj : j < N) (he : ¬ eh j = hcn eh j) : bst eh ed t h (j + 1) = if eh j = h ∧ (ed j : Int) ≤ t then 40 + (j - hcn eh j) else bst eh ed t h j := by
  have h1 := hok.1 j hj
  unfold bst
  rw [hcn_s h1, if_neg he, qF]
  by_cases e : eh j = h ∧ (ed j : Int) ≤ t
  · rw [if_pos e, if_pos e, if_pos (by omega)]
    unfold emr
    rw [if_neg he]
  · rw [if_neg e, if_neg e]
theorem bst_e {eh ed : Nat → Nat} {t : Int} {N h : Nat} (hh : h < thr eh ed t N) : bst eh ed t h N = emr eh (qF eh ed t h N) := by
  unfold bst
  rw [if_pos (Nat.lt_of_lt_of_le hh (thr_le N))]

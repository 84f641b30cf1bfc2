/-! alarms: waiting answers as bits, programs -/
def bI (b : Bool) : Int32 := if b = true then 1 else 0
theorem bI_0 : bI false = 0 := rfl
theorem bI_1 : bI true = 1 := rfl
theorem bI_z (b : Bool) : (bI b = 0) = (b = false) := by cases b <;> simp [bI]
theorem bI_c (b : Bool) : bI b = 0 ∨ bI b = 1 := by cases b <;> simp [bI]
def eB (w : Int64) (l : List Bool) : Prop := l.length ≤ 40 ∧ ∀ i, i < 64 → w.toBitVec.getLsbD i = l.getD i false
theorem w_1b (i : Nat) : (1 : Int64).toBitVec.getLsbD i = decide (i = 0) := by
  rw [show (1 : Int64).toBitVec = 1#64 from rfl, BitVec.getLsbD_one]; simp
theorem w_0b (i : Nat) : (0 : Int64).toBitVec.getLsbD i = false := by
  rw [show (0 : Int64).toBitVec = 0#64 from rfl]; simp
theorem w_m2f : ∀ i : Fin 64, (-2 : Int64).toBitVec.getLsbD i = !decide (i.val = 0) := by decide
theorem w_m2 {i : Nat} (h : i < 64) : (-2 : Int64).toBitVec.getLsbD i = !decide (i = 0) := w_m2f ⟨i, h⟩
theorem w_s1 : ((((1 : Int32)).toInt64 &&& 63)) = (1 : Int64) := by decide
theorem w_smd : ((1 : Int64).toBitVec.smod 64) = 1#64 := by decide
theorem w_shr (w : Int64) {i : Nat} (h : i < 64) : (w >>> (((1 : Int32)).toInt64 &&& 63)).toBitVec.getLsbD i = if i + 1 < 64 then w.toBitVec.getLsbD (i + 1) else w.toBitVec.getLsbD 63 := by
  rw [w_s1, Int64.toBitVec_shiftRight, w_smd, BitVec.getLsbD_sshiftRight', show (1#64).toNat = 1 from rfl, Nat.add_comm 1 i]
  rw [show decide (64 ≤ i) = false from decide_eq_false (by omega)]
  by_cases e : i + 1 < 64
  · rw [if_pos e, if_pos e]; simp
  · rw [if_neg e, if_neg e]; simp [BitVec.msb_eq_getLsbD_last]
theorem w_shl (w : Int64) {i : Nat} (h : i < 64) : (w <<< (((1 : Int32)).toInt64 &&& 63)).toBitVec.getLsbD i = if i = 0 then false else w.toBitVec.getLsbD (i - 1) := by
  rw [w_s1, Int64.toBitVec_shiftLeft, w_smd, BitVec.getLsbD_shiftLeft', show (1#64).toNat = 1 from rfl]
  by_cases e : i = 0
  · subst e; simp
  · rw [if_neg e, decide_eq_true h, decide_eq_false (show ¬ i < 1 by omega)]; simp
theorem eB_0 : eB 0 [] := ⟨by decide, fun i _ => by rw [w_0b]; simp⟩
theorem eB_not {w : Int64} {b : Bool} {l : List Bool} (h : eB w (b :: l)) : eB (w ^^^ 1) ((!b) :: l) := by
  refine ⟨h.1, fun i hi => ?_⟩
  rw [Int64.toBitVec_xor, BitVec.getLsbD_xor, h.2 i hi, w_1b]
  cases i with
  | zero => simp
  | succ i => simp
theorem eB_and {w : Int64} {y z : Bool} {l : List Bool} (h : eB w (y :: z :: l)) : eB ((w >>> (((1 : Int32)).toInt64 &&& 63)) &&& ((w &&& 1) ||| (-2 : Int64))) ((z && y) :: l) := by
  have hl := h.1
  rw [List.length_cons, List.length_cons] at hl
  refine ⟨by rw [List.length_cons]; omega, fun i hi => ?_⟩
  rw [Int64.toBitVec_and, BitVec.getLsbD_and, Int64.toBitVec_or, BitVec.getLsbD_or, Int64.toBitVec_and, BitVec.getLsbD_and, w_shr _ hi, w_m2 hi, w_1b, h.2 i hi]
  have e63 : w.toBitVec.getLsbD 63 = false := by
    rw [h.2 63 (by omega)]
    rw [List.getD_eq_getElem?_getD, List.getElem?_eq_none (by rw [List.length_cons, List.length_cons]; omega)]; rfl
  cases i with
  | zero => rw [if_pos (by omega), h.2 1 (by omega)]; simp
  | succ i =>
    by_cases e : i + 1 + 1 < 64
    · rw [if_pos e, h.2 _ e]; simp
    · rw [if_neg e, e63]
      have : l.length ≤ i := by omega
      simp [this]
theorem eB_or {w : Int64} {y z : Bool} {l : List Bool} (h : eB w (y :: z :: l)) : eB ((w >>> (((1 : Int32)).toInt64 &&& 63)) ||| (w &&& 1)) ((z || y) :: l) := by
  have hl := h.1
  rw [List.length_cons, List.length_cons] at hl
  refine ⟨by rw [List.length_cons]; omega, fun i hi => ?_⟩
  rw [Int64.toBitVec_or, BitVec.getLsbD_or, Int64.toBitVec_and, BitVec.getLsbD_and, w_shr _ hi, w_1b, h.2 i hi]
  have e63 : w.toBitVec.getLsbD 63 = false := by
    rw [h.2 63 (by omega)]
    rw [List.getD_eq_getElem?_getD, List.getElem?_eq_none (by rw [List.length_cons, List.length_cons]; omega)]; rfl
  cases i with
  | zero => rw [if_pos (by omega), h.2 1 (by omega)]; simp
  | succ i =>
    by_cases e : i + 1 + 1 < 64
    · rw [if_pos e, h.2 _ e]; simp
    · rw [if_neg e, e63]
      have : l.length ≤ i := by omega
      simp [this]
theorem bI_b (b : Bool) (i : Nat) : ((bI b).toInt64).toBitVec.getLsbD i = (decide (i = 0) && b) := by
  cases b with
  | false => rw [show (bI false).toInt64 = (0 : Int64) by decide, w_0b]; simp
  | true => rw [show (bI true).toInt64 = (1 : Int64) by decide, w_1b]; simp
theorem eB_push {w : Int64} {l : List Bool} (b : Bool) (h : eB w l) (hl : l.length < 40) : eB ((w <<< (((1 : Int32)).toInt64 &&& 63)) ||| (bI b).toInt64) (b :: l) := by
  refine ⟨by rw [List.length_cons]; omega, fun i hi => ?_⟩
  rw [Int64.toBitVec_or, BitVec.getLsbD_or, w_shl _ hi, bI_b]
  cases i with
  | zero => simp
  | succ i => rw [if_neg (by omega), Nat.add_sub_cancel, h.2 i (by omega)]; simp
theorem eB_top {w : Int64} {b : Bool} {l : List Bool} (h : eB w (b :: l)) : (w &&& 1) = (if b = true then 1 else 0) := by
  apply Int64.toBitVec_inj.1
  apply BitVec.eq_of_getLsbD_eq
  intro i hi
  rw [Int64.toBitVec_and, BitVec.getLsbD_and, h.2 i hi, w_1b]
  cases b with
  | false =>
    rw [if_neg (by decide), w_0b]
    cases i with
    | zero => simp
    | succ i => simp
  | true =>
    rw [if_pos rfl, w_1b]
    cases i with
    | zero => simp
    | succ i => simp
/-- a program: steps by number; 0 to 4 measure, 10 turns, 11 and 12 join -/
def pwf (pg : Nat → Nat) : Nat → Nat → Nat → Prop
  | 0, _, d => d = 1
  | c + 1, s, d => if pg s = 10 then 1 ≤ d ∧ pwf pg c (s + 1) d else if pg s = 11 ∨ pg s = 12 then 2 ≤ d ∧ pwf pg c (s + 1) (d - 1) else pg s ≤ 4 ∧ d + 1 ≤ 40 ∧ pwf pg c (s + 1) (d + 1)
def pst (k : Nat) (b : Bool) (l : List Bool) : List Bool :=
  if k = 10 then (!l.headD false) :: l.tail else if k = 11 then (l.tail.headD false && l.headD false) :: l.tail.tail else if k = 12 then (l.tail.headD false || l.headD false) :: l.tail.tail else b :: l
def pev (ev : Nat → Bool) (pg : Nat → Nat) : Nat → Nat → List Bool → Bool
  | 0, _, l => l.headD false
  | c + 1, s, l => pev ev pg c (s + 1) (pst (pg s) (ev s) l)
section
variable (n : Nat) (fx : Nat → Bool) (hd : Nat → Int) (rd : Nat → Nat → Int) (pg sg nb ft : Nat → Nat)
def msr (js : List Nat) (s : Nat) : Nat := if pg s = 0 then mxT (flL n fx hd rd js) n else if pg s = 1 then fsT (flL n fx hd rd js) n else if pg s = 2 then (flG n fx hd rd js).2 else if pg s = 3 then js.length - 1 else flL n fx hd rd js (ft s)
def evS (js : List Nat) (s : Nat) : Bool := if sg s = 60 then decide (msr n fx hd rd pg ft js s < nb s) else if sg s = 61 then decide (msr n fx hd rd pg ft js s = nb s) else decide (nb s < msr n fx hd rd pg ft js s)
def hol (e0 e1 : Nat) (js : List Nat) : Bool := pev (evS n fx hd rd pg sg nb ft js) pg (e1 - e0) e0 []
def alm (e0 e1 : Nat) : Nat → List Nat → Bool
  | 0, _ => true
  | _ + 1, [] => false
  | a + 1, j :: js => hol n fx hd rd pg sg nb ft e0 e1 (j :: js) && alm e0 e1 a js
end
theorem alm_p {n : Nat} {fx : Nat → Bool} {hd : Nat → Int} {rd : Nat → Nat → Int} {pg sg nb ft : Nat → Nat} {e0 e1 : Nat} {q : Nat → Nat} : ∀ a c, alm n fx hd rd pg sg nb ft e0 e1 a (pthc q c) = true ↔ a ≤ c ∧ ∀ g, c ≤ g + a → g < c → hol n fx hd rd pg sg nb ft e0 e1 (pthc q (g + 1)) = true := by
  intro a
  induction a with
  | zero => intro c; rw [alm]; exact ⟨fun _ => ⟨Nat.zero_le _, fun g h1 h2 => by omega⟩, fun _ => rfl⟩
  | succ a ih =>
    intro c
    cases c with
    | zero =>
      rw [pthc, alm]
      exact ⟨fun h => (by cases h), fun h => absurd h.1 (by omega)⟩
    | succ c =>
      rw [show pthc q (c + 1) = q c :: pthc q c from rfl, alm, Bool.and_eq_true, ih c]
      constructor
      · rintro ⟨h1, h2, h3⟩
        refine ⟨by omega, fun g g1 g2 => ?_⟩
        by_cases e : g = c
        · subst e; exact h1
        · exact h3 g (by omega) (by omega)
      · rintro ⟨h1, h2⟩
        exact ⟨h2 c (by omega) (by omega), by omega, fun g g1 g2 => h2 g (by omega) (by omega)⟩
def tkK (k : Nat) : Nat := if k ≤ 4 then 22 + k else 31 - k
def pgX (x : xs_St) (o n S : Nat) (pg sg nb ft : Nat → Nat) : Prop := S ≤ 80 ∧ ∀ s, s < S → (pg s ≤ 4 ∨ (10 ≤ pg s ∧ pg s ≤ 12)) ∧ xo x (311 + o) s = some (tkK (pg s)) ∧ (pg s ≤ 4 → xo x (312 + o) s = some (sg s - 54) ∧ 60 ≤ sg s ∧ sg s ≤ 62 ∧ xa x (314 + o) s = nI (nb s) ∧ nb s ≤ 9999 ∧ (pg s = 4 → xa x (313 + o) s = nI (ft s) ∧ ft s < n))
def pgM (m : th_St) (f n S : Nat) (pg sg nb ft : Nat → Nat) : Prop := S ≤ 80 ∧ ∀ s, s < S → m.2.2.1 16 (f + s) = nI (pg s) ∧ (pg s ≤ 4 → m.2.2.1 17 (f + s) = nI (sg s) ∧ m.2.2.1 18 (f + s) = nI (nb s) ∧ (pg s = 4 → m.2.2.1 19 (f + s) = nI (ft s) ∧ ft s < n))
def alX (x : xs_St) (o A S : Nat) (pg al en : Nat → Nat) : Prop := A ≤ 6 ∧ xi x (305 + o) = nI A ∧ en 0 = 0 ∧ ∀ k, k < A → xa x (309 + o) k = nI (al k) ∧ (1 ≤ al k ∧ al k ≤ 9) ∧ xa x (310 + o) k = nI (en (k + 1)) ∧ en k ≤ en (k + 1) ∧ en (k + 1) ≤ S ∧ pwf pg (en (k + 1) - en k) (en k) 0
def alM (m : th_St) (f z A : Nat) (al en : Nat → Nat) : Prop := m.2.2.1 15 z = nI A ∧ ∀ k, k < A → m.2.2.1 10 (f + k) = nI (al k) ∧ m.2.2.1 9 (f + k) = nI (en (k + 1)) ∧ m.2.2.1 8 (f + k) = nI (en k)

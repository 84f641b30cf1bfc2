/-! the frame rule at the level of contracts: a contract over a part of the world is one over the whole -/
theorem fr_met {l : Launch} {y : MethodName} {S : Spec} {P P' : Array Value → State → Prop} {K : Program → Env → List Frame → State → Array Value → Prop} {Q Q' : Array Value → State → Outcome → State → Prop} (h : MetFree l y S P K Q) (hp : ∀ a s, P' a s → P a s) (hq : ∀ a s o t, P' a s → Q a s o t → Q' a s o t) : MetFree l y S P' K Q' := fun p e ha hc hk s m args below hf hap hP hK => by
  obtain ⟨n, o, h1, h2, h3, h4⟩ := h p e ha hc hk s m args below hf hap (hp _ _ hP) hK
  exact ⟨n, o, h1, h2, h3, hq _ _ _ _ hP h4⟩
theorem fr_m {ws : va_W} {k : Nat} {q : Nat × va_E} (h : ws[k]? = some q) : q ∈ ws := List.mem_of_getElem? h
theorem fr_i1 {ws : va_W} {q : Nat × va_E} (h : q ∈ ws) : ∃ k : Nat, ws[k]? = some q := List.mem_iff_getElem?.mp h
theorem fr_P {D : va_G} {cl : List vw_C} {ws : va_W} {H : Heap} : va_P D cl ws H ↔ ∀ q ∈ ws, va_at D cl q H := ⟨fun h q hq => by obtain ⟨k, hk⟩ := fr_i1 hq; exact h k q hk, fun h k q hk => h q (fr_m hk)⟩
theorem fr_A {ws : va_W} {sz q : Nat} : va_A ws sz q ↔ (∃ e, (q, e) ∈ ws) ∨ sz ≤ q := by
  unfold va_A
  constructor
  · rintro (⟨k, e, h⟩ | h)
    · exact Or.inl ⟨e, fr_m h⟩
    · exact Or.inr h
  · rintro (⟨e, h⟩ | h)
    · obtain ⟨k, hk⟩ := fr_i1 h; exact Or.inl ⟨k, e, hk⟩
    · exact Or.inr h
theorem fr_Dl {A : Nat → Prop} {a b : va_W} (h : va_D A (a ++ b)) : va_D A a := by
  have g : ∀ {i : Nat} {p : Nat × va_E}, a[i]? = some p → (a ++ b)[i]? = some p := fun {i p} hi => by
    rw [List.getElem?_append_left (List.getElem?_eq_some_iff.mp hi).1]; exact hi
  exact ⟨fun i j p q hi hj e => h.1 i j p q (g hi) (g hj) e, fun k q hk => h.2 k q (g hk)⟩
theorem fr_Dr {A : Nat → Prop} {a b : va_W} (h : va_D A (a ++ b)) : va_D A b := by
  have g : ∀ {i : Nat} {p : Nat × va_E}, b[i]? = some p → (a ++ b)[a.length + i]? = some p := fun {i p} hi => by
    rw [List.getElem?_append_right (Nat.le_add_right _ _), Nat.add_sub_cancel_left]; exact hi
  refine ⟨fun i j p q hi hj e => ?_, fun k q hk => h.2 _ q (g hk)⟩
  have := h.1 _ _ p q (g hi) (g hj) e
  omega
theorem fr_Dx {A : Nat → Prop} {a b : va_W} (h : va_D A (a ++ b)) {p q : Nat × va_E} (hp : p ∈ a) (hq : q ∈ b) : p.1 ≠ q.1 := by
  obtain ⟨i, hi⟩ := fr_i1 hp
  obtain ⟨j, hj⟩ := fr_i1 hq
  intro e
  have hl := (List.getElem?_eq_some_iff.mp hi).1
  have g1 : (a ++ b)[i]? = some p := by rw [List.getElem?_append_left hl]; exact hi
  have g2 : (a ++ b)[a.length + j]? = some q := by
    rw [List.getElem?_append_right (Nat.le_add_right _ _), Nat.add_sub_cancel_left]; exact hj
  have := h.1 _ _ p q g1 g2 e
  omega
theorem fr_lt {D : va_G} {cl : List vw_C} {ws : va_W} {H : Heap} (h : va_P D cl ws H) {q : Nat × va_E} (hq : q ∈ ws) : q.1 < H.size := by
  obtain ⟨k, hk⟩ := fr_i1 hq
  exact vx_lt h hk
theorem fr_app {A : Nat → Prop} {a b : va_W} (h1 : va_D A a) (h2 : va_D A b) (hx : ∀ p ∈ a, ∀ q ∈ b, p.1 ≠ q.1) : va_D A (a ++ b) := va_D.app h1 h2 (fun i j p q hi hj => hx p (fr_m hi) q (fr_m hj))
theorem fr_join {A0 : Nat → Prop} {D : va_G} {cl : List vw_C} {a b c b' : va_W} {H H1 : Heap} (hP : va_P D cl (a ++ (b ++ c)) H) (hD : va_D A0 (a ++ (b ++ c))) (hk : ∀ q : Nat, q < H.size → ¬ va_A b H.size q → H1[q]? = H[q]?) (hF : ∀ q, va_A b H.size q → A0 q) (hP1 : va_P D cl b' H1) (hD1 : va_D (va_A b H.size) b') : va_P D cl (a ++ (b' ++ c)) H1 ∧ va_D A0 (a ++ (b' ++ c)) := by
  have hDa := fr_Dl hD
  have hDc := fr_Dr (fr_Dr hD)
  have out : ∀ q ∈ a ++ (b ++ c), (∀ r ∈ b, q.1 ≠ r.1) → ¬ va_A b H.size q.1 := fun q hq hr h => by
    rcases fr_A.mp h with ⟨e, he⟩ | h
    · exact hr _ he rfl
    · exact absurd (fr_lt hP hq) (Nat.not_lt.mpr h)
  have oa : ∀ q ∈ a, ¬ va_A b H.size q.1 := fun q hq => out q (List.mem_append_left _ hq) (fun r hr => fr_Dx hD hq (List.mem_append_left _ hr))
  have oc : ∀ q ∈ c, ¬ va_A b H.size q.1 := fun q hq => out q (List.mem_append_right _ (List.mem_append_right _ hq)) (fun r hr e => fr_Dx (fr_Dr hD) hr hq e.symm)
  have b1 : ∀ q ∈ b', va_A b H.size q.1 := fun q hq => by
    obtain ⟨k, h⟩ := fr_i1 hq
    exact hD1.2 k q h
  have kp : ∀ q ∈ a ++ (b ++ c), ¬ va_A b H.size q.1 → va_at D cl q H1 := fun q hq hn => (fr_P.mp hP q hq).kept (hk q.1 (fr_lt hP hq) hn)
  refine ⟨fr_P.mpr (fun q hq => ?_), ?_⟩
  · rcases List.mem_append.mp hq with h | h
    · exact kp q (List.mem_append_left _ h) (oa q h)
    · rcases List.mem_append.mp h with h | h
      · exact fr_P.mp hP1 q h
      · exact kp q (List.mem_append_right _ (List.mem_append_right _ h)) (oc q h)
  · refine fr_app hDa (fr_app (hD1.weaken (fun _ q _ h => hF q.1 h)) hDc (fun p hp q hq e => ?_)) (fun p hp q hq e => ?_)
    · exact oc q hq (e ▸ b1 p hp)
    · rcases List.mem_append.mp hq with h | h
      · exact oa p hp (e ▸ b1 q h)
      · exact fr_Dx hD hp (List.mem_append_right _ h) e
theorem fr_sub {a b c : va_W} {sz q : Nat} (h : va_A b sz q) : va_A (a ++ (b ++ c)) sz q := by
  rcases fr_A.mp h with ⟨e, he⟩ | h
  · exact fr_A.mpr (Or.inl ⟨e, List.mem_append_right _ (List.mem_append_left _ he)⟩)
  · exact fr_A.mpr (Or.inr h)
section
variable {α : Type} {l : Launch} {y : MethodName} {cc : ByteArray} {n : Nat} {ret : Option FieldType} {d mc ms : Nat} {D : va_G} {tys : List (ClassId × FieldType)} {E E' : th_Ex} {w : α → va_W} {av : List Value} {u : α} {a c : va_W}
theorem fr_pre {sz : Nat} {x : Array Value} {U : State} (hE' : th_EO E') (hEE : ∀ A U H, E' A U H → E A U H) (h : va_Pc av (th_Pre D tys E' (fun z => a ++ (w z ++ c)) u sz) x U) : va_Pc av (th_Pre D tys E w u sz) x U := by
  obtain ⟨q0, q1, qP, qK, qD, qE⟩ := h
  refine ⟨q0, q1, fr_P.mpr (fun q hq => fr_P.mp qP q (List.mem_append_right _ (List.mem_append_left _ hq))), qK, fr_Dl (fr_Dr qD), hEE _ _ _ (hE'.1 _ _ U U U.heap U.heap [] qE va_S.rf (State.WarmedH.refl U) (fun q hq => fr_sub hq))⟩
theorem fr_post {sz : Nat} {x : Array Value} {U t : State} {u1 : α} (h : va_Pc av (th_Pre D tys E' (fun z => a ++ (w z ++ c)) u sz) x U) (hB : th_Post D w (va_A (w u) sz) u1 t) (hF : va_F (va_A (w u) sz) U t) : th_Post D (fun z => a ++ (w z ++ c)) (va_A (a ++ (w u ++ c)) sz) u1 t ∧ va_F (va_A (a ++ (w u ++ c)) sz) U t := by
  obtain ⟨q0, q1, qP, qK, qD, qE⟩ := h
  subst q1
  exact ⟨fr_join qP qD.self hF.2 (fun q hq => fr_sub hq) hB.1 hB.2, hF.1, fun q h1 h2 => hF.2 q h1 (fun h => h2 (fr_sub h))⟩
theorem fr_end {sz : Nat} {U t : State} {o : Outcome} (h : ∃ L, FrameEnd U o t L mc ms ∧ ∀ q ∈ L, va_A (w u) sz q.base) : ∃ L, FrameEnd U o t L mc ms ∧ ∀ q ∈ L, va_A (a ++ (w u ++ c)) sz q.base := by
  obtain ⟨L, h1, h2⟩ := h
  exact ⟨L, h1, fun q hq => fr_sub (h2 q hq)⟩
section
variable {β : Type} {W9 : β → va_W} {f : α → β}
theorem fr_preW {sz : Nat} {x : Array Value} {U : State} (hW : ∀ z, W9 (f z) = a ++ (w z ++ c)) (h : va_Pc av (th_Pre D tys E' W9 (f u) sz) x U) : va_Pc av (th_Pre D tys E' (fun z => a ++ (w z ++ c)) u sz) x U := by
  unfold th_Pre at *
  rw [hW] at h
  exact h
theorem fr_postW {sz : Nat} {x : Array Value} {U t : State} {u1 : α} (hW : ∀ z, W9 (f z) = a ++ (w z ++ c)) (h : va_Pc av (th_Pre D tys E' W9 (f u) sz) x U) (hB : th_Post D w (va_A (w u) sz) u1 t) (hF : va_F (va_A (w u) sz) U t) : th_Post D W9 (va_A (W9 (f u)) sz) (f u1) t ∧ va_F (va_A (W9 (f u)) sz) U t := by
  have := fr_post (fr_preW hW h) hB hF
  unfold th_Post at *
  rw [hW, hW]
  exact this
theorem fr_endW {sz : Nat} {U t : State} {o : Outcome} (hW : ∀ z, W9 (f z) = a ++ (w z ++ c)) (h : ∃ L, FrameEnd U o t L mc ms ∧ ∀ q ∈ L, va_A (w u) sz q.base) : ∃ L, FrameEnd U o t L mc ms ∧ ∀ q ∈ L, va_A (W9 (f u)) sz q.base := by
  rw [hW]
  exact fr_end h
theorem fr_Ci {K : Int32 → α → Prop} {K' : Int32 → β → Prop} (hE' : th_EO E') (hEE : ∀ A U H, E' A U H → E A U H) (hW : ∀ z, W9 (f z) = a ++ (w z ++ c)) (hK : ∀ r z, K r z → K' r (f z)) (h : th_Ci l y cc n ret d mc ms D tys E w av u K) : th_Ci l y cc n ret d mc ms D tys E' W9 av (f u) K' := fun sz =>
  fr_met (h sz) (fun _ _ hp => fr_pre hE' hEE (fr_preW hW hp)) (fun _ _ _ _ hp hq => by
    obtain ⟨⟨⟨r, u1, ho, hK1, hB⟩, hF⟩, hL⟩ := hq
    obtain ⟨g1, g2⟩ := fr_postW hW hp hB hF
    exact ⟨⟨⟨r, f u1, ho, hK _ _ hK1, g1⟩, g2⟩, fr_endW hW hL⟩)
theorem fr_Cl {K : Int64 → α → Prop} {K' : Int64 → β → Prop} (hE' : th_EO E') (hEE : ∀ A U H, E' A U H → E A U H) (hW : ∀ z, W9 (f z) = a ++ (w z ++ c)) (hK : ∀ r z, K r z → K' r (f z)) (h : th_Cl l y cc n ret d mc ms D tys E w av u K) : th_Cl l y cc n ret d mc ms D tys E' W9 av (f u) K' := fun sz =>
  fr_met (h sz) (fun _ _ hp => fr_pre hE' hEE (fr_preW hW hp)) (fun _ _ _ _ hp hq => by
    obtain ⟨⟨⟨r, u1, ho, hK1, hB⟩, hF⟩, hL⟩ := hq
    obtain ⟨g1, g2⟩ := fr_postW hW hp hB hF
    exact ⟨⟨⟨r, f u1, ho, hK _ _ hK1, g1⟩, g2⟩, fr_endW hW hL⟩)
theorem fr_Cv {K : α → Prop} {K' : β → Prop} (hE' : th_EO E') (hEE : ∀ A U H, E' A U H → E A U H) (hW : ∀ z, W9 (f z) = a ++ (w z ++ c)) (hK : ∀ z, K z → K' (f z)) (h : th_Cv l y cc n ret d mc ms D tys E w av u K) : th_Cv l y cc n ret d mc ms D tys E' W9 av (f u) K' := fun sz =>
  fr_met (h sz) (fun _ _ hp => fr_pre hE' hEE (fr_preW hW hp)) (fun _ _ _ _ hp hq => by
    obtain ⟨⟨⟨u1, ho, hK1, hB⟩, hF⟩, hL⟩ := hq
    obtain ⟨g1, g2⟩ := fr_postW hW hp hB hF
    exact ⟨⟨⟨f u1, ho, hK _ hK1, g1⟩, g2⟩, fr_endW hW hL⟩)
theorem fr_thr {T : α → Prop} {T' : β → Prop} {sz : Nat} {x : Array Value} {U t : State} {o : Outcome} (hW : ∀ z, W9 (f z) = a ++ (w z ++ c)) (hT' : ∀ z, T z → T' (f z)) (h : va_Pc av (th_Pre D tys E' W9 (f u) sz) x U) (hq : ∃ q, o = .threw q ∧ vx_T (th_XT D w (va_A (w u) sz) T) U q t mc ms (va_A (w u) sz)) : ∃ q, o = .threw q ∧ vx_T (th_XT D W9 (va_A (W9 (f u)) sz) T') U q t mc ms (va_A (W9 (f u)) sz) := by
  obtain ⟨q, ho, X, ce, L, ⟨u1, hT, ⟨hX, hB⟩, hF⟩, h1, h2, h3, h4, h5, h6⟩ := hq
  obtain ⟨g1, g2⟩ := fr_postW hW h hB hF
  refine ⟨q, ho, X, ce, L, ⟨f u1, hT' _ hT, ⟨hX, g1⟩, g2⟩, h1, h2, h3, h4, h5, fun z hz => ?_⟩
  rw [hW]
  exact fr_sub (h6 z hz)
theorem fr_Xi {K : Int32 → α → Prop} {K' : Int32 → β → Prop} {T : α → Prop} {T' : β → Prop} (hE' : th_EO E') (hEE : ∀ A U H, E' A U H → E A U H) (hW : ∀ z, W9 (f z) = a ++ (w z ++ c)) (hK : ∀ r z, K r z → K' r (f z)) (hT' : ∀ z, T z → T' (f z)) (h : th_Xi l y cc n ret d mc ms D tys E w av u K T) : th_Xi l y cc n ret d mc ms D tys E' W9 av (f u) K' T' := fun sz =>
  fr_met (h sz) (fun _ _ hp => fr_pre hE' hEE (fr_preW hW hp)) (fun _ _ _ _ hp hq => by
    rcases hq with ⟨⟨⟨r, u1, ho, hK1, hB⟩, hF⟩, hL⟩ | hq
    · obtain ⟨g1, g2⟩ := fr_postW hW hp hB hF
      exact Or.inl ⟨⟨⟨r, f u1, ho, hK _ _ hK1, g1⟩, g2⟩, fr_endW hW hL⟩
    · exact Or.inr (fr_thr hW hT' hp hq))
theorem fr_Xl {K : Int64 → α → Prop} {K' : Int64 → β → Prop} {T : α → Prop} {T' : β → Prop} (hE' : th_EO E') (hEE : ∀ A U H, E' A U H → E A U H) (hW : ∀ z, W9 (f z) = a ++ (w z ++ c)) (hK : ∀ r z, K r z → K' r (f z)) (hT' : ∀ z, T z → T' (f z)) (h : th_Xl l y cc n ret d mc ms D tys E w av u K T) : th_Xl l y cc n ret d mc ms D tys E' W9 av (f u) K' T' := fun sz =>
  fr_met (h sz) (fun _ _ hp => fr_pre hE' hEE (fr_preW hW hp)) (fun _ _ _ _ hp hq => by
    rcases hq with ⟨⟨⟨r, u1, ho, hK1, hB⟩, hF⟩, hL⟩ | hq
    · obtain ⟨g1, g2⟩ := fr_postW hW hp hB hF
      exact Or.inl ⟨⟨⟨r, f u1, ho, hK _ _ hK1, g1⟩, g2⟩, fr_endW hW hL⟩
    · exact Or.inr (fr_thr hW hT' hp hq))
end
end

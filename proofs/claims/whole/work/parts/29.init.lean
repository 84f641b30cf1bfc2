/-! the states in which both begin -/
theorem mx_plain0 {u : th_St} {K : th_St → Prop} (h : ∀ y, mf [] [6, 7, 11, 12, 13, 14, 15] [] u y → y.2.2.1 11 0 = nI 24 → y.2.2.1 12 0 = 1 → y.2.2.1 13 0 = 1 → y.2.2.1 14 0 = 0 → y.2.2.1 15 0 = nI 0 → (∀ i, i < 48 → y.2.2.1 6 i = 0 ∧ y.2.2.1 7 i = 10) → K y) : M_plainText 0 u K := by
  have vp1 : vp_in (0 : Int32) 2 := vp_in_nI (n := 0) (by omega) (by omega)
  unfold M_plainText
  refine ⟨vp1, fun u1 e1 => ⟨vp1, fun u2 e2 => ⟨vp1, fun u3 e3 => ⟨vp1, fun u4 e4 => ⟨vp1, fun u5 e5 => ?_⟩⟩⟩⟩⟩
  have f5 : mf [] [6, 7, 11, 12, 13, 14, 15] [] u u5 := by rw [e5, e4, e3, e2, e1]; exact mf_a (by decide) (mf_a (by decide) (mf_a (by decide) (mf_a (by decide) (mf_a (by decide) (mf_r u)))))
  have a11 : u5.2.2.1 11 = upd (u.2.2.1 11) 0 (nI 24) := by rw [e5, tha_n (by decide), e4, tha_n (by decide), e3, tha_n (by decide), e2, tha_n (by decide), e1, tha_s]; rfl
  have a12 : u5.2.2.1 12 = upd (u.2.2.1 12) 0 1 := by rw [e5, tha_n (by decide), e4, tha_n (by decide), e3, tha_n (by decide), e2, tha_s, e1, tha_n (by decide)]; rfl
  have a13 : u5.2.2.1 13 = upd (u.2.2.1 13) 0 1 := by rw [e5, tha_n (by decide), e4, tha_n (by decide), e3, tha_s, e2, tha_n (by decide), e1, tha_n (by decide)]; rfl
  have a14 : u5.2.2.1 14 = upd (u.2.2.1 14) 0 0 := by rw [e5, tha_n (by decide), e4, tha_s, e3, tha_n (by decide), e2, tha_n (by decide), e1, tha_n (by decide)]; rfl
  have a15 : u5.2.2.1 15 = upd (u.2.2.1 15) 0 0 := by rw [e5, tha_s, e4, tha_n (by decide), e3, tha_n (by decide), e2, tha_n (by decide), e1, tha_n (by decide)]; rfl
  clear e1 e2 e3 e4 e5
  refine lqe3 (F := M_plainText_38_lp K) (G := M_plainText_38 K) (fun _ _ _ _ => rfl) (fun d a1 a2 v => a1 = 0 ∧ mf [] [6, 7] [] u5 v ∧ ∃ i, a2 = nI i ∧ i + d = 48 ∧ ∀ j, j < i → v.2.2.1 6 j = 0 ∧ v.2.2.1 7 j = 10) ?_ 48 _ _ _ ⟨rfl, mf_r u5, 0, rfl, by omega, fun j hj => by omega⟩
  rintro kk d a1 a2 v ⟨rfl, vf, i, rfl, hid, hhi⟩ ih
  unfold M_plainText_38
  have c48 : ((48 : Int32) ≤ nI i) = (48 ≤ i) := ni_le (a := 48) (by omega) (by omega)
  rw [c48, show (48 : Int32) * (0 : Int32) = nI 0 from by decide, nI_add, Nat.zero_add]
  refine br1 (fun q => ?_) (fun q => ⟨vp_in_nI (by omega) (by omega), fun u1 e1 => ⟨vp_in_nI (by omega) (by omega), fun u2 e2 x2 ex => ?_⟩⟩)
  · have n5 : ∀ j, j ≠ 6 → j ≠ 7 → v.2.2.1 j = u5.2.2.1 j := fun j h6 h7 => vf.2.1 j (by simp [h6, h7])
    refine h v (mf_t f5 (mf_w vf (by decide) (by decide) (by decide))) ?_ ?_ ?_ ?_ ?_ (fun j hj => hhi j (by omega))
    · rw [n5 11 (by decide) (by decide), a11, pk_us]
    · rw [n5 12 (by decide) (by decide), a12, pk_us]
    · rw [n5 13 (by decide) (by decide), a13, pk_us]
    · rw [n5 14 (by decide) (by decide), a14, pk_us]
    · rw [n5 15 (by decide) (by decide), a15, pk_us]; rfl
  · rw [ni_cl (by omega)] at e1 e2
    subst ex
    have b6 : u2.2.2.1 6 = upd (v.2.2.1 6) i 0 := by rw [e2, tha_n (by decide), e1, tha_s]; rfl
    have b7 : u2.2.2.1 7 = upd (v.2.2.1 7) i 10 := by rw [e2, tha_s, e1, tha_n (by decide)]
    refine ih (d - 1) _ _ _ (by omega) ⟨rfl, by rw [e2, e1]; exact mf_a (by decide) (mf_a (by decide) vf), i + 1, nI_1 i, by omega, fun j hj => ?_⟩
    rw [b6, b7]
    by_cases e : j = i
    · subst e; rw [pk_us, pk_us]; exact ⟨rfl, rfl⟩
    · rw [pk_un (by omega), pk_un (by omega)]; exact hhi j (by omega)
def x_ini (F R B I : Nat) (g h : Nat → Int32) : xs_St :=
  ((fun k => if k = 300 ∨ k = 400 then 24 else if k = 301 ∨ k = 302 ∨ k = 401 ∨ k = 402 then 1 else 0, fun _ => 0, fun k => if k = 308 then h else if k = 408 then g else fun _ => 0, fun _ _ => 0),
   fun k => if k = 206 then some 0 else if k = 502 then some F else none, fun _ _ => none,
   ([F, R, B, I], fun a => if a = F then 3 else if a = R then 1 else if a = B then 2 else 4,
    fun f a => if f = 1 ∧ a = F then some R else if f = 3 ∧ a = F then some I else if f = 0 ∧ a = R then some B else none,
    fun f a => if f = 0 ∧ a = R then -1 else 0, fun _ => 0, fun _ _ => 0))
theorem Sim_ini {F R B I : Nat} {g h : Nat → Int32} {y : th_St} (n1 : F ≠ R) (n2 : F ≠ B) (n3 : F ≠ I) (n4 : R ≠ B) (n5 : R ≠ I) (n6 : B ≠ I) (hh : ∀ j, j < 48 → h j = 10) (hm : mf [] [6, 7, 11, 12, 13, 14, 15] [] th_u0 y) (h11 : y.2.2.1 11 0 = nI 24) (h12 : y.2.2.1 12 0 = 1) (h13 : y.2.2.1 13 0 = 1) (h14 : y.2.2.1 14 0 = 0) (h15 : y.2.2.1 15 0 = nI 0) (h67 : ∀ i, i < 48 → y.2.2.1 6 i = 0 ∧ y.2.2.1 7 i = 10) : Sim (x_ini F R B I g h) y := by
  have hi : ∀ k, y.1 k = nI 0 := fun k => hm.1 k (by simp)
  have ha : ∀ k, k ∉ [6, 7, 11, 12, 13, 14, 15] → ∀ j, y.2.2.1 k j = nI 0 := fun k hk j => by rw [hm.2.1 k hk]; rfl
  have nz : ∀ {P : Nat → Prop}, ∀ k, k < 0 → P k := fun k hk => absurd hk (Nat.not_lt_zero k)
  have kF : xd_is (x_ini F R B I g h) F 3 := ⟨by simp [x_ini, xdL, xdK, xdR], by simp [x_ini, xdL, xdK, xdR]⟩
  have kR : xd_is (x_ini F R B I g h) R 1 := ⟨by simp [x_ini, xdL, xdK, xdR], by simp [x_ini, xdL, xdK, xdR, n1.symm]⟩
  have kB : xd_is (x_ini F R B I g h) B 2 := ⟨by simp [x_ini, xdL, xdK, xdR], by simp [x_ini, xdL, xdK, xdR, n2.symm, n4.symm]⟩
  have kI : xd_is (x_ini F R B I g h) I 4 := ⟨by simp [x_ini, xdL, xdK, xdR], by simp [x_ini, xdL, xdK, xdR, n3.symm, n5.symm, n6.symm]⟩
  have h308 : ∀ i, i < 48 → xa (x_ini F R B I g h) 308 i = 10 := fun i hi => hh i hi
  refine ⟨⟨0, by omega, rfl, hi 2, nz⟩, ⟨0, by omega, rfl, hi 5⟩, ⟨24, by omega, by omega, rfl, h11⟩, fun i hi9 => ?_, ⟨0, by omega, rfl, h14⟩, fun k hk => ⟨0, by omega, rfl, ha 50 (by decide) k, nz⟩, ⟨0, by omega, rfl, hi 56, nz⟩, ⟨0, by omega, rfl, hi 66, nz⟩, ⟨0, by omega, rfl, hi 59, nz⟩, ⟨0, by omega, rfl, hi 62, nz⟩, ⟨0, by omega, rfl, hi 48, nz⟩, rfl, ⟨h12.symm, h13.symm⟩, ⟨24, 0, 0, fun _ => 0, fun _ => 0, fun _ => 0, fun _ => 0, fun _ => 0, fun _ => 0, rfl, by omega, ⟨by omega, nz⟩, ⟨by omega, nz⟩, ⟨by omega, rfl, rfl, nz⟩, ⟨h15, nz⟩⟩, (hi 28).symm, ?_⟩
  · rw [h308 i hi9, (h67 i hi9).1, (h67 i hi9).2]
    exact ⟨rfl, Or.inl rfl, rfl, by decide, by decide⟩
  · refine ⟨24, fun _ => false, fun _ => 10, 0, fun _ => 0, fun _ => 0, fun _ => 0, fun _ => 0, fun _ _ => 0, fun _ _ => 0, fun _ => [], ?_, ?_, ?_, ?_, ?_, ?_, ?_, rfl, rfl, nz⟩
    · exact ⟨⟨by omega, by omega⟩, rfl, fun i hi9 => by rw [h308 i hi9]; exact ⟨rfl, rfl, (show (1 : Int) ≤ 10 by omega), (show (10 : Int) ≤ 99 by omega)⟩⟩
    · exact ⟨⟨by omega, by omega⟩, h11, fun i hi9 => by rw [(h67 i hi9).1, (h67 i hi9).2]; exact ⟨rfl, rfl, (show (1 : Int) ≤ 10 by omega), (show (10 : Int) ≤ 99 by omega)⟩⟩
    · exact ⟨by omega, rfl, nz, fun i j hi9 => absurd hi9 (Nat.not_lt_zero i), fun _ _ => ⟨(show (-99 : Int) ≤ 0 by omega), (show (0 : Int) ≤ 99 by omega)⟩, fun _ _ => ⟨(show (-50 : Int) ≤ 0 by omega), (show (0 : Int) ≤ 50 by omega)⟩⟩
    · exact ⟨⟨by decide, by decide⟩, hi 30, hi 31, nz⟩
    · exact ⟨fun j hj => absurd hj (Nat.not_lt_zero j), fun i j _ hj => absurd hj (Nat.not_lt_zero j)⟩
    · refine ⟨⟨F, rfl, kF, rfl⟩, fun c hc => ?_⟩
      obtain rfl : c = F := by
        obtain ⟨hm9, hk⟩ := hc
        have hm9 : c ∈ [F, R, B, I] := hm9
        simp only [List.mem_cons, List.not_mem_nil, or_false] at hm9
        rcases hm9 with rfl | rfl | rfl | rfl
        · rfl
        · rw [kR.2] at hk; cases hk
        · rw [kB.2] at hk; cases hk
        · rw [kI.2] at hk; cases hk
      refine ⟨⟨[], by simp [lkX, x_ini, xdL, xdK, xdR], fun b hb => absurd hb (by simp)⟩, Or.inl ⟨rfl, by simp [x_ini, xdL, xdK, xdR], ⟨R, B, by simp [x_ini, xdL, xdK, xdR], kR, by simp [x_ini, xdL, xdK, xdR, n1.symm], kB, Or.inr ⟨rfl, fun _ => ⟨rfl, rfl⟩⟩⟩, ⟨I, by simp [x_ini, xdL, xdK, xdR], kI, Or.inl ⟨rfl, fun i hi9 => absurd hi9 (Nat.not_lt_zero i)⟩⟩⟩⟩
    · exact ⟨fun i _ => ha 38 (by decide) i, fun h9 => absurd (hi 40) h9⟩

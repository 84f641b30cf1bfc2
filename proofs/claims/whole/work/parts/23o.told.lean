/-! text: told -/
theorem nar_01 {v : Int32} (h : v = 0 ∨ v = 1) : vp_nar .boolean v = v := by rcases h with rfl | rfl <;> decide
theorem mx_plainT {u : th_St} {K : th_St → Prop} (h : ∀ y, mf [] [6, 7, 11, 12, 13, 14, 15] [] u y → y.2.1 = u.2.1 → lL u y → y.2.2.1 11 1 = nI 24 → y.2.2.1 12 1 = 1 → y.2.2.1 13 1 = 1 → y.2.2.1 14 1 = 0 → y.2.2.1 15 1 = nI 0 → (∀ i, i < 48 → y.2.2.1 6 (48 + i) = 0 ∧ y.2.2.1 7 (48 + i) = 10) → K y) : M_plainText (1 : Int32) u K := by
  have vp1 : vp_in (1 : Int32) 2 := vp_in_nI (n := 1) (by omega) (by omega)
  unfold M_plainText
  refine ⟨vp1, fun u1 e1 => ⟨vp1, fun u2 e2 => ⟨vp1, fun u3 e3 => ⟨vp1, fun u4 e4 => ⟨vp1, fun u5 e5 => ?_⟩⟩⟩⟩⟩
  have f5 : mf [] [6, 7, 11, 12, 13, 14, 15] [] u u5 := by rw [e5, e4, e3, e2, e1]; exact mf_a (by decide) (mf_a (by decide) (mf_a (by decide) (mf_a (by decide) (mf_a (by decide) (mf_r u)))))
  have w5 : u5.2.1 = u.2.1 := by rw [e5, e4, e3, e2, e1]; rfl
  have a11 : u5.2.2.1 11 = upd (u.2.2.1 11) 1 (nI 24) := by rw [e5, tha_n (by decide), e4, tha_n (by decide), e3, tha_n (by decide), e2, tha_n (by decide), e1, tha_s]; rfl
  have a12 : u5.2.2.1 12 = upd (u.2.2.1 12) 1 1 := by rw [e5, tha_n (by decide), e4, tha_n (by decide), e3, tha_n (by decide), e2, tha_s, e1, tha_n (by decide)]; rfl
  have a13 : u5.2.2.1 13 = upd (u.2.2.1 13) 1 1 := by rw [e5, tha_n (by decide), e4, tha_n (by decide), e3, tha_s, e2, tha_n (by decide), e1, tha_n (by decide)]; rfl
  have a14 : u5.2.2.1 14 = upd (u.2.2.1 14) 1 0 := by rw [e5, tha_n (by decide), e4, tha_s, e3, tha_n (by decide), e2, tha_n (by decide), e1, tha_n (by decide)]; rfl
  have a15 : u5.2.2.1 15 = upd (u.2.2.1 15) 1 0 := by rw [e5, tha_s, e4, tha_n (by decide), e3, tha_n (by decide), e2, tha_n (by decide), e1, tha_n (by decide)]; rfl
  have a6 : u5.2.2.1 6 = u.2.2.1 6 := by rw [e5, tha_n (by decide), e4, tha_n (by decide), e3, tha_n (by decide), e2, tha_n (by decide), e1, tha_n (by decide)]
  have a7 : u5.2.2.1 7 = u.2.2.1 7 := by rw [e5, tha_n (by decide), e4, tha_n (by decide), e3, tha_n (by decide), e2, tha_n (by decide), e1, tha_n (by decide)]
  clear e1 e2 e3 e4 e5
  refine lqe3 (F := M_plainText_38_lp K) (G := M_plainText_38 K) (fun _ _ _ _ => rfl) (fun d a1 a2 v => a1 = 1 ∧ mf [] [6, 7] [] u5 v ∧ v.2.1 = u.2.1 ∧ ∃ i, a2 = nI i ∧ i + d = 48 ∧ (∀ j, j < 48 → v.2.2.1 6 j = u.2.2.1 6 j ∧ v.2.2.1 7 j = u.2.2.1 7 j) ∧ ∀ j, j < i → v.2.2.1 6 (48 + j) = 0 ∧ v.2.2.1 7 (48 + j) = 10) ?_ 48 _ _ _ ⟨rfl, mf_r u5, w5, 0, rfl, by omega, fun j _ => by rw [a6, a7]; exact ⟨rfl, rfl⟩, fun j hj => by omega⟩
  rintro kk d a1 a2 v ⟨rfl, vf, vw, i, rfl, hid, hlo, hhi⟩ ih
  unfold M_plainText_38
  have c48 : ((48 : Int32) ≤ nI i) = (48 ≤ i) := ni_le (a := 48) (by omega) (by omega)
  rw [c48, show (48 : Int32) * (1 : Int32) = nI 48 from by decide, nI_add]
  refine br1 (fun q => ?_) (fun q => ⟨vp_in_nI (by omega) (by omega), fun u1 e1 => ⟨vp_in_nI (by omega) (by omega), fun u2 e2 x2 ex => ?_⟩⟩)
  · have n5 : ∀ j, j ≠ 6 → j ≠ 7 → v.2.2.1 j = u5.2.2.1 j := fun j h6 h7 => vf.2.1 j (by simp [h6, h7])
    refine h v (mf_t f5 (mf_w vf (by decide) (by decide) (by decide))) vw ⟨hlo, fun i _ => ?_, ⟨?_, ?_, ?_, ?_, ?_⟩, ?_⟩ ?_ ?_ ?_ ?_ ?_ (fun j hj => hhi j (by omega))
    · rw [n5 8 (by decide) (by decide), n5 9 (by decide) (by decide), n5 10 (by decide) (by decide), f5.2.1 8 (by decide), f5.2.1 9 (by decide), f5.2.1 10 (by decide)]; exact ⟨rfl, rfl, rfl⟩
    · rw [n5 11 (by decide) (by decide), a11, pk_un (by decide)]
    · rw [n5 12 (by decide) (by decide), a12, pk_un (by decide)]
    · rw [n5 13 (by decide) (by decide), a13, pk_un (by decide)]
    · rw [n5 14 (by decide) (by decide), a14, pk_un (by decide)]
    · rw [n5 15 (by decide) (by decide), a15, pk_un (by decide)]
    · exact lz_t (lz_f f5 (by decide)) (lz_f vf (by decide))
    · rw [n5 11 (by decide) (by decide), a11, pk_us]
    · rw [n5 12 (by decide) (by decide), a12, pk_us]
    · rw [n5 13 (by decide) (by decide), a13, pk_us]
    · rw [n5 14 (by decide) (by decide), a14, pk_us]
    · rw [n5 15 (by decide) (by decide), a15, pk_us]; rfl
  · rw [ni_cl (by omega)] at e1 e2
    subst ex
    have b6 : u2.2.2.1 6 = upd (v.2.2.1 6) (48 + i) 0 := by rw [e2, tha_n (by decide), e1, tha_s]; rfl
    have b7 : u2.2.2.1 7 = upd (v.2.2.1 7) (48 + i) 10 := by rw [e2, tha_s, e1, tha_n (by decide)]
    refine ih (d - 1) _ _ _ (by omega) ⟨rfl, by rw [e2, e1]; exact mf_a (by decide) (mf_a (by decide) vf), by rw [e2, e1]; exact vw, i + 1, nI_1 i, by omega, fun j hj => ?_, fun j hj => ?_⟩
    · rw [b6, b7, pk_un (by omega), pk_un (by omega)]; exact hlo j hj
    · rw [b6, b7]
      by_cases e : j = i
      · subst e; rw [pk_us, pk_us]; exact ⟨rfl, rfl⟩
      · rw [pk_un (by omega), pk_un (by omega)]; exact hhi j (by omega)
/-- the text at hand is put in force -/
def cpM (u m : th_St) : Prop := (∀ i, i < 48 → m.2.2.1 6 i = u.2.2.1 6 (48 + i) ∧ m.2.2.1 7 i = u.2.2.1 7 (48 + i)) ∧ (∀ i, i < 6 → m.2.2.1 8 i = u.2.2.1 8 (6 + i) ∧ m.2.2.1 9 i = u.2.2.1 9 (6 + i) ∧ m.2.2.1 10 i = u.2.2.1 10 (6 + i)) ∧ (m.2.2.1 11 0 = u.2.2.1 11 1 ∧ m.2.2.1 12 0 = u.2.2.1 12 1 ∧ m.2.2.1 13 0 = u.2.2.1 13 1 ∧ m.2.2.1 14 0 = u.2.2.1 14 1 ∧ m.2.2.1 15 0 = u.2.2.1 15 1) ∧ ∀ s, s < 200 → m.2.2.1 16 s = u.2.2.1 16 (200 + s) ∧ m.2.2.1 17 s = u.2.2.1 17 (200 + s) ∧ m.2.2.1 18 s = u.2.2.1 18 (200 + s) ∧ m.2.2.1 19 s = u.2.2.1 19 (200 + s)
theorem mx_225 {u : th_St} {x1 : Int32} {K : Int32 → th_St → Prop} (h : ∀ y, mf [] [16, 17, 18, 19] [] u y → (∀ s, s < 200 → y.2.2.1 16 s = u.2.2.1 16 (200 + s) ∧ y.2.2.1 17 s = u.2.2.1 17 (200 + s) ∧ y.2.2.1 18 s = u.2.2.1 18 (200 + s) ∧ y.2.2.1 19 s = u.2.2.1 19 (200 + s)) → K x1 y) : ∃ j, M_text_225_lp K j x1 (0 : Int32) u := by
  refine lqe3 (F := M_text_225_lp K) (G := M_text_225 K) (fun _ _ _ _ => rfl) (fun d a1 a2 v => a1 = x1 ∧ mf [] [16, 17, 18, 19] [] u v ∧ ∃ i, a2 = nI i ∧ i + d = 200 ∧ (∀ s, 200 ≤ s → v.2.2.1 16 s = u.2.2.1 16 s ∧ v.2.2.1 17 s = u.2.2.1 17 s ∧ v.2.2.1 18 s = u.2.2.1 18 s ∧ v.2.2.1 19 s = u.2.2.1 19 s) ∧ ∀ s, s < i → v.2.2.1 16 s = u.2.2.1 16 (200 + s) ∧ v.2.2.1 17 s = u.2.2.1 17 (200 + s) ∧ v.2.2.1 18 s = u.2.2.1 18 (200 + s) ∧ v.2.2.1 19 s = u.2.2.1 19 (200 + s)) ?_ 200 _ _ _ ⟨rfl, mf_r u, 0, rfl, by omega, fun s _ => ⟨rfl, rfl, rfl, rfl⟩, fun s hs => by omega⟩
  rintro kk d a1 a2 v ⟨rfl, vf, i, rfl, hid, hhi, hlo⟩ ih
  unfold M_text_225
  have c : ((200 : Int32) ≤ nI i) = (200 ≤ i) := ni_le (a := 200) (by omega) (by omega)
  rw [c, show (200 : Int32) = nI 200 from rfl, nI_add]
  refine br1 (fun q => h v vf (fun s hs => hlo s (by omega))) (fun q => ?_)
  have vi : vp_in (nI (200 + i)) 400 := vp_in_nI (by omega) (by omega)
  have vi0 : vp_in (nI i) 400 := vp_in_nI (by omega) (by omega)
  refine ⟨vi, fun y1 e1 => ⟨vi0, fun u2 e2 => ⟨vi, fun y3 e3 => ⟨vi0, fun u4 e4 => ⟨vi, fun y5 e5 => ⟨vi0, fun u6 e6 => ⟨vi, fun y7 e7 => ⟨vi0, fun u8 e8 x2 ex => ?_⟩⟩⟩⟩⟩⟩⟩⟩
  rw [ni_cl (by omega)] at e1 e2 e3 e4 e5 e6 e7 e8
  subst ex
  obtain ⟨h1, h2, h3, h4⟩ := hhi (200 + i) (by omega)
  have y1' : y1 = u.2.2.1 16 (200 + i) := e1.trans h1
  have y3' : y3 = u.2.2.1 17 (200 + i) := by rw [e3, e2, tha_n (by decide)]; exact h2
  have y5' : y5 = u.2.2.1 18 (200 + i) := by rw [e5, e4, tha_n (by decide), e2, tha_n (by decide)]; exact h3
  have y7' : y7 = u.2.2.1 19 (200 + i) := by rw [e7, e6, tha_n (by decide), e4, tha_n (by decide), e2, tha_n (by decide)]; exact h4
  have z16 : u8.2.2.1 16 = upd (v.2.2.1 16) i (u.2.2.1 16 (200 + i)) := by rw [e8, tha_n (by decide), e6, tha_n (by decide), e4, tha_n (by decide), e2, tha_s, y1']
  have z17 : u8.2.2.1 17 = upd (v.2.2.1 17) i (u.2.2.1 17 (200 + i)) := by rw [e8, tha_n (by decide), e6, tha_n (by decide), e4, tha_s, e2, tha_n (by decide), y3']
  have z18 : u8.2.2.1 18 = upd (v.2.2.1 18) i (u.2.2.1 18 (200 + i)) := by rw [e8, tha_n (by decide), e6, tha_s, e4, tha_n (by decide), e2, tha_n (by decide), y5']
  have z19 : u8.2.2.1 19 = upd (v.2.2.1 19) i (u.2.2.1 19 (200 + i)) := by rw [e8, tha_s, e6, tha_n (by decide), e4, tha_n (by decide), e2, tha_n (by decide), y7']
  refine ih (d - 1) _ _ _ (by omega) ⟨rfl, by rw [e8, e6, e4, e2]; exact mf_a (by decide) (mf_a (by decide) (mf_a (by decide) (mf_a (by decide) vf))), i + 1, nI_1 i, by omega, fun s hs => ?_, fun s hs => ?_⟩
  · rw [z16, z17, z18, z19, pk_un (by omega), pk_un (by omega), pk_un (by omega), pk_un (by omega)]; exact hhi s hs
  · rw [z16, z17, z18, z19]
    by_cases e : s = i
    · subst e; rw [pk_us, pk_us, pk_us, pk_us]; exact ⟨rfl, rfl, rfl, rfl⟩
    · rw [pk_un e, pk_un e, pk_un e, pk_un e]; exact hlo s (by omega)
theorem mx_166 {u : th_St} {x1 : Int32} {K : Int32 → th_St → Prop} (h : ∀ y, mf [] [8, 9, 10] [] u y → (∀ s, s < 6 → y.2.2.1 8 s = u.2.2.1 8 (6 + s) ∧ y.2.2.1 9 s = u.2.2.1 9 (6 + s) ∧ y.2.2.1 10 s = u.2.2.1 10 (6 + s)) → ∃ j, M_text_225_lp K j x1 (0 : Int32) y) : ∃ j, M_text_166_lp K j x1 (0 : Int32) u := by
  refine lqe3 (F := M_text_166_lp K) (G := M_text_166 K) (fun _ _ _ _ => rfl) (fun d a1 a2 v => a1 = x1 ∧ mf [] [8, 9, 10] [] u v ∧ ∃ i, a2 = nI i ∧ i + d = 6 ∧ (∀ s, 6 ≤ s → v.2.2.1 8 s = u.2.2.1 8 s ∧ v.2.2.1 9 s = u.2.2.1 9 s ∧ v.2.2.1 10 s = u.2.2.1 10 s) ∧ ∀ s, s < i → v.2.2.1 8 s = u.2.2.1 8 (6 + s) ∧ v.2.2.1 9 s = u.2.2.1 9 (6 + s) ∧ v.2.2.1 10 s = u.2.2.1 10 (6 + s)) ?_ 6 _ _ _ ⟨rfl, mf_r u, 0, rfl, by omega, fun s _ => ⟨rfl, rfl, rfl⟩, fun s hs => by omega⟩
  rintro kk d a1 a2 v ⟨rfl, vf, i, rfl, hid, hhi, hlo⟩ ih
  unfold M_text_166
  have c : ((6 : Int32) ≤ nI i) = (6 ≤ i) := ni_le (a := 6) (by omega) (by omega)
  rw [c, show (6 : Int32) = nI 6 from rfl, nI_add]
  refine br1 (fun q => h v vf (fun s hs => hlo s (by omega))) (fun q => ?_)
  have vi : vp_in (nI (6 + i)) 12 := vp_in_nI (by omega) (by omega)
  have vi0 : vp_in (nI i) 12 := vp_in_nI (by omega) (by omega)
  refine ⟨vi, fun y1 e1 => ⟨vi0, fun u2 e2 => ⟨vi, fun y3 e3 => ⟨vi0, fun u4 e4 => ⟨vi, fun y5 e5 => ⟨vi0, fun u6 e6 x2 ex => ?_⟩⟩⟩⟩⟩⟩
  rw [ni_cl (by omega)] at e1 e2 e3 e4 e5 e6
  subst ex
  obtain ⟨h1, h2, h3⟩ := hhi (6 + i) (by omega)
  have y1' : y1 = u.2.2.1 8 (6 + i) := e1.trans h1
  have y3' : y3 = u.2.2.1 9 (6 + i) := by rw [e3, e2, tha_n (by decide)]; exact h2
  have y5' : y5 = u.2.2.1 10 (6 + i) := by rw [e5, e4, tha_n (by decide), e2, tha_n (by decide)]; exact h3
  have z8 : u6.2.2.1 8 = upd (v.2.2.1 8) i (u.2.2.1 8 (6 + i)) := by rw [e6, tha_n (by decide), e4, tha_n (by decide), e2, tha_s, y1']
  have z9 : u6.2.2.1 9 = upd (v.2.2.1 9) i (u.2.2.1 9 (6 + i)) := by rw [e6, tha_n (by decide), e4, tha_s, e2, tha_n (by decide), y3']
  have z10 : u6.2.2.1 10 = upd (v.2.2.1 10) i (u.2.2.1 10 (6 + i)) := by rw [e6, tha_s, e4, tha_n (by decide), e2, tha_n (by decide), y5']
  refine ih (d - 1) _ _ _ (by omega) ⟨rfl, by rw [e6, e4, e2]; exact mf_a (by decide) (mf_a (by decide) (mf_a (by decide) vf)), i + 1, nI_1 i, by omega, fun s hs => ?_, fun s hs => ?_⟩
  · rw [z8, z9, z10, pk_un (by omega), pk_un (by omega), pk_un (by omega)]; exact hhi s hs
  · rw [z8, z9, z10]
    by_cases e : s = i
    · subst e; rw [pk_us, pk_us, pk_us]; exact ⟨rfl, rfl, rfl⟩
    · rw [pk_un e, pk_un e, pk_un e]; exact hlo s (by omega)
theorem mx_122 {u : th_St} {x1 : Int32} {K : Int32 → th_St → Prop} (h01 : ∀ i, i < 48 → u.2.2.1 6 (48 + i) = 0 ∨ u.2.2.1 6 (48 + i) = 1) (h : ∀ y, mf [] [6, 7] [] u y → (∀ s, s < 48 → y.2.2.1 6 s = u.2.2.1 6 (48 + s) ∧ y.2.2.1 7 s = u.2.2.1 7 (48 + s)) → ∃ j, M_text_166_lp K j x1 (0 : Int32) y) : ∃ j, M_text_122_lp K j x1 (0 : Int32) u := by
  refine lqe3 (F := M_text_122_lp K) (G := M_text_122 K) (fun _ _ _ _ => rfl) (fun d a1 a2 v => a1 = x1 ∧ mf [] [6, 7] [] u v ∧ ∃ i, a2 = nI i ∧ i + d = 48 ∧ (∀ s, 48 ≤ s → v.2.2.1 6 s = u.2.2.1 6 s ∧ v.2.2.1 7 s = u.2.2.1 7 s) ∧ ∀ s, s < i → v.2.2.1 6 s = u.2.2.1 6 (48 + s) ∧ v.2.2.1 7 s = u.2.2.1 7 (48 + s)) ?_ 48 _ _ _ ⟨rfl, mf_r u, 0, rfl, by omega, fun s _ => ⟨rfl, rfl⟩, fun s hs => by omega⟩
  rintro kk d a1 a2 v ⟨rfl, vf, i, rfl, hid, hhi, hlo⟩ ih
  unfold M_text_122
  have c : ((48 : Int32) ≤ nI i) = (48 ≤ i) := ni_le (a := 48) (by omega) (by omega)
  rw [c, show (48 : Int32) = nI 48 from rfl, nI_add]
  refine br1 (fun q => h v vf (fun s hs => hlo s (by omega))) (fun q => ?_)
  have vi : vp_in (nI (48 + i)) 96 := vp_in_nI (by omega) (by omega)
  have vi0 : vp_in (nI i) 96 := vp_in_nI (by omega) (by omega)
  refine ⟨vi, fun y1 e1 => ⟨vi0, fun u2 e2 => ⟨vi, fun y3 e3 => ⟨vi0, fun u4 e4 x2 ex => ?_⟩⟩⟩⟩
  rw [ni_cl (by omega)] at e1 e2 e3 e4
  subst ex
  obtain ⟨h1, h2⟩ := hhi (48 + i) (by omega)
  have y1' : y1 = u.2.2.1 6 (48 + i) := e1.trans h1
  have y3' : y3 = u.2.2.1 7 (48 + i) := by rw [e3, e2, tha_n (by decide)]; exact h2
  have z6 : u4.2.2.1 6 = upd (v.2.2.1 6) i (u.2.2.1 6 (48 + i)) := by rw [e4, tha_n (by decide), e2, tha_s, y1', nar_01 (h01 i (by omega))]
  have z7 : u4.2.2.1 7 = upd (v.2.2.1 7) i (u.2.2.1 7 (48 + i)) := by rw [e4, tha_s, e2, tha_n (by decide), y3']
  refine ih (d - 1) _ _ _ (by omega) ⟨rfl, by rw [e4, e2]; exact mf_a (by decide) (mf_a (by decide) vf), i + 1, nI_1 i, by omega, fun s hs => ?_, fun s hs => ?_⟩
  · rw [z6, z7, pk_un (by omega), pk_un (by omega)]; exact hhi s hs
  · rw [z6, z7]
    by_cases e : s = i
    · subst e; rw [pk_us, pk_us]; exact ⟨rfl, rfl⟩
    · rw [pk_un e, pk_un e]; exact hlo s (by omega)
abbrev CA : List Nat := [6, 7, 8, 9, 10, 11, 12, 13, 14, 15, 16, 17, 18, 19]
abbrev SI : List Nat := [0, 2, 3, 4, 21, 22, 23, 24, 25, 26, 27, 28, 29, 33]
/-- behind the reading -/
def KT (K : Int32 → th_St → Prop) : Int32 → th_St → Prop := fun r_12 u_11 => ((0 ≤ r_12 → (vp_in (1 : Int32) 2 ∧ ∀ y_13 : Int32, y_13 = u_11.2.2.1 11 ((1 : Int32)).toNatClampNeg → (vp_in (0 : Int32) 2 ∧ ∀ u_14 : th_St, u_14 = th_sa u_11 11 (upd (u_11.2.2.1 11) ((0 : Int32)).toNatClampNeg y_13) → (vp_in (1 : Int32) 2 ∧ ∀ y_15 : Int32, y_15 = u_14.2.2.1 12 ((1 : Int32)).toNatClampNeg → (vp_in (0 : Int32) 2 ∧ ∀ u_16 : th_St, u_16 = th_sa u_14 12 (upd (u_14.2.2.1 12) ((0 : Int32)).toNatClampNeg y_15) → (vp_in (1 : Int32) 2 ∧ ∀ y_17 : Int32, y_17 = u_16.2.2.1 13 ((1 : Int32)).toNatClampNeg → (vp_in (0 : Int32) 2 ∧ ∀ u_18 : th_St, u_18 = th_sa u_16 13 (upd (u_16.2.2.1 13) ((0 : Int32)).toNatClampNeg y_17) → (vp_in (1 : Int32) 2 ∧ ∀ y_19 : Int32, y_19 = u_18.2.2.1 14 ((1 : Int32)).toNatClampNeg → (vp_in (0 : Int32) 2 ∧ ∀ u_20 : th_St, u_20 = th_sa u_18 14 (upd (u_18.2.2.1 14) ((0 : Int32)).toNatClampNeg y_19) → (vp_in (1 : Int32) 2 ∧ ∀ y_21 : Int32, y_21 = u_20.2.2.1 15 ((1 : Int32)).toNatClampNeg → (vp_in (0 : Int32) 2 ∧ ∀ u_22 : th_St, u_22 = th_sa u_20 15 (upd (u_20.2.2.1 15) ((0 : Int32)).toNatClampNeg y_21) → ∃ n, M_text_122_lp K n r_12 (0 : Int32) u_22))))))))))) ∧ (¬ 0 ≤ r_12 → K ((-1 : Int32) - (u_11.1 29)) u_11))
theorem KT_0 {K : Int32 → th_St → Prop} {r : Int32} {u : th_St} (hr : ¬ (0 : Int32) ≤ r) (h : K ((-1 : Int32) - (u.1 29)) u) : KT K r u := ⟨fun g => absurd g hr, fun _ => h⟩
theorem KT_1 {K : Int32 → th_St → Prop} {r : Int32} {u : th_St} (hr : (0 : Int32) ≤ r) (h01 : ∀ i, i < 48 → u.2.2.1 6 (48 + i) = 0 ∨ u.2.2.1 6 (48 + i) = 1) (h : ∀ m', mf [] CA [] u m' → cpM u m' → K r m') : KT K r u := by
  have v1 : vp_in (1 : Int32) 2 := vp_in_nI (n := 1) (by omega) (by omega)
  have v0 : vp_in (0 : Int32) 2 := vp_in_nI (n := 0) (by omega) (by omega)
  refine ⟨fun _ => ⟨v1, fun y1 e1 => ⟨v0, fun u2 e2 => ⟨v1, fun y3 e3 => ⟨v0, fun u4 e4 => ⟨v1, fun y5 e5 => ⟨v0, fun u6 e6 => ⟨v1, fun y7 e7 => ⟨v0, fun u8 e8 => ⟨v1, fun y9 e9 => ⟨v0, fun u10 e10 => ?_⟩⟩⟩⟩⟩⟩⟩⟩⟩⟩, fun g => absurd hr g⟩
  have f10 : mf [] [11, 12, 13, 14, 15] [] u u10 := by rw [e10, e8, e6, e4, e2]; exact mf_a (by decide) (mf_a (by decide) (mf_a (by decide) (mf_a (by decide) (mf_a (by decide) (mf_r u)))))
  have b11 : u10.2.2.1 11 0 = u.2.2.1 11 1 := by
    rw [e10, tha_n (by decide), e8, tha_n (by decide), e6, tha_n (by decide), e4, tha_n (by decide), e2, tha_s]
    exact pk_us.trans e1
  have b12 : u10.2.2.1 12 0 = u.2.2.1 12 1 := by
    rw [e10, tha_n (by decide), e8, tha_n (by decide), e6, tha_n (by decide), e4, tha_s]
    refine pk_us.trans ?_
    rw [e3, e2, tha_n (by decide)]; rfl
  have b13 : u10.2.2.1 13 0 = u.2.2.1 13 1 := by
    rw [e10, tha_n (by decide), e8, tha_n (by decide), e6, tha_s]
    refine pk_us.trans ?_
    rw [e5, e4, tha_n (by decide), e2, tha_n (by decide)]; rfl
  have b14 : u10.2.2.1 14 0 = u.2.2.1 14 1 := by
    rw [e10, tha_n (by decide), e8, tha_s]
    refine pk_us.trans ?_
    rw [e7, e6, tha_n (by decide), e4, tha_n (by decide), e2, tha_n (by decide)]; rfl
  have b15 : u10.2.2.1 15 0 = u.2.2.1 15 1 := by
    rw [e10, tha_s]
    refine pk_us.trans ?_
    rw [e9, e8, tha_n (by decide), e6, tha_n (by decide), e4, tha_n (by decide), e2, tha_n (by decide)]; rfl
  clear e1 e2 e3 e4 e5 e6 e7 e8 e9 e10
  refine mx_122 (fun i hi => by rw [f10.2.1 6 (by decide)]; exact h01 i hi) (fun w fw wV => mx_166 (fun z fz zV => mx_225 (fun m' fm mV => ?_)))
  have F : mf [] CA [] u m' := mf_t (mf_w f10 (by decide) (by decide) (by decide)) (mf_t (mf_w fw (by decide) (by decide) (by decide)) (mf_t (mf_w fz (by decide) (by decide) (by decide)) (mf_w fm (by decide) (by decide) (by decide))))
  refine h m' F ⟨fun i hi => ?_, fun i hi => ?_, ⟨?_, ?_, ?_, ?_, ?_⟩, fun s hs => ?_⟩
  · rw [fm.2.1 6 (by decide), fm.2.1 7 (by decide), fz.2.1 6 (by decide), fz.2.1 7 (by decide), (wV i hi).1, (wV i hi).2, f10.2.1 6 (by decide), f10.2.1 7 (by decide)]; exact ⟨rfl, rfl⟩
  · rw [fm.2.1 8 (by decide), fm.2.1 9 (by decide), fm.2.1 10 (by decide), (zV i hi).1, (zV i hi).2.1, (zV i hi).2.2, fw.2.1 8 (by decide), fw.2.1 9 (by decide), fw.2.1 10 (by decide), f10.2.1 8 (by decide), f10.2.1 9 (by decide), f10.2.1 10 (by decide)]; exact ⟨rfl, rfl, rfl⟩
  · rw [fm.2.1 11 (by decide), fz.2.1 11 (by decide), fw.2.1 11 (by decide)]; exact b11
  · rw [fm.2.1 12 (by decide), fz.2.1 12 (by decide), fw.2.1 12 (by decide)]; exact b12
  · rw [fm.2.1 13 (by decide), fz.2.1 13 (by decide), fw.2.1 13 (by decide)]; exact b13
  · rw [fm.2.1 14 (by decide), fz.2.1 14 (by decide), fw.2.1 14 (by decide)]; exact b14
  · rw [fm.2.1 15 (by decide), fz.2.1 15 (by decide), fw.2.1 15 (by decide)]; exact b15
  · obtain ⟨q1, q2, q3, q4⟩ := mV s hs
    rw [q1, q2, q3, q4, fz.2.1 16 (by decide), fz.2.1 17 (by decide), fz.2.1 18 (by decide), fz.2.1 19 (by decide), fw.2.1 16 (by decide), fw.2.1 17 (by decide), fw.2.1 18 (by decide), fw.2.1 19 (by decide), f10.2.1 16 (by decide), f10.2.1 17 (by decide), f10.2.1 18 (by decide), f10.2.1 19 (by decide)]; exact ⟨rfl, rfl, rfl, rfl⟩
/-- the reference tells a text, up to its reading -/
theorem mx_text {m : th_St} {K : Int32 → th_St → Prop} {H : Nat} (h30 : m.1 30 = nI H) (hH : H ≤ 40) (hb : H ≠ 0 → K (-1000) (mT m))
    (hgo : H = 0 → ∀ u8, mf [0, 2, 3, 4, 21, 23, 28] [6, 7, 11, 12, 13, 14, 15] [] m u8 → lL m u8 → u8.1 2 = 0 → u8.1 3 = m.1 2 → u8.1 4 = nI 0 → u8.1 21 = nI 0 → u8.1 23 = nI 0 → u8.1 28 = 0 → u8.2.2.1 11 1 = nI 24 → u8.2.2.1 12 1 = 1 → u8.2.2.1 13 1 = 1 → u8.2.2.1 14 1 = 0 → u8.2.2.1 15 1 = nI 0 → (∀ i, i < 48 → u8.2.2.1 6 (48 + i) = 0 ∧ u8.2.2.1 7 (48 + i) = 10) → M_next_ u8 (fun u_9 => M_read u_9 (KT K))) : M_text m K := by
  unfold M_text
  intro u1 e1
  subst e1
  refine mx_taken ?_
  have e30 : (mT m).1 30 = nI H := h30
  have c0 : (nI H ≤ (0 : Int32)) = (H ≤ 0) := ni_le (b := 0) (by omega) (by omega)
  rw [e30, c0]
  refine br1 (fun q => ?_) (fun q => hb (by omega))
  intro u4 e4
  have f4 : mf [0, 2, 3, 4, 28] [] [] m u4 := by rw [e4]; exact mf_i (by decide) (mf_w (mfT m) (by decide) (by decide) (by decide))
  have a2 : u4.1 2 = 0 := by rw [e4]; rfl
  have a3 : u4.1 3 = m.1 2 := by rw [e4]; rfl
  have a4 : u4.1 4 = nI 0 := by rw [e4]; rfl
  have a28 : u4.1 28 = 0 := by rw [e4]; exact thi_s _ _ _
  clear e4
  refine mx_plainT (fun u5 f5 w5 l5 b11 b12 b13 b14 b15 b67 => ?_)
  intro u7 e7 u8 e8
  have f8 : mf [21, 23] [] [] u5 u8 := by rw [e8, e7]; exact mf_i (by decide) (mf_i (by decide) (mf_r u5))
  have b21 : u8.1 21 = nI 0 := by rw [e8, thi_n (by decide), e7]; exact thi_s _ _ _
  have b23 : u8.1 23 = nI 0 := by rw [e8]; exact thi_s _ _ _
  clear e7 e8
  have k5 : ∀ j, j ≠ 21 → j ≠ 23 → u8.1 j = u4.1 j := fun j h1 h2 => (f8.1 j (by simp [h1, h2])).trans (f5.1 j (by simp))
  have n8 : ∀ j, u8.2.2.1 j = u5.2.2.1 j := fun j => f8.2.1 j (by simp)
  exact hgo (by omega) u8 (mf_t (mf_w f4 (by decide) (by decide) (by decide)) (mf_t (mf_w f5 (by decide) (by decide) (by decide)) (mf_w f8 (by decide) (by decide) (by decide)))) (lL_t (lL_f f4 (by decide) (lz_f f4 (by decide))) (lL_t l5 (lL_f f8 (by decide) (lz_f f8 (by decide))))) ((k5 2 (by decide) (by decide)).trans a2) ((k5 3 (by decide) (by decide)).trans a3) ((k5 4 (by decide) (by decide)).trans a4) b21 b23 ((k5 28 (by decide) (by decide)).trans a28) (by rw [n8]; exact b11) (by rw [n8]; exact b12) (by rw [n8]; exact b13) (by rw [n8]; exact b14) (by rw [n8]; exact b15) (fun i hi => by rw [n8, n8]; exact b67 i hi)
theorem fx01 {v : Int32} (h : v = 0 ∨ v = 1) : v = (if decide (v = 1) = true then 1 else 0) := by rcases h with rfl | rfl <;> decide
/-- the text in force is another -/
theorem sBody_new {x x' : xs_St} {m m' : th_St} {n : Nat} (h : sBody x m) (h504 : xi x 504 = 0) (hn : 4 ≤ n ∧ n ≤ 48) (e300 : xi x' 300 = nI n) (eX : ∀ i, i < 48 → (xa x' 307 i = 0 ∨ xa x' 307 i = 1) ∧ 1 ≤ (xa x' 308 i).toInt ∧ (xa x' 308 i).toInt ≤ 99) (ep : x'.2.2.2 = x.2.2.2) (er : xr x' 502 = xr x 502) (e503 : xi x' 503 = xi x 503) (e504 : xi x' 504 = xi x 504) (e505 : xi x' 505 = xi x 505) (e500 : xo x' 500 = xo x 500)
    (m11 : m'.2.2.1 11 0 = nI n) (mX : ∀ i, i < 48 → m'.2.2.1 6 i = xa x' 307 i ∧ m'.2.2.1 7 i = xa x' 308 i) (mi : ∀ k, k = 30 ∨ k = 31 ∨ k = 40 ∨ k = 41 ∨ k = 42 → m'.1 k = m.1 k) (ma : ∀ k, k = 38 ∨ k = 39 → m'.2.2.1 k = m.2.2.1 k) : sBody x' m' := by
  obtain ⟨n0, fx0, hd0, N, eh, ed, er0, ea, rd, wd, P, b1, b2, b3, b4, b5, b6, b7, b8, b9, b10⟩ := h
  have hb := b4.1
  have hc0 : hcn eh N = 0 := by
    have := nI_inj (b := 0) (by omega) (by omega) (b8.symm.trans h504)
    exact this
  have hN : N = 0 := by
    rcases Nat.eq_zero_or_pos N with g | g
    · exact g
    · have h1 := b5.1 0 g
      have h2 : hcn eh 1 = if eh 0 = hcn eh 0 then hcn eh 0 + 1 else hcn eh 0 := hcn_s (N := 0) h1
      have h3 : hcn eh 0 = 0 := rfl
      rw [h3] at h1 h2
      rw [if_pos (by omega)] at h2
      have := hcn_mo (eh := eh) (i := 1) N (by omega)
      omega
  subst hN
  have tr0 : ∀ fx hd, trX x' n fx hd 0 eh er0 rd P := by
    intro fx hd
    have b6' := trX_d ep er b6
    refine ⟨b6'.1, fun c hc => ?_⟩
    obtain ⟨q1, q2⟩ := b6'.2 c hc
    refine ⟨q1, ?_⟩
    rcases q2 with g | ⟨j, js, a, arr, -, g, -⟩
    · exact Or.inl g
    · omega
  refine ⟨n, fun i => decide (xa x' 307 i = 1), fun i => (xa x' 308 i).toInt, 0, eh, ed, er0, ea, rd, wd, P, ⟨hn, e300, fun i hi => ?_⟩, ⟨hn, m11, fun i hi => ?_⟩, ⟨by omega, e503.trans b3.2.1, fun j hj => by omega, fun i j hi => by omega, b3.2.2.2.2⟩, ⟨hb, (mi 30 (by simp)).trans b4.2.1, (mi 31 (by simp)).trans b4.2.2.1, fun j hj => by omega⟩, b5, tr0 _ _, ⟨fun i hi => by rw [ma 38 (by simp)]; exact b7.1 i hi, fun q => ?_⟩, e504.trans b8, e505.trans b9, fun j hj => by omega⟩
  · obtain ⟨g1, g2⟩ := eX i hi
    refine ⟨?_, (ii_self _).symm, g2⟩
    exact fx01 g1
  · obtain ⟨g1, g2⟩ := eX i hi
    rw [(mX i hi).1, (mX i hi).2]
    refine ⟨?_, (ii_self _).symm, g2⟩
    exact fx01 g1
  · rw [mi 40 (by simp)] at q
    have ck := b7.2 q
    rw [mi 41 (by simp)]
    generalize (m.1 41).toInt = tt at ck ⊢
    have h0 : thr eh ed tt 0 = 0 := rfl
    refine ⟨by rw [mi 42 (by simp)]; exact ck.1, fun c i hc hi => ?_, fun h hh => by omega⟩
    have hc0' : c = 0 := by omega
    subst hc0'
    rw [ma 38 (by simp), show 48 * 0 + i = i by omega, b7.1 i (by omega), pthc, flG]
    rfl
def xq (x x' : xs_St) : Prop := (∀ k, k ∉ ([101, 203, 205, 207, 208, 209, 210, 211, 212, 213] : List Nat) → (k < 300 ∨ 500 ≤ k) → xi x' k = xi x k) ∧ (∀ k, k ∉ ([201, 202] : List Nat) → (k < 300 ∨ 500 ≤ k) → xa x' k = xa x k) ∧ (∀ k, xl x' k = xl x k) ∧ (∀ k, k ≠ 206 → xr x' k = xr x k) ∧ (∀ k, k ≠ 200 → (k < 300 ∨ 500 ≤ k) → xo x' k = xo x k) ∧ x'.2.2.2 = x.2.2.2
theorem sx_text {x : xs_St} {m : th_St} (hT : sTape x m) (hB : sBody x m) (h212 : xi x 212 = m.1 28) {K : Int32 → xs_St → Int32 → th_St → Prop}
    (k0 : ∀ r x' m', xh (101 :: TI) TA TO x x' → mf SI LA [] m m' → lL m m' → xi x' 212 = m'.1 28 → xi x' 101 = 0 → m'.1 2 = 0 → K r x' r m')
    (k1 : ∀ r x' m', xq x x' → mf SI LA [] m m' → sFeet x' m' → sHold x' m' → sPH x' m' → sNoise x' m' → sAl x' m' → sBody x' m' → xi x' 212 = m'.1 28 → xi x' 101 = 0 → m'.1 2 = 0 → K r x' r m') : X_TH_text x (fun r x' => M_text m (fun r' m' => K r x' r' m')) := by
  obtain ⟨L, b, hbx, h2, hbm⟩ := b_of hT
  have hB0 := hB
  obtain ⟨n0, fx0, hd0, N, eh, ed, er, ea, rd, wd, P, b1, b2, b3, b4, b5, b6, b7, b8, b9, b10⟩ := hB
  have hb4 := b4.1
  have c504 : (nI (hcn eh N) = (0 : Int32)) = (hcn eh N = 0) := ni_eq (b := 0) (by omega) (by omega)
  unfold X_TH_text X_TH_text_54 X_TH_text_77 X_TH_text_78
  rw [b8, c504]
  refine br2 (fun q => tx_c ?_) (fun q => ?_)
  · refine mx_text b4.2.1 hb4.1 (fun _ => ?_) (fun g => absurd g q)
    exact k0 _ _ _ (xh_i (by decide) (xh_r x)) (mf_w (mfT m) (by decide) (by decide) (by decide)) (lL_f (mfT m) (by decide) (lz_f (mfT m) (by decide))) h212 rfl rfl
  · have h504 : xi x 504 = 0 := by rw [b8, q]; rfl
    /- the reference begins -/
    have beg : ∀ (t : TK) (K' : Int32 → th_St → Prop), kA t → kb t = b → kL t = L → (∀ u0 u, mf [0, 2, 3, 4, 21, 23, 28] [6, 7, 11, 12, 13, 14, 15] [] m u0 → lL m u0 → u0.1 2 = 0 → u0.1 28 = 0 → stM t u0 u → M_read u (KT K')) → M_text m K' := by
      intro t K' hA hkb hkL h
      refine mx_text b4.2.1 hb4.1 (fun g => absurd q g) (fun _ u8 f8 l8 e2 e3 e4 e21 e23 e28 e11 e12 e13 e14 e15 e67 => ?_)
      have bm : bM u8 (kL t) (kb t) := by
        rw [hkL, hkb]
        refine ⟨hbx.1, e3.trans h2, fun i hi => ?_⟩
        rw [f8.2.1 1 (by decide)]; exact hbm i hi
      have h4 : u8.1 4 = nI (kQ t 0) := by rw [e4, hA.2.1.1]
      refine mx_next bm hA (Nat.zero_le _) h4 (fun y yf y25 y4 ytk => ?_)
      have n8 : ∀ j, y.2.2.1 j = u8.2.2.1 j := fun j => yf.2.1 j (by simp)
      refine h u8 y f8 l8 e2 e28 ⟨⟨mf_w yf (by decide) (by decide) (by decide), lL_f yf (by decide) (lz_f yf (by decide))⟩, ⟨bM_f bm yf (by decide) (by decide), y25, y4, ytk⟩, (yf.1 23 (by decide)).trans e23, (yf.1 21 (by decide)).trans e21, by rw [n8]; exact e11, by rw [n8]; exact e15, fun i hi => by rw [n8, n8]; exact e67 i hi, by rw [n8]; exact e12, by rw [n8]; exact e13, by rw [n8]; exact e14⟩
    refine rd_reads hbx (fun t y k' o' S' n A li hA hkb hkL yg yT y404 y212 hli hs => ⟨fun g => absurd g (by decide), fun _ u4 e4 => ⟨fun g => absurd g (by decide), fun _ => tx_c ?_⟩⟩) (fun t y kd pl hA hkb hkL yT hkd y212 y213 hs => ⟨fun _ => ⟨fun _ => tx_c ?_, fun g => absurd rfl g⟩, fun g => absurd rfl g⟩)
    · have wI_ : ∀ k, xi u4 k = xi y (xs_tx k) := fun k => by rw [e4]; rfl
      have wA_ : ∀ k, xa u4 k = xa y (xs_tx k) := fun k => by rw [e4]; rfl
      have wO_ : ∀ k, xo u4 k = xo y (xs_tx k) := fun k => by rw [e4]; rfl
      have wL_ : ∀ k, xl u4 k = xl y k := fun k => by rw [e4]; rfl
      have wR_ : ∀ k, xr u4 k = xr y k := fun k => by rw [e4]; rfl
      have wD_ : u4.2.2.2 = y.2.2.2 := by rw [e4]; rfl
      have out : ∀ k, (k < 300 ∨ 500 ≤ k) → xs_tx k = k := fun k hk => by
        unfold xs_tx
        rw [if_neg (by omega), if_neg (by omega)]
      clear e4
      have w304 : xi u4 304 = nI li := by rw [wI_]; exact y404
      rw [w304]
      refine beg t _ hA hkb hkL (fun u0 u f0 l0 z2 z28 hst => hs _ u0 u hst (fun u' B' => ?_))
      obtain ⟨c1, c2, c3, c4, c5, c6, c7, c8, c9, c10, c11⟩ := B'
      obtain ⟨gx, gal, gen, gv1, v0, gv2, gv3⟩ := yg
      obtain ⟨gx1, gx2, gx3, gx4, gx5, gx6, gx7, gx8⟩ := gx
      refine KT_1 (by rw [show (0 : Int32) = nI 0 from rfl, ni_le (by omega) (by omega)]; omega) (fun i hi => by rw [(c8 i hi).1]; exact (gv1 i hi).1) (fun m' fm cp => ?_)
      obtain ⟨p1, p2, ⟨p11, p12, p13, p14, p15⟩, p3⟩ := cp
      have Fm : mf SI LA [] m m' := mf_t (mf_w f0 (by decide) (by decide) (by decide)) (mf_t (mf_w c1.1 (by decide) (by decide) (by decide)) (mf_w fm (by decide) (by decide) (by decide)))
      have n1 : ∀ k, k ≠ 101 → xi (xs_si u4 101 0) k = xi y (xs_tx k) := fun k hk => (xsi_n hk).trans (wI_ k)
      have i300 : xi (xs_si u4 101 0) 300 = nI n := (n1 300 (by decide)).trans gx6
      have m11 : m'.2.2.1 11 0 = nI n := p11.trans c5
      have m28 : m'.1 28 = 0 := by
        rw [fm.1 28 (by decide), c1.1.1 28 (by decide)]; exact z28
      have w212 : xi (xs_si u4 101 0) 212 = 0 := (n1 212 (by decide)).trans y212
      have a307 : ∀ i, xa (xs_si u4 101 0) 307 i = xa y 407 i := fun i => by show xa u4 307 i = _; rw [wA_]; rfl
      have a308 : ∀ i, xa (xs_si u4 101 0) 308 i = xa y 408 i := fun i => by show xa u4 308 i = _; rw [wA_]; rfl
      have hq : xq x (xs_si u4 101 0) := by
        refine ⟨fun k hk hk2 => ?_, fun k hk hk2 => ?_, fun k => ?_, fun k hk => ?_, fun k hk hk2 => ?_, ?_⟩
        · rw [n1 k (fun e => hk (by rw [e]; decide)), out k hk2]
          refine yT.1 k (fun g => ?_)
          simp only [TI, List.mem_cons, List.not_mem_nil, or_false] at g hk
          omega
        · show xa u4 k = _
          rw [wA_ k, out k hk2]
          refine yT.2.1 k (fun g => ?_)
          simp only [TA, List.mem_cons, List.not_mem_nil, or_false] at g hk
          omega
        · show xl u4 k = _
          rw [wL_ k]; exact yT.2.2.1 k
        · show xr u4 k = _
          rw [wR_ k]; exact yT.2.2.2.1 k hk
        · show xo u4 k = _
          rw [wO_ k, out k hk2]
          refine yT.2.2.2.2.1 k (fun g => ?_)
          simp only [TO, List.mem_cons, List.not_mem_nil, or_false] at g
          omega
        · show u4.2.2.2 = _
          rw [wD_]; exact yT.2.2.2.2.2
      refine k1 _ _ _ hq Fm ⟨n, gx7.1, gx7.2, i300, m11⟩ (fun i hi => ?_) ⟨?_, ?_⟩ ⟨v0, gv2, (n1 303 (by decide)).trans gv3, ?_⟩ ?_ ?_ (w212.trans m28.symm) (xsi_s _ _ _) ?_
      · rw [a307, a308, (p1 i hi).1, (p1 i hi).2, (c8 i hi).1, (c8 i hi).2]
        exact ⟨rfl, (gv1 i hi).1, rfl, (gv1 i hi).2⟩
      · rw [n1 301 (by decide), p12, c9]; rfl
      · rw [n1 302 (by decide), p13, c10]; rfl
      · rw [p14, c11]; exact gv3
      · refine ⟨n, A, S', pgF y, sgF y, nbF y, ftF y, alF y, enF y, i300, gx7.2, ⟨gx8.1, fun s hs => ?_⟩, ⟨gx8.1, fun s hs => ?_⟩, ?_, ⟨p15.trans c7.1, fun k hk => ?_⟩⟩
        · have h := gx8.2 s hs
          show _ ∧ xo u4 311 s = _ ∧ (_ → xo u4 312 s = _ ∧ _ ∧ _ ∧ xa u4 314 s = _ ∧ _ ∧ (_ → xa u4 313 s = _ ∧ _))
          rw [wO_, wO_, wA_, wA_]
          exact h
        · have h := c6 s hs
          have hv := gx8.2 s hs
          have h80 := gx8.1
          obtain ⟨q1, q2, q3, q4⟩ := p3 s (by omega)
          rw [Nat.zero_add, q1, q2, q3, q4]
          exact ⟨h.1, fun g => ⟨(h.2 g).1, (h.2 g).2.1, fun g4 => ⟨(h.2 g).2.2 g4, ((hv.2.2 g).2.2.2.2.2 g4).2⟩⟩⟩
        · obtain ⟨l1, l2, l3, l4⟩ := gal
          refine ⟨l1, (n1 305 (by decide)).trans l2, l3, fun k hk => ?_⟩
          show xa u4 309 k = _ ∧ _ ∧ xa u4 310 k = _ ∧ _
          rw [wA_, wA_]
          exact l4 k hk
        · have h := c7.2 k hk
          have hA6 := gal.1
          obtain ⟨q1, q2, q3⟩ := p2 k (by omega)
          rw [Nat.zero_add, q1, q2, q3]
          exact h
      · refine sBody_new hB0 h504 gx7 i300 (fun i hi => by rw [a307, a308]; exact gv1 i hi) hq.2.2.2.2.2 (hq.2.2.2.1 502 (by decide)) (hq.1 503 (by decide) (by omega)) (hq.1 504 (by decide) (by omega)) (hq.1 505 (by decide) (by omega)) (hq.2.2.2.2.1 500 (by decide) (by omega)) m11 (fun i hi => by rw [a307, a308, (p1 i hi).1, (p1 i hi).2]; exact c8 i hi) (fun k hk => Fm.1 k ?_) (fun k hk => Fm.2.1 k ?_)
        · simp only [SI, List.mem_cons, List.not_mem_nil, or_false]; omega
        · simp only [LA, List.mem_cons, List.not_mem_nil, or_false]; omega
      · rw [fm.1 2 (by decide), c1.1.1 2 (by decide)]; exact z2
    · rw [y213]
      refine beg t _ hA hkb hkL (fun u0 u f0 l0 z2 z28 hst => hs _ u0 u hst (fun z hz => ?_))
      obtain ⟨⟨g1, g2⟩, g28, g29⟩ := hz
      refine KT_0 (by decide) ?_
      rw [g29]
      refine k0 _ _ _ (xh_i (by decide) (xh_w yT (by decide) (by decide) (by decide))) (mf_t (mf_w f0 (by decide) (by decide) (by decide)) (mf_w g1 (by decide) (by decide) (by decide))) (lL_t l0 g2) ?_ (xsi_s _ _ _) ?_
      · rw [xsi_n (by decide), y212, g28]
      · rw [g1.1 2 (by decide)]; exact z2

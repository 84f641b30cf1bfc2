/-! the law's loop -/
section
variable {p : Program} {l : Launch} {e : Env} {R : Room} {s : State} {m : MethodId} {below : List Frame} {meth : Method} {c : Code} {Q : State → Prop} {dC : Nat → ClassId} {dI : Nat → Nat → Nat} {cs : Nat → ClassId} {ad ak q q2 : Nat → Nat} {oa : Nat} {A : Nat → Prop} {b L : Nat} {xs : Nat → Int32} {args : Array Value}
theorem ll_gt {i L : Nat} (hL : L ≤ 3072) (hi : i ≤ 512) : Int32.ofNat L - nI 6 < nI (6 * i) ↔ L < 6 * i + 6 := by
  have h1 : (nI L).toInt = L := nI_toInt (by omega)
  have h6 : (nI 6).toInt = 6 := by decide
  have h2 : (nI (6 * i)).toInt = ((6 * i : Nat) : Int) := nI_toInt (by omega)
  rw [Int32.lt_iff_toInt_lt, show Int32.ofNat L = nI L from rfl, ti_sub (by rw [h1, h6]; omega) (by rw [h1, h6]; omega), h1, h6, h2]
  omega
set_option maxRecDepth 100000 in
set_option maxHeartbeats 4000000 in
theorem lw_loop (hlt : l.stackTraces = false) (G : lw_G p s m args meth c dC dI cs ad ak A b L xs R)
    (hend : ∀ (H : Heap) (locs : List Loc) (ls : Array Slot) (c1 s1 : Nat), c1 ≤ R.cells → s1 ≤ R.slots → va_S A s.heap H locs → W p l e R s m args below meth c H locs c1 s1 Q (F0 m 1132 ls [])) (n : Nat) : ∀ (i : Nat) (z : lSt) (H : Heap) (locs : List Loc) (ls : Array Slot) (cells slots : Nat), L < 6 * (i + n) + 6 → i ≤ 512 → cells + 83 * n ≤ R.cells → slots + 2302 * n ≤ R.slots → Sim z.1.2 z.2.1 → th_wI (dC, dI) (wL cs ad q q2 oa) A s.heap z H locs → lv_has ls 8 [(0, .ref b), (1, .ref (q 99)), (2, .ref (q2 0)), (3, .ref oa), (4, .int (nI (6 * i)))] → W p l e R s m args below meth c H locs cells slots Q (F0 m 23 ls []) := by
  obtain ⟨C, hX, hbl, hbA, hL, hRf, hRl⟩ := id G
  have hx := C.1
  have hb := C.2.1
  induction n with
  | zero =>
    intro i z H locs ls cells slots hn hi hc hs hS hw hl
    refine lv_iload hx hb dL_law_23 (lv_at hl 4 rfl) ?_
    refine lv_aload_n hx hb dL_law_25 rfl (lv_at hl 0 rfl) ?_
    refine va_slen hx hb hX hbl hbA hw.2.2 dL_law_26 ?_
    refine lv_bipush (v := nI 6) hx hb dL_law_27 (by decide) ?_
    refine lv_isub hx hb dL_law_29 ?_
    refine lv_icmp_gt (tgt := 1132) hx hb dL_law_30 (by decide) (fun hc9 => hend H locs ls cells slots (by omega) (by omega) hw.2.2) (fun hc9 => absurd ((ll_gt hL hi).mpr (by omega)) hc9)
  | succ n ih =>
    intro i z H locs ls cells slots hn hi hc hs hS hw hl
    refine lv_iload hx hb dL_law_23 (lv_at hl 4 rfl) ?_
    refine lv_aload_n hx hb dL_law_25 rfl (lv_at hl 0 rfl) ?_
    refine va_slen hx hb hX hbl hbA hw.2.2 dL_law_26 ?_
    refine lv_bipush (v := nI 6) hx hb dL_law_27 (by decide) ?_
    refine lv_isub hx hb dL_law_29 ?_
    refine lv_icmp_gt (tgt := 1132) hx hb dL_law_30 (by decide) (fun hc9 => hend H locs ls cells slots (by omega) (by omega) hw.2.2) (fun hc9 => ?_)
    have hc83 : cells + 83 ≤ R.cells := Nat.le_trans (Nat.add_le_add_left (Nat.le_mul_of_pos_right 83 (Nat.succ_pos n)) cells) hc
    have hs23 : slots + 2302 ≤ R.slots := Nat.le_trans (Nat.add_le_add_left (Nat.le_mul_of_pos_right 2302 (Nat.succ_pos n)) slots) hs
    have hiL : 6 * i + 6 ≤ L := Nat.not_lt.mp (fun q9 => hc9 ((ll_gt hL hi).mpr q9))
    refine lv_aload_n hx hb dL_law_33 rfl (lv_at hl 0 rfl) ?_
    refine lv_iload hx hb dL_law_34 (lv_at hl 4 rfl) ?_
    refine va_sld hx hb hX hbl hbA hw.2.2 (vp_in_nI (show 6 * i < L by omega) (by omega)) dL_law_36 ?_
    refine lv_bipush (v := (31 : Int32)) hx hb dL_law_37 (by decide) ?_
    refine lv_iand hx hb dL_law_39 ?_
    generalize (xs (nI (6 * i)).toNatClampNeg &&& (31 : Int32)) = v
    have hgo : ∀ (z1 : lSt) (H : Heap) (locs : List Loc) (ls : Array Slot) (c1 s1 : Nat), c1 ≤ cells + 83 → s1 ≤ slots + 2302 → Sim z1.1.2 z1.2.1 → th_wI (dC, dI) (wL cs ad q q2 oa) A s.heap z1 H locs → lv_has ls 8 [(0, .ref b), (1, .ref (q 99)), (2, .ref (q2 0)), (3, .ref oa), (4, .int (nI (6 * i)))] → W p l e R s m args below meth c H locs c1 s1 Q (F0 m 1126 ls []) := by
      intro z1 H locs ls c1 s1 h1 h2 hS hw hl
      refine lv_iinc (v := nI (6 * (i + 1))) (lv' := [(4, .int (nI (6 * (i + 1)))), (0, .ref b), (1, .ref (q 99)), (2, .ref (q2 0)), (3, .ref oa)]) hx hb dL_law_1126 hl (k := 4) rfl (show nI (6 * i) + nI 6 = nI (6 * i + 6) from nI_add _ _) (by decide) rfl (fun ls hl => ?_)
      refine lv_goto (tgt := 23) hx hb dL_law_1129 (by decide) ?_
      exact ih (i + 1) z1 H locs ls c1 s1 (by omega) (by omega) (by omega) (by omega) hS hw (lv_sub hl [1, 2, 3, 4, 0] rfl)
    by_cases h : v.toInt < 0 ∨ 25 < v.toInt
    · refine lv_tableOut (tgt := 1126) hx hb dL_law_40 h (by decide) ?_
      exact hgo z H locs ls cells slots (by omega) (by omega) hS hw hl
    · have h1 : ¬ v.toInt < 0 := fun q9 => h (Or.inl q9)
      have h2 : ¬ 25 < v.toInt := fun q9 => h (Or.inr q9)
      obtain ⟨j, hj⟩ := Int.eq_ofNat_of_zero_le (show 0 ≤ v.toInt by omega)
      have hj26 : j = 0 ∨ j = 1 ∨ j = 2 ∨ j = 3 ∨ j = 4 ∨ j = 5 ∨ j = 6 ∨ j = 7 ∨ j = 8 ∨ j = 9 ∨ j = 10 ∨ j = 11 ∨ j = 12 ∨ j = 13 ∨ j = 14 ∨ j = 15 ∨ j = 16 ∨ j = 17 ∨ j = 18 ∨ j = 19 ∨ j = 20 ∨ j = 21 ∨ j = 22 ∨ j = 23 ∨ j = 24 ∨ j = 25 := by omega
      rcases hj26 with rfl | rfl | rfl | rfl | rfl | rfl | rfl | rfl | rfl | rfl | rfl | rfl | rfl | rfl | rfl | rfl | rfl | rfl | rfl | rfl | rfl | rfl | rfl | rfl | rfl | rfl
      · exact lv_tableIn (off := 120) (tgt := 160) hx hb dL_law_40 h1 h2 (by rw [hj]; rfl) (by decide) (lc_0 hlt G hiL hc83 hs23 hS hw hl hgo)
      · exact lv_tableIn (off := 193) (tgt := 233) hx hb dL_law_40 h1 h2 (by rw [hj]; rfl) (by decide) (lc_1 hlt G hiL hc83 hs23 hS hw hl hgo)
      · exact lv_tableIn (off := 218) (tgt := 258) hx hb dL_law_40 h1 h2 (by rw [hj]; rfl) (by decide) (lc_2 hlt G hiL hc83 hs23 hS hw hl hgo)
      · exact lv_tableIn (off := 243) (tgt := 283) hx hb dL_law_40 h1 h2 (by rw [hj]; rfl) (by decide) (lc_3 hlt G hiL hc83 hs23 hS hw hl hgo)
      · exact lv_tableIn (off := 256) (tgt := 296) hx hb dL_law_40 h1 h2 (by rw [hj]; rfl) (by decide) (lc_4 hlt G hiL hc83 hs23 hS hw hl hgo)
      · exact lv_tableIn (off := 269) (tgt := 309) hx hb dL_law_40 h1 h2 (by rw [hj]; rfl) (by decide) (lc_5 hlt G hiL hc83 hs23 hS hw hl hgo)
      · exact lv_tableIn (off := 306) (tgt := 346) hx hb dL_law_40 h1 h2 (by rw [hj]; rfl) (by decide) (lc_6 hlt G hiL hc83 hs23 hS hw hl hgo)
      · exact lv_tableIn (off := 319) (tgt := 359) hx hb dL_law_40 h1 h2 (by rw [hj]; rfl) (by decide) (lc_7 hlt G hiL hc83 hs23 hS hw hl hgo)
      · exact lv_tableIn (off := 344) (tgt := 384) hx hb dL_law_40 h1 h2 (by rw [hj]; rfl) (by decide) (lc_8 hlt G hiL hc83 hs23 hS hw hl hgo)
      · exact lv_tableIn (off := 424) (tgt := 464) hx hb dL_law_40 h1 h2 (by rw [hj]; rfl) (by decide) (lc_9 hlt G hiL hc83 hs23 hS hw hl hgo)
      · exact lv_tableIn (off := 461) (tgt := 501) hx hb dL_law_40 h1 h2 (by rw [hj]; rfl) (by decide) (lc_10 hlt G hiL hc83 hs23 hS hw hl hgo)
      · exact lv_tableIn (off := 553) (tgt := 593) hx hb dL_law_40 h1 h2 (by rw [hj]; rfl) (by decide) (lc_11 hlt G hiL hc83 hs23 hS hw hl hgo)
      · exact lv_tableIn (off := 602) (tgt := 642) hx hb dL_law_40 h1 h2 (by rw [hj]; rfl) (by decide) (lc_12 hlt G hiL hc83 hs23 hS hw hl hgo)
      · exact lv_tableIn (off := 639) (tgt := 679) hx hb dL_law_40 h1 h2 (by rw [hj]; rfl) (by decide) (lc_13 hlt G hiL hc83 hs23 hS hw hl hgo)
      · exact lv_tableIn (off := 653) (tgt := 693) hx hb dL_law_40 h1 h2 (by rw [hj]; rfl) (by decide) (lc_14 hlt G hiL hc83 hs23 hS hw hl hgo)
      · exact lv_tableIn (off := 721) (tgt := 761) hx hb dL_law_40 h1 h2 (by rw [hj]; rfl) (by decide) (lc_15 hlt G hiL hc83 hs23 hS hw hl hgo)
      · exact lv_tableIn (off := 746) (tgt := 786) hx hb dL_law_40 h1 h2 (by rw [hj]; rfl) (by decide) (lc_16 hlt G hiL hc83 hs23 hS hw hl hgo)
      · exact lv_tableIn (off := 759) (tgt := 799) hx hb dL_law_40 h1 h2 (by rw [hj]; rfl) (by decide) (lc_17 hlt G hiL hc83 hs23 hS hw hl hgo)
      · exact lv_tableIn (off := 796) (tgt := 836) hx hb dL_law_40 h1 h2 (by rw [hj]; rfl) (by decide) (lc_18 hlt G hiL hc83 hs23 hS hw hl hgo)
      · exact lv_tableIn (off := 857) (tgt := 897) hx hb dL_law_40 h1 h2 (by rw [hj]; rfl) (by decide) (lc_19 hlt G hiL hc83 hs23 hS hw hl hgo)
      · exact lv_tableIn (off := 882) (tgt := 922) hx hb dL_law_40 h1 h2 (by rw [hj]; rfl) (by decide) (lc_20 hlt G hiL hc83 hs23 hS hw hl hgo)
      · exact lv_tableIn (off := 919) (tgt := 959) hx hb dL_law_40 h1 h2 (by rw [hj]; rfl) (by decide) (lc_21 hlt G hiL hc83 hs23 hS hw hl hgo)
      · exact lv_tableIn (off := 944) (tgt := 984) hx hb dL_law_40 h1 h2 (by rw [hj]; rfl) (by decide) (lc_22 hlt G hiL hc83 hs23 hS hw hl hgo)
      · exact lv_tableIn (off := 1023) (tgt := 1063) hx hb dL_law_40 h1 h2 (by rw [hj]; rfl) (by decide) (lc_23 hlt G hiL hc83 hs23 hS hw hl hgo)
      · exact lv_tableIn (off := 1036) (tgt := 1076) hx hb dL_law_40 h1 h2 (by rw [hj]; rfl) (by decide) (lc_24 hlt G hiL hc83 hs23 hS hw hl hgo)
      · exact lv_tableIn (off := 1061) (tgt := 1101) hx hb dL_law_40 h1 h2 (by rw [hj]; rfl) (by decide) (lc_25 hlt G hiL hc83 hs23 hS hw hl hgo)
end

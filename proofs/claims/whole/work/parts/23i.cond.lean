/-! text: readCond -/
def preL (i : Nat) : List Nat := if i = 0 then [] else [12]
def andL (j : Nat) : List Nat := if j = 0 then [] else [11]
theorem preL_c (i : Nat) : preL i = [] ∨ preL i = [12] := by
  unfold preL
  by_cases e : i = 0
  · rw [if_pos e]; exact Or.inl rfl
  · rw [if_neg e]; exact Or.inr rfl
theorem andL_c (j : Nat) : andL j = [] ∨ andL j = [11] := by
  unfold andL
  by_cases e : j = 0
  · rw [if_pos e]; exact Or.inl rfl
  · rw [if_neg e]; exact Or.inr rfl
theorem pD_p {w i : Nat} {l : List Nat} (h : pD w l) : pC w (preL i ++ l) ∧ pC w (11 :: (preL i ++ l)) ∧ (nts (preL i ++ l) = 0 ∧ dpN (preL i ++ l) = preL i ++ l) ∧ (preL i ++ l = [] ∨ ∃ v l', preL i ++ l = v :: l' ∧ (v = 13 ∨ v = 12)) := by
  obtain ⟨h1, h2, h3, h4⟩ := h
  have e0 : opn [] = 0 := rfl
  rcases preL_c i with e | e
  · rw [e, List.nil_append]
    refine ⟨⟨h1, h2, by omega⟩, ⟨fun v hv => ?_, ?_, by rw [List.length_cons]; omega⟩, nts_t ?_, ?_⟩
    · rcases List.mem_cons.mp hv with e | e
      · omega
      · exact h1 v e
    · rw [opn, if_neg (by decide)]; omega
    · rcases h4 with e | ⟨l', e⟩
      · exact Or.inl e
      · exact Or.inr ⟨13, l', e, by decide⟩
    · rcases h4 with e | ⟨l', e⟩
      · exact Or.inl e
      · exact Or.inr ⟨13, l', e, Or.inl rfl⟩
  · rw [e]
    show pC w (12 :: l) ∧ pC w (11 :: 12 :: l) ∧ (nts (12 :: l) = 0 ∧ dpN (12 :: l) = 12 :: l) ∧ (12 :: l = [] ∨ ∃ v l', 12 :: l = v :: l' ∧ (v = 13 ∨ v = 12))
    refine ⟨⟨fun v hv => ?_, ?_, by rw [List.length_cons]; omega⟩, ⟨fun v hv => ?_, ?_, by rw [List.length_cons, List.length_cons]; omega⟩, nts_t (Or.inr ⟨12, l, rfl, by decide⟩), Or.inr ⟨12, l, rfl, Or.inr rfl⟩⟩
    · rcases List.mem_cons.mp hv with e | e
      · omega
      · exact h1 v e
    · rw [opn, if_neg (by decide)]; omega
    · rcases List.mem_cons.mp hv with e | e
      · omega
      · rcases List.mem_cons.mp e with e | e
        · omega
        · exact h1 v e
    · rw [opn, if_neg (by decide), opn, if_neg (by decide)]; omega
theorem rd_cond {t : TK} {RO RC : Int32 → xs_St → (Int32 → xs_St → Prop) → Prop} {w : Nat} (hA : kA t) (hw : 1 ≤ w ∧ w ≤ 11) (hRO : tOne t RO w) : tCond t (X_RD_readCond_B RO RC) w := by
  intro x k o S n KX hg kok kbad
  have gS := hg.2.2.2.2.1
  have g7 := hg.2.2.2.2.2.2.1
  unfold X_RD_readCond_B
  refine lqe3 (F := X_RD_readCond_B_2_lp RO RC KX) (G := X_RD_readCond_B_2 RO RC KX) (fun _ _ _ _ => rfl) (fun d a1 a2 y => a1 = nI w ∧ ∃ i k1 o1 S1, a2 = nI i ∧ d = kT t - k1 ∧ gX t y k1 o1 S1 n ∧ xF x y ∧ xi y 212 = xi x 212 ∧ exX x y S ∧ S ≤ S1 ∧ k ≤ k1 ∧ o + i ≤ o1 ∧ ((i = 0 ∧ S1 = S ∧ o1 = o ∧ k1 = k) ∨ (1 ≤ i ∧ S1 + 1 ≤ S + 2 * (o1 - o) ∧ SG (pgF y) S S1 (o1 - o))) ∧ (∀ K u0 l u, rB t x u0 u l k o S n → pD w l → (∀ u', rB t y u0 u' (preL i ++ l) k1 o1 S1 n → BO t K u' k1) → BO t K u k)) ?_ (kT t - k) _ _ _ ⟨rfl, 0, k, o, S, rfl, rfl, hg, xh_r x, rfl, exX_r x S, Nat.le_refl _, Nat.le_refl _, by omega, Or.inl ⟨rfl, rfl, rfl, rfl⟩, fun K u0 l u hB hD h => h u hB⟩
  rintro kk d a1 a2 y ⟨rfl, i, k1, o1, S1, rfl, hd, yg, yF, y212, yE, hS1, hk1, ho1, hcase, hHB⟩ ih
  have yo := yg.2.2.1
  have ySo := yg.2.2.2.2.1
  have ykT := yg.1.2.2.2
  have fin80 : ∀ (z' : xs_St) (k3 o3 S' : Nat), gX t z' k3 o3 S' n → xF x z' → xi z' 212 = xi x 212 → exX x z' S → k1 < k3 → o1 + 1 ≤ o3 → S ≤ S' → S' + 1 ≤ S + 2 * (o3 - o) → SG (pgF z') S S' (o3 - o) → kK t k3 ≠ 20 → (∀ K u0 l u, rB t x u0 u l k o S n → pD w l → (∀ u' r, opT r → rC_ t z' u0 u' r l k3 o3 S' n → AO t K u' k3) → BO t K u k) → X_RD_readCond_B_80 RO RC KX kk (nI w) (nI i) z' := by
    intro z' k3 o3 S' zg zF z212 zE hk3 ho3 hS' hS2 hSG h20 hHC
    have zo := zg.2.2.1
    have zS := zg.2.2.2.2.1
    unfold X_RD_readCond_B_80
    rw [zg.1.2.2.1]
    have es : ∀ v : Nat, (some (kK t k3) = some v) = (kK t k3 = v) := fun v => by simp
    rw [es]
    refine br1 (fun q19 => ?_) (fun q19 => ⟨n011, kok z' k3 o3 S' ⟨zg, zF, zE, by omega, hS', hS2, hSG, by omega, z212⟩ q19 h20 hHC⟩)
    have hlt := kA_l hA zg.1.2.2.2 (by omega)
    refine sx_adv hA zg.1 hlt (fun z1 f1 c1 => ?_)
    intro x2 e2
    subst e2
    have E1 : exX z' z1 S' := exX_h f1 (by decide) (by decide)
    refine ih (kT t - (k3 + 1)) _ _ _ (by omega) ⟨rfl, i + 1, k3 + 1, o3, S', nI_1 i, rfl, ⟨c1, by rw [f1.1 208 (by decide)]; exact zg.2.1, zo, by rw [f1.1 406 (by decide)]; exact zg.2.2.2.1, zS, by rw [f1.1 400 (by decide)]; exact zg.2.2.2.2.2.1, g7, vX_e zg.2.2.2.2.2.2.2 E1⟩, xh_t zF (xh_w f1 (by decide) (by decide) (by decide)), (f1.1 212 (by decide)).trans z212, exX_t zE E1 hS', hS', by omega, by omega, Or.inr ⟨by omega, hS2, SG_k hSG (fun s _ h2 => (exX_p E1 h2).1)⟩, fun K u0 l u hB hD h => ?_⟩
    refine hHC K u0 l u hB hD (fun u' r hr hC => ?_)
    obtain ⟨b0, b1, b2, b3⟩ := hC
    have hrb := opT_b hr
    obtain ⟨p1, p2, p3, p4⟩ := hD
    refine AO_o hA b1 zg.1.2.2.2 q19 hr p4 p1 (by omega) (by omega) (fun u2 m2 lo2 hi2 => h u2 ⟨?_, ?_⟩)
    · rw [show S' - r.length + r.length = S' by omega] at m2
      show mS t u0 u2 (k3 + 1) o3 S' n ((if i + 1 = 0 then [] else [12]) ++ l)
      rw [if_neg (by omega)]
      exact m2
    · have := prM_r b2 lo2 hi2 b3 (fun v hv => (hrb.2 v hv).1)
      rw [show S' - r.length + r.length = S' by omega] at this
      exact prM_x this E1
  unfold X_RD_readCond_B_2
  have c40 : ((40 : Int32) < nI i) = (40 < i) := ni_lt (a := 40) (by omega) (by omega)
  rw [c40]
  refine ⟨fun g => by omega, fun _ => ?_⟩
  refine hRO y k1 o1 S1 n _ yg (fun y2 k2 o2 S2 hok hsim => ⟨fun _ => ?_, fun g => absurd g (by decide)⟩) (fun y2 kd pl y2F hkd y212' y213 hsim => ⟨fun g => absurd rfl g, fun _ => ⟨n010, ?_⟩⟩)
  · obtain ⟨a1, a2, a3, a4, a5, a6, a7, a8, a9⟩ := id hok
    refine lqe4 (F := X_RD_readCond_B_20_lp RO RC KX kk) (G := X_RD_readCond_B_20 RO RC KX kk) (fun _ _ _ _ _ => rfl) (fun d a1 a2 a3 z => a1 = nI w ∧ a2 = nI i ∧ ∃ j k3 o3 S3, a3 = nI j ∧ d = kT t - k3 ∧ gX t z k3 o3 S3 n ∧ xF x z ∧ xi z 212 = xi x 212 ∧ exX x z S ∧ exX y z S1 ∧ S1 ≤ S3 ∧ k1 < k3 ∧ o1 + 1 + j ≤ o3 ∧ S3 + 1 ≤ S1 + 2 * (o3 - o1) ∧ SG (pgF z) S1 S3 (o3 - o1) ∧ (∀ K u0 l u, rB t x u0 u l k o S n → pD w l → (∀ u', rC_ t z u0 u' (andL j) (preL i ++ l) k3 o3 S3 n → AO t K u' k3) → BO t K u k)) ?_ (kT t - k2) _ _ _ _ ⟨rfl, rfl, 0, k2, o2, S2, rfl, rfl, a1, xh_t yF a2, a9.trans y212, exX_t yE a3 hS1, a3, a5, a8, by omega, a6, a7, fun K u0 l u hB hD h => ?_⟩
    · rintro kk2 d2 b1 b2 b3 z ⟨rfl, rfl, j, k3, o3, S3, rfl, hd2, zg, zF, z212, zE, zE1, hS3, hk3, ho3, hS3b, hSG, hHI⟩ ih2
      have zo := zg.2.2.1
      have zS := zg.2.2.2.2.1
      have exit : kK t k3 ≠ 20 → X_RD_readCond_B_66 RO RC KX kk (nI w) (nI i) z := by
        intro h20
        unfold X_RD_readCond_B_66
        have c0 : (nI i ≤ (0 : Int32)) = (i ≤ 0) := ni_le (b := 0) (by omega) (by omega)
        rw [c0]
        refine br1 (fun q => ?_) (fun q => ?_)
        · rcases hcase with ⟨e0, e1, e2, e3⟩ | ⟨e0, -⟩
          · subst e0; subst e1; subst e2
            refine fin80 z k3 o3 S3 zg zF z212 zE hk3 (by omega) hS3 hS3b hSG h20 (fun K u0 l u hB hD h => hHI K u0 l u hB hD (fun u' hC => h u' (andL j) ?_ hC))
            rcases andL_c j with e | e
            · rw [e]; exact Or.inl rfl
            · rw [e]; exact Or.inr (Or.inl rfl)
          · omega
        · rcases hcase with ⟨e0, -⟩ | ⟨e0, e1, e2⟩
          · omega
          · refine sx_addJ (w := 19) zg (by omega) (by omega) (fun z' zg' zF' zE' zp' z212' => ?_)
            have zp' : pgF z' S3 = 12 := zp'
            have SG1 : SG (pgF z') S S1 (o1 - o) := SG_k (SG_k e2 (fun s _ h2 => (exX_p zE1 h2).1)) (fun s _ h2 => (exX_p zE' (by omega)).1)
            have SG2 : SG (pgF z') S1 S3 (o3 - o1) := SG_k hSG (fun s _ h2 => (exX_p zE' h2).1)
            refine fin80 z' k3 o3 (S3 + 1) zg' (xh_t zF zF') (z212'.trans z212) (exX_t zE zE' (by omega)) hk3 (by omega) (by omega) (by omega) (SG_w (SG_j SG1 SG2 hS1 hS3 (by omega) (Or.inr zp')) (by omega)) h20 (fun K u0 l u hB hD h => hHI K u0 l u hB hD (fun u' hC => h u' (andL j ++ [12]) ?_ ?_))
            · rcases andL_c j with e | e
              · rw [e]; exact Or.inr (Or.inr (Or.inl rfl))
              · rw [e]; exact Or.inr (Or.inr (Or.inr rfl))
            · obtain ⟨c0', c1', c2', c3'⟩ := hC
              have epre : preL i = [12] := by unfold preL; rw [if_neg (by omega)]
              have elen : (andL j ++ [12]).length = (andL j).length + 1 := by rw [List.length_append]; rfl
              rw [epre] at c1'
              refine ⟨by rw [elen]; omega, ?_, ?_, fun i' hi' => ?_⟩
              · rw [elen, show S3 + 1 - ((andL j).length + 1) = S3 - (andL j).length by omega, List.append_assoc]
                exact c1'
              · rw [elen, show S3 + 1 - ((andL j).length + 1) = S3 - (andL j).length by omega]
                exact prM_x c2' (fun s hs => zE' s (by omega))
              · rw [elen] at hi' ⊢
                rw [show S3 + 1 - ((andL j).length + 1) + i' = S3 - (andL j).length + i' by omega]
                by_cases ei : i' = (andL j).length
                · rw [ei, show S3 - (andL j).length + (andL j).length = S3 by omega, zp']
                  rcases andL_c j with e | e
                  · rw [e]; rfl
                  · rw [e]; rfl
                · rw [(exX_p zE' (show S3 - (andL j).length + i' < S3 by omega)).1, c3' i' (by omega)]
                  rcases andL_c j with e | e
                  · rw [e] at hi' ei
                    simp only [List.length_nil] at hi' ei
                    omega
                  · rw [e] at hi' ei ⊢
                    simp only [List.length_cons, List.length_nil] at hi' ei
                    have : i' = 0 := by omega
                    subst this; rfl
      unfold X_RD_readCond_B_20
      have c41 : ((40 : Int32) < nI j) = (40 < j) := ni_lt (a := 40) (by omega) (by omega)
      have es : ∀ v : Nat, (some (kK t k3) = some v) = (kK t k3 = v) := fun v => by simp
      rw [c41, zg.1.2.2.1, es]
      refine ⟨fun g => by omega, fun _ => br2 (fun q => exit q) (fun q20 => ?_)⟩
      have hlt := kA_l hA zg.1.2.2.2 (by omega)
      refine sx_adv hA zg.1 hlt (fun z1 f1 c1 => ?_)
      have E1 : exX z z1 S3 := exX_h f1 (by decide) (by decide)
      have F1 : xF z z1 := xh_w f1 (by decide) (by decide) (by decide)
      have G1 : gX t z1 (k3 + 1) o3 S3 n := ⟨c1, by rw [f1.1 208 (by decide)]; exact zg.2.1, zo, by rw [f1.1 406 (by decide)]; exact zg.2.2.2.1, zS, by rw [f1.1 400 (by decide)]; exact zg.2.2.2.2.2.1, g7, vX_e zg.2.2.2.2.2.2.2 E1⟩
      have link : ∀ (K : Int32 → th_St → Prop) u0 l u, rB t x u0 u l k o S n → pD w l → (∀ u', rB t z1 u0 u' (11 :: (preL i ++ l)) (k3 + 1) o3 S3 n → BO t K u' (k3 + 1)) → BO t K u k := by
        intro K u0 l u hB hD h
        refine hHI K u0 l u hB hD (fun u' hC => ?_)
        obtain ⟨b0, b1, b2, b3⟩ := hC
        obtain ⟨q1, q2, q3, q4⟩ := pD_p (i := i) hD
        have hrl : (andL j).length ≤ 1 ∧ ∀ v, v ∈ andL j → 10 ≤ v := by
          rcases andL_c j with e | e
          · rw [e]; exact ⟨by decide, fun v hv => by cases hv⟩
          · rw [e]
            refine ⟨by decide, fun v hv => ?_⟩
            simp only [List.mem_cons, List.not_mem_nil, or_false] at hv
            omega
        refine AO_a hA b1 zg.1.2.2.2 q20 (andL_c j) q4 q1.1 (by have := q1.2.2; omega) (by omega) (fun u2 m2 lo2 hi2 => h u2 ⟨?_, ?_⟩)
        · rw [show S3 - (andL j).length + (andL j).length = S3 by omega] at m2
          exact m2
        · have := prM_r b2 lo2 hi2 b3 hrl.2
          rw [show S3 - (andL j).length + (andL j).length = S3 by omega] at this
          exact prM_x this E1
      refine hRO z1 (k3 + 1) o3 S3 n _ G1 (fun z2 k4 o4 S4 hok2 hsim2 => ⟨fun _ => ?_, fun g => absurd g (by decide)⟩) (fun z2 kd pl z2F hkd z212' z213 hsim2 => ⟨fun g => absurd rfl g, fun _ => ⟨n010, ?_⟩⟩)
      · obtain ⟨e1, e2, e3, e4, e5, e6, e7, e8, e9⟩ := id hok2
        have e1o := e1.2.2.1
        refine sx_addJ (w := 20) e1 (by omega) (by omega) (fun z3 zg3 zF3 zE3 zp3 z312 => ?_)
        have zp3 : pgF z3 S4 = 11 := zp3
        have ez : exX z z3 S3 := exX_t E1 (exX_t e3 zE3 e5) (Nat.le_refl _)
        have SG1 : SG (pgF z3) S1 S3 (o3 - o1) := SG_k hSG (fun s _ h2 => (exX_p ez h2).1)
        have SG2 : SG (pgF z3) S3 S4 (o4 - o3) := SG_k e7 (fun s _ h2 => (exX_p zE3 h2).1)
        intro x3 ex3
        subst ex3
        have k4T := e1.1.2.2.2
        refine ih2 (kT t - k4) _ _ _ _ (by omega) ⟨rfl, rfl, j + 1, k4, o4, S4 + 1, nI_1 j, rfl, zg3, xh_t zF (xh_t F1 (xh_t e2 zF3)), z312.trans (e9.trans ((f1.1 212 (by decide)).trans z212)), exX_t zE ez (by omega), exX_t zE1 ez hS3, by omega, by omega, by omega, by omega, SG_w (SG_j SG1 SG2 hS3 e5 (by omega) (Or.inl zp3)) (by omega), fun K u0 l u hB hD h => ?_⟩
        refine link K u0 l u hB hD (fun u' hB' => ?_)
        obtain ⟨q1, q2, q3, q4⟩ := pD_p (i := i) hD
        refine hsim2 K u0 (11 :: (preL i ++ l)) u' hB' q2 (fun u3 hA3 => h u3 ?_)
        obtain ⟨b1, b2, b3⟩ := hA3
        have hn := nts_t (l := 11 :: (preL i ++ l)) (Or.inr ⟨11, _, rfl, by decide⟩)
        rw [hn.1, hn.2] at b1
        have ea : andL (j + 1) = [11] := by unfold andL; rw [if_neg (by omega)]
        rw [ea]
        refine ⟨by show 1 ≤ S4 + 1; omega, ?_, ?_, fun i' hi' => ?_⟩
        · exact b1
        · exact prM_x b2 zE3
        · have hi' : i' < 1 := hi'
          have : i' = 0 := by omega
          subst this
          show pgF z3 S4 = 11
          exact zp3
      · refine kbad z2 kd pl (xh_t zF (xh_t F1 z2F)) hkd z212' z213 ?_
        intro K u0 l u hB hD hK
        refine link K u0 l u hB hD (fun u' hB' => ?_)
        obtain ⟨q1, q2, q3, q4⟩ := pD_p (i := i) hD
        exact hsim2 K u0 (11 :: (preL i ++ l)) u' hB' q2 hK
    · refine hHB K u0 l u hB hD (fun u' hB' => ?_)
      obtain ⟨q1, q2, q3, q4⟩ := pD_p (i := i) hD
      refine hsim K u0 (preL i ++ l) u' hB' q1 (fun u2 hA2 => h u2 ?_)
      obtain ⟨b1, b2, b3⟩ := hA2
      rw [q3.1, q3.2] at b1
      exact ⟨Nat.zero_le _, b1, b2, fun i' hi' => by cases hi'⟩
  · refine kbad y2 kd pl (xh_t yF y2F) hkd y212' y213 ?_
    intro K u0 l u hB hD hK
    refine hHB K u0 l u hB hD (fun u' hB' => ?_)
    obtain ⟨q1, q2, q3, q4⟩ := pD_p (i := i) hD
    exact hsim K u0 (preL i ++ l) u' hB' q1 hK
theorem rd_all {t : TK} (hA : kA t) : ∀ n w, 1 ≤ w → w ≤ 11 → (27 ≤ n + 2 * w → tOne t (X_RD_rec n).1 w) ∧ (28 ≤ n + 2 * w → tCond t (X_RD_rec n).2 w) := by
  intro n
  induction n with
  | zero => intro w h1 h2; exact ⟨fun g => by omega, fun g => by omega⟩
  | succ n ih =>
    intro w h1 h2
    refine ⟨fun g => ?_, fun g => ?_⟩
    · exact rd_one hA ⟨h1, h2⟩ (fun h => (ih (w + 1) (by omega) (by omega)).1 (by omega)) (fun h => (ih (w + 1) (by omega) (by omega)).2 (by omega))
    · exact rd_cond hA ⟨h1, h2⟩ ((ih w h1 h2).1 (by omega))

variable {gG : Nat → Int32}
/-! how many throws an elbow holds; the days -/
theorem over_d (S : pS) : F12_overOf S = F12_lawSays S 1 24 0 1000 := by
  unfold F12_overOf
  cases F12_lawSays S 1 24 0 1000 <;> rfl
theorem wear_d (S : pS) : F12_wearOf S = F12_lawSays S 1 25 0 1000 := by
  unfold F12_wearOf
  cases F12_lawSays S 1 25 0 1000 <;> rfl
theorem L_as {ns t w : Nat} {T U : pS} {f p a wr th : Int32} (hV : VR ns T U) (hw : w < 3) (hA : AV 63 T f p a wr (U 1 (4 + 7 * t)) th (U 1 (6 + 7 * t) / 100) (U 1 0)) : ∃ (r : Int32) (T' U' : pS), F0_tell T 63 15 (nI w) = some (r, T') ∧ F12_lawSays (af U t f p a wr th) 1 (nI (24 + w)) 0 1000 = some (r, U') ∧ isN r 1001 ∧ fC T T' ∧ fM U U' ∧ T' 64 = T 64 ∧ U' 9 = af U t f p a wr th 9 ∧ U' 0 = U 0 ∧ U' 1 = U 1 := by
  have hU2 : fM U (af U t f p a wr th) := ⟨fun k h0 hk => by rw [af_ne (by unfold scM at hk; omega)], fun j hj => by rw [af_ne (by decide)]⟩
  have hV2 := VR_fr hV (fC_r T) hU2
  obtain ⟨⟨r, T'⟩, ⟨r', U'⟩, k1, k2, k3, k4, k5, k6⟩ := L_arm (w := w) (by decide) hV2.2.2.2.2.1 (hV2.2.1 641 15 0 rfl (by decide)) hw (AF_of hA)
  simp only at k3 k4 k5 k6
  subst k3
  exact ⟨r, T', U', k1, k2, k4, fun k hk => k5 k (by unfold scC at hk; omega), ⟨fun k h0 hk => by rw [k6 k (by unfold scM at hk; omega)]; exact hU2.1 k h0 hk, fun j hj => by rw [k6 0 (by decide)]; exact hU2.2 j hj⟩, k5 64 (by decide), k6 9 (by decide), by rw [k6 0 (by decide), af_ne (by decide)], by rw [k6 1 (by decide), af_ne (by decide)]⟩
theorem L_st {ns t w : Nat} {T U : pS} {f p a x y wr th : Int32} (hV : VR ns T U) (hw : w < 3) (hA : AV 63 T f p a x (U 1 (4 + 7 * t)) y (U 1 (6 + 7 * t) / 100) (U 1 0)) : ∃ (r : Int32) (T' U' : pS), F0_tell (F0_askState T 63 wr th) 63 15 (nI w) = some (r, T') ∧ F12_lawSays (af U t f p a wr th) 1 (nI (24 + w)) 0 1000 = some (r, U') ∧ isN r 1001 ∧ fC T T' ∧ fM U U' ∧ AV 63 T' f p a wr (U 1 (4 + 7 * t)) th (U 1 (6 + 7 * t) / 100) (U 1 0) := by
  have hT2 : fC T (F0_askState T 63 wr th) := fun k hk => st_ne (by unfold scC at hk; omega)
  obtain ⟨r, T', U', h1, h2, h3, h4, h5, h6, -⟩ := L_as (w := w) (VR_fr hV hT2 (fM_r U)) hw (AV_st hA)
  exact ⟨r, T', U', h1, h2, h3, fC_t hT2 h4, h5, AV_c (AV_st hA) h6⟩
theorem M_holds {Sc Sm : pS} (hR : (Rel gG) Sc Sm) (a1 a2 a3 : Int32) : R2 (F11_holds Sc a1 a2 a3) (F12_holds Sm a1 a2 a3) (Ans gG) := by
  obtain ⟨ns, nt, nl, ng, rd, tn, hV, hW, hT, hB, c4, c5, c6, c7, hE⟩ := Rel_V hR
  have hnt := hW.2.1
  unfold F11_holds F12_holds
  simp only [wie]
  by_cases h1 : isN a1 nt
  · rw [thr_t hW.2.2.2.2.2.2.2.1 hnt h1, if_neg n10]
    obtain ⟨t, ht, rfl⟩ := h1
    have ht8 : t < 8 := by omega
    rw [one_t c5 hnt ht, bB_s, bO_1]
    have hfor : F12_isForce a2 = 0 ↔ F12_isIn a2 0 99 = 0 := by
      unfold F12_isForce
      rw [isIn_d]
      split <;> decide
    by_cases h2 : F12_isIn a2 0 99 = 0
    · rw [if_pos h2, if_pos (hfor.mpr h2)]; exact r2_A hR
    · rw [if_neg h2, if_neg (fun q => h2 (hfor.mp q))]
      by_cases h3 : F12_isIn a3 0 60 = 0
      · rw [if_pos h3, if_pos h3]; exact r2_A hR
      · rw [if_neg h3, if_neg h3]
        refine r2_F hR ?_
        simp only [bL_d]
        have e0 : ∀ j, F0_ask Sc 63 (29 + 2 * t) (Sc 1 2) (29 + 2 * t) j = Sc (29 + 2 * t) j := fun j => by rw [ask_ne (by omega)]
        have e1 : ∀ f p a j, F0_askThrow (F0_ask Sc 63 (29 + 2 * t) (Sc 1 2)) 63 f p a (29 + 2 * t) j = Sc (29 + 2 * t) j := fun f p a j => by rw [thr_ne (by omega), ask_ne (by omega)]
        rw [own1 _ ht8, bB_s, e1, e0, RE_t1 hE ht8, RE_t0 hE ht8]
        have hAV : AV 63 (F0_askThrow (F0_ask Sc 63 (29 + 2 * t) (Sc 1 2)) 63 (jmin a2 (Sm 1 (4 + 7 * t))) 0 a3) (jmin a2 (Sm 1 (4 + 7 * t))) 0 a3 (Sm 1 (5 + 7 * t)) (Sm 1 (4 + 7 * t)) (Sm 1 (7 + 7 * t)) (Sm 1 (6 + 7 * t) / 100) (Sm 1 0) := by
          have := AV_ask (A := 63) (o := 29 + 2 * t) (T := Sc) (rd := Sc 1 2) (by omega)
          rw [RE_t0 hE ht8, RE_t1 hE ht8, RE_t2 hE ht8, RE_t3 hE ht8, hE 0 1 2 rfl] at this
          rw [hE 0 1 2 rfl]
          exact AV_thr this
        have hfa : fC Sc (F0_askThrow (F0_ask Sc 63 (29 + 2 * t) (Sc 1 2)) 63 (jmin a2 (Sm 1 (4 + 7 * t))) 0 a3) := fun k hk => by
          unfold scC at hk
          rw [thr_ne (by omega), ask_ne (by omega)]
        generalize F0_askThrow (F0_ask Sc 63 (29 + 2 * t) (Sc 1 2)) 63 (jmin a2 (Sm 1 (4 + 7 * t))) 0 a3 = T0 at hAV hfa ⊢
        refine r2_B (P := fun z z' => z.1 = z'.1 ∧ fC Sc z.2 ∧ fM Sm z'.2) (r2_P 60 (fun i s s' => ∃ (w : Int32) (T U : pS), s = (w, nI i, nI i, T) ∧ s' = (w, nI i, U) ∧ fC Sc T ∧ fM Sm U ∧ isN w 1001 ∧ ∃ x y, AV 63 T (jmin a2 (Sm 1 (4 + 7 * t))) 0 a3 x (Sm 1 (4 + 7 * t)) y (Sm 1 (6 + 7 * t) / 100) (Sm 1 0)) ?_ ?_ ?_) ?_
        · exact ⟨_, T0, Sm, rfl, rfl, hfa, fM_r _, (hT t ht).2.1, _, _, hAV⟩
        · rintro i s s' hi ⟨w, T, U, rfl, rfl, hT, hU, hw, x, y, hA⟩
          simp only [u4_d, u3_d]
          rw [if_neg (nge 60 (b := 60) rfl hi (by decide)), if_neg (nge 60 (b := 60) rfl hi (by decide))]
          by_cases hw1 : (1000 : Int32) ≤ w
          · rw [if_pos hw1, if_pos hw1]
            exact r2_s ⟨rfl, hT, hU⟩
          · rw [if_neg hw1, if_neg hw1]
            have u1 : U 1 = Sm 1 := hU.1 1 (by decide) (by unfold scM; omega)
            have e3 : T (29 + 2 * t) 3 = Sm 1 (7 + 7 * t) := by
              rw [hT _ (by unfold scC; omega)]; exact RE_t3 hE ht8
            obtain ⟨r, T', U', k1, k2, k3, k4, k5, k6⟩ := L_st (w := 1) (wr := w) (th := Sm 1 (7 + 7 * t) + nI i) (VR_fr hV hT hU) (by decide) (by rw [u1]; exact hA)
            have k1' : F0_tell (F0_askState T 63 w (Sm 1 (7 + 7 * t) + nI i)) 63 15 1 = some (r, T') := k1
            have k2' : F12_lawSays (af U t (jmin a2 (Sm 1 (4 + 7 * t))) 0 a3 w (Sm 1 (7 + 7 * t) + nI i)) 1 25 0 1000 = some (r, U') := k2
            rw [u1] at k6
            rw [e3, k1', bB2_s, own0 _ ht8, bB_s, own3 _ ht8, bB_s, armF ht8, bB_s, wear_d, u1, les, k2', bB2_s, les, nI_1]
            exact r2_s ⟨_, T', U', rfl, rfl, fC_t hT k4, fM_t hU k5, wear_m hw k3, _, _, k6⟩
        · rintro s s' ⟨w, T, U, rfl, rfl, hT, hU, -⟩
          simp only [u4_d, u3_d]
          rw [if_pos (by decide), if_pos (by decide)]
          exact r2_s ⟨rfl, hT, hU⟩
        · rintro ⟨x, T⟩ ⟨y, U⟩ hq
          simp only [u2_d]
          exact r2_s hq
  · rw [thr_f hW.2.2.2.2.2.2.2.1 hnt h1, if_pos rfl, one_f c5 hnt h1, bB_s, bO_0]; exact r2_A hR

variable {gG : Nat → Int32}
/-! a thrower more -/
theorem loc_0 {b t : Nat} (ht : t < 8) : loc b (9 + 7 * t) = none ∧ loc b (10 + 7 * t) = none := by
  constructor <;> grind (splits := 60) [loc]
theorem M_thrower {Sc Sm : pS} (hR : (Rel gG) Sc Sm) (a1 : Int32) : R2 (F11_thrower Sc a1) (F12_thrower Sm a1) (Ans gG) := by
  obtain ⟨ns, nt, nl, ng, rd, tn, nu, la, np, hW, hP, -⟩ := id hR
  have h2 := hW.2.1
  have h68 := h2.2.2.2.2.2.2.2.1
  have h0 := h2.2.2.2.2.2.2.2.2.2.2.1
  have h1 := h2.2.2.2.2.2.2.2.2.2.2.2.1
  have c5 : Sc 1 5 = nI nt := (hW.1 68 1 5 rfl).trans h68
  have c2 : Sc 1 2 = nI rd := (hW.1 0 1 2 rfl).trans h0
  have c3 : Sc 1 3 = nI tn := (hW.1 1 1 3 rfl).trans h1
  have hrd := h2.2.2.2.2.1
  have htn := h2.2.2.2.2.2.1
  have hnt := h2.2.1
  unfold F11_thrower F12_thrower F10_begun
  simp only [wie, bL_d]
  by_cases ha : isN a1 100
  · rw [in_t (m := 99) (n := 99) rfl (by decide) ha, if_neg n10, if_neg n10, c5, c2, c3, h68, h0, h1]
    by_cases h8 : nt = 8
    · subst h8
      rw [if_pos (by decide), if_pos (by rfl)]
      exact r2_A hR
    · rw [if_neg (nge 8 (b := 8) rfl (by omega) (by decide)), if_neg (xne 8 (b := 8) rfl h8 (by omega) (by decide))]
      by_cases hr : rd = 0
      · subst hr
        by_cases hn : tn = 0
        · subst hn
          have e0 : ¬ (0 : Int32) < nI 0 := by decide
          have e1 : nI 0 ≤ (0 : Int32) := by decide
          rw [if_neg e0, if_neg e0, if_pos e1, if_pos e1, if_pos rfl]
          unfold F10_addThrower
          simp only [fgC, bL_d, sU_get, Nat.reduceEqDiff, reduceCtorEq, and_true, and_false, false_and, true_and, and_self, if_true, if_false, ite_self, Nat.reduceAdd, Nat.reduceMul, Nat.reduceSub, Nat.reduceLT, Nat.reduceLeDiff, not_true_eq_false, not_false_eq_true, c5]
          rw [if_pos (xlt 8 (b := 8) rfl (by omega) (by decide)), bG_t (vp_in_nI (by omega) (by omega)), nI_clamp (by omega), bB2_s]
          refine r2_rB (P := fun (U : pS) => ∀ k j, U k j = if k = 1 ∧ 4 + 7 * nt ≤ j ∧ j < 11 + 7 * nt then 0 else Sm k j) (ok_P 7 (fun i s => ∃ U : pS, s = (nI i, U) ∧ ∀ k j, U k j = if k = 1 ∧ 4 + 7 * nt ≤ j ∧ j < 4 + 7 * nt + i then 0 else Sm k j) ?_ ?_ ?_) ?_
          · exact ⟨Sm, rfl, fun k j => by rw [if_neg (by omega)]⟩
          · rintro i s hi ⟨U, rfl, hU⟩
            simp only [u2_d]
            rw [if_neg (nge 7 (b := 7) rfl hi (by decide)), giv rfl (by omega) hi, bB_s, nI_1]
            refine ok_s ⟨_, rfl, fun k j => ?_⟩
            rw [sU_get, hU]
            split
            · rw [if_pos (by omega)]
            · split
              · rw [if_pos (by omega)]
              · rw [if_neg (by omega)]
          · rintro s ⟨U, rfl, hU⟩
            simp only [u2_d]
            rw [if_pos (by decide)]
            refine ok_s (fun k j => ?_)
            rw [hU]
            by_cases q : k = 1 ∧ 4 + 7 * nt ≤ j ∧ j < 4 + 7 * nt + 7
            · rw [if_pos q, if_pos (by omega)]
            · rw [if_neg q, if_neg (by omega)]
          · intro U hU
            simp only [u1_d, fgM]
            rw [giv0 _ _ (by omega), bB_s]
            simp only [lit_I 82, nI_add]
            rw [bG_t (vp_in_nI (by omega) (by omega)), nI_clamp (by omega)]
            have e68 : (if 68 = 82 + nt then (0 : Int32) else sU U 1 (4 + 7 * nt) a1 1 68) = nI nt := by
              rw [if_neg (by omega), sU_n (by omega), hU, if_neg (by omega), h68]
            rw [e68]
            unfold F8_begin F8_beginMeet
            simp only [bL_d, Nat.reduceAdd]
            have e5 : ∀ (k : Nat) (x1 x2 x3 x4 x5 x6 : Int32), k = 29 + 2 * nt → sU (sU (sU (sU (sU (sU (sU Sc 65 0 0) k 0 x1) k 1 x2) k 4 x3) k 2 x4) k 3 x5) k 5 x6 1 5 = nI nt := by
              intro k x1 x2 x3 x4 x5 x6 hk
              rw [sU_n (by omega), sU_n (by omega), sU_n (by omega), sU_n (by omega), sU_n (by omega), sU_n (by omega), sU_n (by omega), c5]
            rw [e5 _ _ _ _ _ _ _ rfl, nI_1]
            have W : RE 1 1 (sU (sU (sU (sU (sU (sU (sU Sc (29 + 2 * nt) 0 a1) (29 + 2 * nt) 1 0) (29 + 2 * nt) 4 0) (29 + 2 * nt) 2 0) (29 + 2 * nt) 3 0) (29 + 2 * nt) 5 0) 1 5 (nI (nt + 1))) (sU (sU (sU (sU (sU (sU (sU Sm 1 (4 + 7 * nt) a1) 1 (5 + 7 * nt) 0) 1 (82 + nt) 0) 1 (6 + 7 * nt) 0) 1 (7 + 7 * nt) 0) 1 (8 + 7 * nt) 0) 1 68 (nI (nt + 1))) := by
              refine RE_set (RE_set (RE_set (RE_set (RE_set (RE_set (RE_set hW.1 ?_) ?_) ?_) ?_) ?_) ?_) rfl
              · exact loc_thr (f := 0) (by omega) (by decide)
              · exact loc_thr (f := 1) (by omega) (by decide)
              · exact loc_no (by omega)
              · exact loc_thr (f := 2) (by omega) (by decide)
              · exact loc_thr (f := 3) (by omega) (by decide)
              · exact loc_nx (by omega)
            have hV : ∀ j, (sU (sU (sU U 1 (4 + 7 * nt) a1) 1 (82 + nt) 0) 1 68 (nI (nt + 1))) 1 j = if j = 68 then nI (nt + 1) else if j = 82 + nt then 0 else if j = 4 + 7 * nt then a1 else if 4 + 7 * nt ≤ j ∧ j < 11 + 7 * nt then 0 else Sm 1 j := by
              intro j
              simp only [sU_get, true_and, hU]
            have hVo : ∀ k, k ≠ 1 → (sU (sU (sU U 1 (4 + 7 * nt) a1) 1 (82 + nt) 0) 1 68 (nI (nt + 1))) k = Sm k := by
              intro k hk
              rw [sU_ne hk, sU_ne hk, sU_ne hk]
              funext j
              rw [hU, if_neg (fun q => hk q.1)]
            generalize sU (sU (sU U 1 (4 + 7 * nt) a1) 1 (82 + nt) 0) 1 68 (nI (nt + 1)) = V at hV hVo ⊢
            have hc : ∀ k, k ≠ 1 → k ≠ 29 + 2 * nt → (sU (sU (sU (sU (sU (sU (sU Sc (29 + 2 * nt) 0 a1) (29 + 2 * nt) 1 0) (29 + 2 * nt) 4 0) (29 + 2 * nt) 2 0) (29 + 2 * nt) 3 0) (29 + 2 * nt) 5 0) 1 5 (nI (nt + 1))) k = Sc k := by
              intro k q1 q2
              rw [sU_ne q1, sU_ne q2, sU_ne q2, sU_ne q2, sU_ne q2, sU_ne q2, sU_ne q2]
            have hRW : RW 1 1 ns (nt + 1) nl ng 0 0 (sU (sU (sU (sU (sU (sU (sU Sc (29 + 2 * nt) 0 a1) (29 + 2 * nt) 1 0) (29 + 2 * nt) 4 0) (29 + 2 * nt) 2 0) (29 + 2 * nt) 3 0) (29 + 2 * nt) 5 0) 1 5 (nI (nt + 1))) V := by
              obtain ⟨q1, q2, q3, q4, q5, q6, q7⟩ := hW
              have hmm : ∀ j, j ≠ 68 → ¬ (4 + 7 * nt ≤ j ∧ j < 11 + 7 * nt) → j ≠ 82 + nt → V 1 j = Sm 1 j := by
                intro j a b c
                rw [hV, if_neg a, if_neg c, if_neg (by omega), if_neg b]
              refine ⟨?_, ?_, ?_, WB_m q4 (Nat.le_refl _) (Nat.le_refl _) (fun j a c => hmm j (by omega) (by omega) (by omega)), LR_m q5 (by decide) (fun i a c => hc _ (by omega) (by omega)) (fun j a c => hmm j (by omega) (by omega) (by omega)), LR_m q6 (by decide) (fun i a c => hc _ (by omega) (by omega)) (fun j a c => hmm j (by omega) (by omega) (by omega)), LR_m q7 (by decide) (fun i a c => hc _ (by omega) (by omega)) (fun j a c => hmm j (by omega) (by omega) (by omega))⟩
              · intro j k i hl
                rw [W j k i hl, hV]
                have n1 : j ≠ 9 + 7 * nt := fun e => by rw [e, (loc_0 (by omega)).1] at hl; cases hl
                have n2 : j ≠ 10 + 7 * nt := fun e => by rw [e, (loc_0 (by omega)).2] at hl; cases hl
                simp only [sU_get, true_and]
                grind
              · unfold Wn at q2 ⊢
                rw [hmm 67 (by omega) (by omega) (by omega), hV 68, hmm 2 (by omega) (by omega) (by omega), hmm 69 (by omega) (by omega) (by omega), hmm 0 (by omega) (by omega) (by omega), hmm 1 (by omega) (by omega) (by omega), hmm 66 (by omega) (by omega) (by omega), hmm 62 (by omega) (by omega) (by omega), hmm 63 (by omega) (by omega) (by omega), if_pos rfl]
                exact ⟨q2.1, by omega, q2.2.2.1, q2.2.2.2.1, q2.2.2.2.2.1, Or.inl (by omega), q2.2.2.2.2.2.2.1, rfl, q2.2.2.2.2.2.2.2.2⟩
              · intro t ht
                by_cases e : t < nt
                · refine thr_m (q3 t e) (Nat.le_refl _) (by omega) (fun j hj => hmm j (by omega) (by omega) (by omega)) (hc _ (by omega) (by omega))
                · have e : t = nt := by omega
                  subst e
                  unfold thrOK
                  rw [hV, hV, hV, hV, hV]
                  refine ⟨?_, ?_, ?_, 0, 0, Nat.le_refl _, by decide, ?_, ?_, fun i hi => absurd hi (Nat.not_lt_zero _)⟩
                  · rw [if_neg (by omega), if_neg (by omega), if_pos rfl]; exact ha
                  · rw [if_neg (by omega), if_neg (by omega), if_neg (by omega), if_pos (by omega)]; exact isN_0 (by decide)
                  · rw [if_neg (by omega), if_neg (by omega), if_neg (by omega), if_pos (by omega)]; exact isN_0 (by decide)
                  · rw [if_neg (by omega), if_neg (by omega), if_neg (by omega), if_pos (by omega)]; rfl
                  · rw [if_neg (by omega), if_pos rfl]; rfl
            refine r2_s ⟨?_, ?_⟩
            · show nI (nt + 1) - nI 1 = nI nt
              rw [pk_sub (by omega), Nat.add_sub_cancel]
            · have hfc : fO Sc (sU (sU (sU (sU (sU (sU (sU Sc (29 + 2 * nt) 0 a1) (29 + 2 * nt) 1 0) (29 + 2 * nt) 4 0) (29 + 2 * nt) 2 0) (29 + 2 * nt) 3 0) (29 + 2 * nt) 5 0) 1 5 (nI (nt + 1))) := fun k h1 h2 h3 h4 => hc k (by omega) (by omega)
              have hfm : fP Sm V := ⟨fun k h1 h2 h3 h4 => hVo k h2, fun j h1 h2 => by rw [hVo 0 (by decide)]⟩
              have := Rel_fg hR hRW hfc hfm (by rw [hc 65 (by decide) (by omega)])
              have n65 : 65 ≠ 29 + 2 * nt := by omega
              rw [sU_c Sc n65, sU_c _ n65, sU_c _ n65, sU_c _ n65, sU_c _ n65, sU_c _ n65, sU_c _ (by decide)]
              exact this
        · have e0 : (0 : Int32) < nI tn := nI_lt (a := 0) (by omega) (by omega)
          have e1 : ¬ nI tn ≤ (0 : Int32) := nI_nle (by omega) (by omega)
          rw [if_neg (show ¬ (0 : Int32) < nI 0 by decide), if_neg (show ¬ (0 : Int32) < nI 0 by decide), if_neg e1, if_neg e1, if_neg n10]
          exact r2_A hR
      · have e0 : (0 : Int32) < nI rd := nI_lt (a := 0) (by omega) (by omega)
        rw [if_pos e0, if_pos e0, if_neg n10]
        exact r2_A hR
  · rw [in_f (m := 99) (n := 99) rfl (by decide) ha, if_pos rfl, if_pos rfl]; exact r2_A hR

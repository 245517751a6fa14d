variable {gG : Nat → Int32}
/-! the least force; the safe angle -/
theorem nI_m1 {n : Nat} (h : n < 2 ^ 31) : ¬ nI n = -1 := fun e => by
  have h1 := nI_pos' h
  rw [e] at h1
  exact absurd h1 (by decide)
theorem L_mark {f sp ns : Nat} {wi mk : Int32} {Sc Sm : pS} (hf : f ≤ 99) (hs : sp < ns) (hV : VR ns Sc Sm) (h38 : Sm 0 38 = -1) (b' : Int32 × pS → Option ((Int32 × pS) ⊕ pS))
    (hb : ∀ (a : Int32) (U : pS), b' (a, U) = if 60 < a then some (.inr U) else if U 0 38 = -1 then bB2 (F12_goodFar U (nI f) a (nI sp) wi) fun r V => if r = -1 then some (.inl (a + 1, V)) else if mk ≤ r then some (.inl (a + 1, sU (sU V 0 38 (nI f)) 0 39 a)) else some (.inl (a + 1, V)) else some (.inr U)) :
    R2 (F7_angleFor Sc 59 1 (nI f) (nI sp) wi mk) (bP b' (0, Sm)) (fun p U => fC Sc p.2 ∧ fM Sm U ∧ ((p.1 = -1 ∧ U 0 38 = -1 ∧ U 0 39 = Sm 0 39) ∨ ∃ a, a ≤ 60 ∧ p.1 = nI a ∧ U 0 38 = nI f ∧ U 0 39 = nI a)) := by
  unfold F7_angleFor
  simp only [bL_d]
  refine r2_Bl (r2_Q (Q := fun z U => ∃ T, fC Sc T ∧ fM Sm U ∧ ((z = .inl T ∧ U 0 38 = -1 ∧ U 0 39 = Sm 0 39) ∨ ∃ a, a ≤ 60 ∧ z = .inr (nI a, T) ∧ U 0 38 = nI f ∧ U 0 39 = nI a)) 61 (fun i s s' => ∃ (T U : pS), s = (nI i, T) ∧ s' = (nI i, U) ∧ fC Sc T ∧ fM Sm U ∧ U 0 38 = -1 ∧ U 0 39 = Sm 0 39) ?_ ?_ ?_) ?_
  · exact ⟨Sc, Sm, rfl, rfl, fC_r _, fM_r _, h38, rfl⟩
  · rintro i s s' hi ⟨T, U, rfl, rfl, hT, hU, hu1, hu2⟩
    obtain ⟨⟨v, T'⟩, ⟨v', U'⟩, h1, h2, h3, hv, hT', hU'⟩ := L_goodFar (f := f) (a := i) (wi := wi) hf (by omega) hs (VR_fr hV hT hU)
    simp only at h3 hv hT' hU'
    subst h3
    have hT2 := fC_t hT (fC1_f hT')
    have hU2 := fM_t hU (fM1_f hU')
    have e1 : U' 0 38 = -1 := (hU'.2 38 (by decide)).trans hu1
    have e2 : U' 0 39 = Sm 0 39 := (hU'.2 39 (by decide)).trans hu2
    have g : ¬ (60 : Int32) < nI i := ngt 60 (b := 60) rfl (by omega) (by decide)
    by_cases q1 : v = -1
    · refine Or.inl ⟨(nI (i + 1), T'), (nI (i + 1), U'), ?_, ?_, T', U', rfl, rfl, hT2, hU2, e1, e2⟩
      · simp only [u2_d]
        rw [if_neg g, h1, bB2_s, if_pos q1, nI_1]
      · rw [hb, if_neg g, if_pos hu1, h2, bB2_s, if_pos q1, nI_1]
    · by_cases q2 : v < mk
      · refine Or.inl ⟨(nI (i + 1), T'), (nI (i + 1), U'), ?_, ?_, T', U', rfl, rfl, hT2, hU2, e1, e2⟩
        · simp only [u2_d]
          rw [if_neg g, h1, bB2_s, if_neg q1, if_pos q2, nI_1]
        · rw [hb, if_neg g, if_pos hu1, h2, bB2_s, if_neg q1, if_neg (Int32.not_le.mpr q2), nI_1]
      · refine Or.inr ⟨.inr (nI i, T'), ?_, ?_⟩
        · simp only [u2_d]
          rw [if_neg g, h1, bB2_s, if_neg q1, if_neg q2]
        · have hst : b' (nI i, U) = some (.inl (nI (i + 1), sU (sU U' 0 38 (nI f)) 0 39 (nI i))) := by
            rw [hb, if_neg g, if_pos hu1, h2, bB2_s, if_neg q1, if_pos (Int32.not_lt.mp q2), nI_1]
          have hfm : fM Sm (sU (sU U' 0 38 (nI f)) 0 39 (nI i)) := fM_u (Or.inr ⟨rfl, by decide⟩) (fM_u (Or.inr ⟨rfl, by decide⟩) hU2)
          have w38 : (sU (sU U' 0 38 (nI f)) 0 39 (nI i)) 0 38 = nI f := by simp only [sU_get, Nat.reduceEqDiff, reduceCtorEq, and_true, and_false, false_and, true_and, and_self, if_true, if_false, ite_self, Nat.reduceAdd, Nat.reduceMul, Nat.reduceSub, Nat.reduceLT, Nat.reduceLeDiff, not_true_eq_false, not_false_eq_true]
          have w39 : (sU (sU U' 0 38 (nI f)) 0 39 (nI i)) 0 39 = nI i := by simp only [sU_get, Nat.reduceEqDiff, reduceCtorEq, and_true, and_false, false_and, true_and, and_self, if_true, if_false, ite_self, Nat.reduceAdd, Nat.reduceMul, Nat.reduceSub, Nat.reduceLT, Nat.reduceLeDiff, not_true_eq_false, not_false_eq_true]
          rw [bP_u hst]
          generalize sU (sU U' 0 38 (nI f)) 0 39 (nI i) = W at hst hfm w38 w39 ⊢
          refine ok_e (bP_r (r := W) ?_) ⟨T', hT2, hfm, Or.inr ⟨i, by omega, rfl, w38, w39⟩⟩
          rw [hb, w38, if_neg (nI_m1 (by omega))]
          split <;> rfl
  · rintro s s' ⟨T, U, rfl, rfl, hT, hU, hu1, hu2⟩
    have g : (60 : Int32) < nI 61 := by decide
    refine ⟨.inl T, ?_, ok_e (bP_r (r := U) ?_) ⟨T, hT, hU, Or.inl ⟨rfl, hu1, hu2⟩⟩⟩
    · simp only [u2_d]
      rw [if_pos g]
    · rw [hb, if_pos g]
  · rintro z U ⟨T, hT, hU, ⟨rfl, h1, h2⟩ | ⟨a, ha, rfl, h1, h2⟩⟩
    · exact ⟨(-1, T), rfl, hT, hU, Or.inl ⟨rfl, h1, h2⟩⟩
    · exact ⟨(nI a, T), rfl, hT, hU, Or.inr ⟨a, ha, rfl, h1, h2⟩⟩
noncomputable def bMark (f sp : Nat) (wi mk : Int32) : Int32 × pS → Option ((Int32 × pS) ⊕ pS) := u2 fun a U => if 60 < a then some (.inr U) else if U 0 38 = -1 then bB2 (F12_goodFar U (nI f) a (nI sp) wi) fun r V => if r = -1 then some (.inl (a + 1, V)) else if mk ≤ r then some (.inl (a + 1, sU (sU V 0 38 (nI f)) 0 39 a)) else some (.inl (a + 1, V)) else some (.inr U)
theorem M_leastForce {Sc Sm : pS} (hR : (Rel gG) Sc Sm) (a1 a2 a3 a4 : Int32) : R2 (F11_leastForce Sc a1 a2 a3 a4) (F12_leastForce Sm a1 a2 a3 a4) (Ans gG) := by
  obtain ⟨ns, nt, nl, ng, rd, tn, hV, hW, -, hB, c4, c5, c6, c7, hE⟩ := Rel_V hR
  unfold F11_leastForce F12_leastForce
  simp only [wie, blow]
  by_cases h1 : isN a1 ns
  · rw [hsp_t c4 hW.1 h1, spe_t hV.2.2.1 hW.1 h1, if_neg n10, if_neg n10]
    by_cases h2 : F12_isWind a2 = 0
    · rw [if_pos h2, if_pos h2]; exact r2_A hR
    · rw [if_neg h2, if_neg h2]
      by_cases h3 : F12_isIn a4 0 1 = 0
      · rw [if_pos h3, if_pos h3]; exact r2_A hR
      · rw [if_neg h3, if_neg h3]
        obtain ⟨sp, hs, rfl⟩ := h1
        refine r2_F hR ?_
        unfold F12_laysMark
        simp only [bL_d]
        have hbb : ∀ (x : Option pS) (g : pS → Option (Int32 × pS)), bB (bB x (u1 fun S => some S)) g = bB x g := fun x g => by cases x <;> rfl
        rw [hbb]
        refine r2_B (P := fun z U => ∃ T, fC Sc T ∧ fM Sm U ∧ ((z = .inl T ∧ U 0 38 = -1 ∧ U 0 39 = -1) ∨ ∃ f a, z = .inr (nI f, nI a, T) ∧ U 0 38 = nI f ∧ U 0 39 = nI a)) (r2_Q 100 (fun i s s' => ∃ (T U : pS), s = (nI i, T) ∧ s' = (nI i, U) ∧ fC Sc T ∧ fM Sm U ∧ U 0 38 = -1 ∧ U 0 39 = -1) ?_ ?_ ?_) ?_
        · refine ⟨Sc, _, rfl, rfl, fC_r _, fM_u (Or.inr ⟨rfl, by decide⟩) (fM_u (Or.inr ⟨rfl, by decide⟩) (fM_r _)), ?_, ?_⟩
          · simp only [sU_get, Nat.reduceEqDiff, reduceCtorEq, and_true, and_false, false_and, true_and, and_self, if_true, if_false, ite_self, Nat.reduceAdd, Nat.reduceMul, Nat.reduceSub, Nat.reduceLT, Nat.reduceLeDiff, not_true_eq_false, not_false_eq_true]
          · simp only [sU_get, Nat.reduceEqDiff, reduceCtorEq, and_true, and_false, false_and, true_and, and_self, if_true, if_false, ite_self, Nat.reduceAdd, Nat.reduceMul, Nat.reduceSub, Nat.reduceLT, Nat.reduceLeDiff, not_true_eq_false, not_false_eq_true]
        · rintro i s s' hi ⟨T, U, rfl, rfl, hT, hU, hu1, hu2⟩
          have g : ¬ (99 : Int32) < nI i := ngt 99 (b := 99) rfl (by omega) (by decide)
          have g2 : ¬ (100 : Int32) ≤ nI i := nge 100 (b := 100) rfl (by omega) (by decide)
          obtain ⟨⟨v, T'⟩, U', e1, e2, hT', hU', hc⟩ := L_mark (f := i) (mk := a3) (wi := a2) (by omega) hs (VR_fr hV hT hU) hu1 (bMark i sp a2 a3) (fun _ _ => rfl)
          simp only at hT' hc
          have hT2 := fC_t hT hT'
          have hU2 := fM_t hU hU'
          rcases hc with ⟨rfl, k1, k2⟩ | ⟨a, ha, rfl, k1, k2⟩
          · refine Or.inl ⟨(nI (i + 1), T'), (nI (i + 1), U'), ?_, ?_, T', U', rfl, rfl, hT2, hU2, k1, k2.trans hu2⟩
            · simp only [u2_d]
              rw [if_neg g, e1, bB2_s, if_pos rfl, nI_1]
            · simp only [u2_d]
              rw [if_neg g2, if_pos hu1]
              refine Eq.trans (congrArg (fun z => bB z _) e2) ?_
              rw [bB_s, u1_d, nI_1]
          · refine Or.inr ⟨.inr (nI i, nI a, T'), ?_, ?_⟩
            · simp only [u2_d]
              rw [if_neg g, e1, bB2_s, if_neg (nI_m1 (by omega))]
            · refine ⟨U', ?_, T', hT2, hU2, Or.inr ⟨i, a, rfl, k1, k2⟩⟩
              rw [bP_u (t := (nI (i + 1), U')) (by
                simp only [u2_d]
                rw [if_neg g2, if_pos hu1]
                refine Eq.trans (congrArg (fun z => bB z _) e2) ?_
                rw [bB_s, u1_d, nI_1])]
              refine bP_r ?_
              simp only [u2_d]
              rw [k1, if_neg (nI_m1 (by omega))]
              split <;> rfl
        · rintro s s' ⟨T, U, rfl, rfl, hT, hU, hu1, hu2⟩
          refine ⟨.inl T, ?_, ok_e (bP_r (r := U) ?_) ⟨T, hT, hU, Or.inl ⟨rfl, hu1, hu2⟩⟩⟩
          · simp only [u2_d]
            rw [if_pos (by decide)]
          · simp only [u2_d]
            rw [if_pos (by decide)]
        · rintro z U ⟨T, hT, hU, ⟨rfl, h1, h2⟩ | ⟨f, a, rfl, h1, h2⟩⟩
          · simp only [bL_d, bB_s, bB2_s, bT2_s, bO_0, bO_1, u1_d, u2_d, u3_d, u4_d, u6_d, Sum.elim_inl, Sum.elim_inr, h1, h2]
            split
            · exact r2_s ⟨rfl, hT, hU⟩
            · exact r2_s ⟨rfl, hT, hU⟩
          · simp only [bL_d, bB_s, bB2_s, bT2_s, bO_0, bO_1, u1_d, u2_d, u3_d, u4_d, u6_d, Sum.elim_inl, Sum.elim_inr, h1, h2]
            split
            · exact r2_s ⟨rfl, hT, hU⟩
            · exact r2_s ⟨rfl, hT, hU⟩
  · rw [hsp_f c4 hW.1 h1, spe_f hV.2.2.1 hW.1 h1, if_pos rfl, if_pos rfl]; exact r2_A hR

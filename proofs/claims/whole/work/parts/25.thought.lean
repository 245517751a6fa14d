variable {gG : Nat → Int32}
/-! what is only thought -/
def Ans {α : Type} (gG : Nat → Int32) (p q : α × pS) : Prop := p.1 = q.1 ∧ (Rel gG) p.2 q.2
theorem r2_T {α : Type} {x y : Option (α × pS)} {Sc Sm : pS} (hR : (Rel gG) Sc Sm) (h : R2 x y (fun p q => p.1 = q.1 ∧ fC1 Sc p.2 ∧ fM1 Sm q.2)) : R2 x y (Ans gG) :=
  r2_m h (fun _ _ q => ⟨q.1, Rel_fr hR (fC1_f q.2.1) (fM1_f q.2.2)⟩)
theorem r2_A {α : Type} {v : α} {Sc Sm : pS} (hR : (Rel gG) Sc Sm) : R2 (some (v, Sc)) (some (v, Sm)) (Ans gG) := r2_s ⟨rfl, hR⟩
theorem Rel_V {Sc Sm : pS} (h : (Rel gG) Sc Sm) : ∃ ns nt nl ng rd tn, VR ns Sc Sm ∧ Wn 1 Sm ns nt nl ng rd tn ∧ (∀ t, t < nt → thrOK 1 1 ns t Sc Sm) ∧ WB 1 ns nl Sm ∧ Sc 1 4 = nI ns ∧ Sc 1 5 = nI nt ∧ Sc 1 6 = nI nl ∧ Sc 1 7 = nI ng ∧ RE 1 1 Sc Sm := by
  obtain ⟨ns, nt, nl, ng, rd, tn, nu, la, np, ⟨h1, h2, h3, h4, h5, h6, h7⟩, -⟩ := h
  refine ⟨ns, nt, nl, ng, rd, tn, ⟨h2.1, RE_0 h1, h2.2.2.2.2.2.2.1, h5, h6, h7⟩, h2, h3, h4, (h1 67 1 4 rfl).trans h2.2.2.2.2.2.2.1, (h1 68 1 5 rfl).trans h2.2.2.2.2.2.2.2.1, (h1 2 1 6 rfl).trans h2.2.2.2.2.2.2.2.2.1, (h1 69 1 7 rfl).trans h2.2.2.2.2.2.2.2.2.2.1, h1⟩
theorem VR_f1 {ns : Nat} {Sc Sm Sc' Sm' : pS} (h : VR ns Sc Sm) (hc : fC1 Sc Sc') (hm : fM1 Sm Sm') : VR ns Sc' Sm' := VR_fr h (fC1_f hc) (fM1_f hm)
theorem blow (a : Int32) : F11_canBlow a = F12_isWind a := Eq.trans (Eq.refl (F12_isWind a)) (Eq.refl _)
theorem wie (a b c : Int32) : F11_within a b c = F12_isIn a b c := Eq.trans (Eq.refl (F12_isIn a b c)) (Eq.refl _)
theorem ngt (m : Int32) {a b : Nat} (hm : m = nI b) (h : a ≤ b) (hb : b < 2 ^ 31) : ¬ m < nI a := by subst hm; exact nI_nlt h hb
theorem yle (m : Int32) {a b : Nat} (hm : m = nI b) (h : b ≤ a) (ha : a < 2 ^ 31) : m ≤ nI a := by subst hm; exact nI_le h ha
theorem ylt (m : Int32) {a b : Nat} (hm : m = nI b) (h : b < a) (ha : a < 2 ^ 31) : m < nI a := by subst hm; exact nI_lt h ha
theorem isN_0 {n : Nat} (h : 0 < n) : isN 0 n := ⟨0, h, rfl⟩
theorem M_needed {Sc Sm : pS} (hR : (Rel gG) Sc Sm) (a1 a2 a3 a4 : Int32) : R2 (F11_needed Sc a1 a2 a3 a4) (F12_needed Sm a1 a2 a3 a4) (Ans gG) := by
  obtain ⟨ns, nt, nl, ng, rd, tn, hV, hW, -, -, c4, c5, c6, c7, hE⟩ := Rel_V hR
  unfold F11_needed F12_needed
  rw [blow]
  by_cases h1 : isN a1 61
  · rw [in_t (m := 60) (n := 60) rfl (by decide) h1, if_neg n10]
    by_cases h2 : isN a2 ns
    · rw [cth_t c4 hW.1 (isN_0 (by decide)) h1 h2, if_neg n10, spe_t hV.2.2.1 hW.1 h2, if_neg n10]
      by_cases h3 : F12_isWind a3 = 0
      · rw [if_pos h3, if_pos h3]; exact r2_A hR
      · rw [if_neg h3, if_neg h3]
        obtain ⟨a, ha, rfl⟩ := h1
        obtain ⟨sp, hs, rfl⟩ := h2
        refine r2_T hR ?_
        simp only [bL_d]
        refine r2_B (P := fun z z' => ∃ T U : pS, fC1 Sc T ∧ fM1 Sm U ∧ ((z = .inl T ∧ z' = .inl U) ∨ ∃ x : Int32, z = .inr (x, T) ∧ z' = .inr (x, U))) (r2_P 100 (fun i s s' => ∃ (T U : pS), s = (nI i, T) ∧ s' = (nI i, U) ∧ fC1 Sc T ∧ fM1 Sm U) ?_ ?_ ?_) ?_
        · exact ⟨Sc, Sm, rfl, rfl, fC1_r _, fM1_r _⟩
        · rintro i s s' hi ⟨T, U, rfl, rfl, hT, hU⟩
          simp only [u2_d]
          rw [if_neg (ngt 99 (b := 99) rfl (by omega) (by decide)), if_neg (nge 100 (b := 100) rfl hi (by decide))]
          refine r2_C (L_goodFar (f := i) (a := a) (by omega) (by omega) hs (VR_f1 hV hT hU)) ?_
          rintro v T' v' U' ⟨rfl, -, hT', hU'⟩
          have hT2 := fC1_t hT hT'
          have hU2 := fM1_t hU hU'
          rw [nI_1]
          split
          · exact r2_s ⟨T', U', rfl, rfl, hT2, hU2⟩
          · split
            · exact r2_s ⟨T', U', rfl, rfl, hT2, hU2⟩
            · exact r2_s ⟨T', U', hT2, hU2, Or.inr ⟨_, rfl, rfl⟩⟩
        · rintro s s' ⟨T, U, rfl, rfl, hT, hU⟩
          simp only [u2_d]
          rw [if_pos (ylt 99 (b := 99) rfl (by decide) (by decide)), if_pos (yle 100 (b := 100) rfl (by decide) (by decide))]
          exact r2_s ⟨T, U, hT, hU, Or.inl ⟨rfl, rfl⟩⟩
        · rintro z z' ⟨T, U, hT, hU, ⟨rfl, rfl⟩ | ⟨x, rfl, rfl⟩⟩
          · simp only [bL_d, bB_s, bB2_s, bT2_s, bO_0, bO_1, u1_d, u2_d, u3_d, u4_d, u6_d, Sum.elim_inl, Sum.elim_inr]
            exact r2_s ⟨rfl, hT, hU⟩
          · simp only [bL_d, bB_s, bB2_s, bT2_s, bO_0, bO_1, u1_d, u2_d, u3_d, u4_d, u6_d, Sum.elim_inl, Sum.elim_inr]
            exact r2_s ⟨rfl, hT, hU⟩
    · rw [cth_f c4 hW.1 (fun q => h2 q.2.2), if_pos rfl, spe_f hV.2.2.1 hW.1 h2, if_pos rfl]; exact r2_A hR
  · rw [in_f (m := 60) (n := 60) rfl (by decide) h1, if_pos rfl, cth_f c4 hW.1 (fun q => h1 q.2.1), if_pos rfl]; exact r2_A hR
theorem M_still {Sc Sm : pS} (hR : (Rel gG) Sc Sm) (a1 : Int32) : R2 (F11_still Sc a1) (F12_still Sm a1) (Ans gG) := by
  obtain ⟨ns, nt, nl, ng, rd, tn, hV, hW, -, hB, c4, c5, c6, c7, hE⟩ := Rel_V hR
  unfold F11_still F12_still
  rw [hW.2.2.2.2.2.2.2.2.1]
  have hnl := hW.2.2.1
  by_cases h1 : isN a1 nl
  · rw [inM_t (by omega) h1, hli_t c6 hnl h1, if_neg n10, if_neg n10]
    obtain ⟨i, hi, rfl⟩ := h1
    obtain ⟨b3, b4, b5⟩ := hB i hi
    rw [col4 c6 hnl hi, bB_s, col5 c6 hnl hi, bB_s, col3 c6 hnl hi, bB_s]
    rw [RE_bk hE (by omega) (by decide), RE_bk hE (by omega) (by decide), RE_bk hE (by omega) (by decide)]
    simp only [bL_d]
    simp only [lit_I 3296, lit_I 10, lit_I 4, lit_I 5, lit_I 3, pk_mul, nI_add]
    rw [bG_t (vp_in_nI (by omega) (by omega)), bG_t (vp_in_nI (by omega) (by omega)), bG_t (vp_in_nI (by omega) (by omega)), wea1, bB_s, nI_clamp (by omega), nI_clamp (by omega), nI_clamp (by omega)]
    obtain ⟨x3, y3, e3⟩ := b3
    obtain ⟨x4, y4, e4⟩ := b4
    obtain ⟨x5, y5, e5⟩ := b5
    rw [e3, e4, e5]
    refine r2_T hR ?_
    have hL := L_far (wi := 0) (f := x4) (a := x5) (sp := x3) (by omega) (by omega) y3 hV
    obtain ⟨⟨v, T⟩, U, h1, h2, h3⟩ := hL
    rw [h1, h2, bB2_s, bB_s]
    exact r2_s ⟨h3.1, h3.2.2⟩
  · rw [inM_f (by omega) h1, hli_f c6 hnl h1, if_pos rfl, if_pos rfl]; exact r2_A hR
theorem M_winds {Sc Sm : pS} (hR : (Rel gG) Sc Sm) (a1 a2 a3 a4 a5 : Int32) : R2 (F11_winds Sc a1 a2 a3 a4 a5) (F12_winds Sm a1 a2 a3 a4 a5) (Ans gG) := by
  obtain ⟨ns, nt, nl, ng, rd, tn, hV, hW, -, -, c4, c5, c6, c7, hE⟩ := Rel_V hR
  unfold F11_winds F12_winds
  by_cases h1 : isN a1 100
  · rw [for_t h1, if_neg n10]
    by_cases h2 : isN a2 61
    · rw [in_t (m := 60) (n := 60) rfl (by decide) h2, if_neg n10]
      by_cases h3 : isN a3 ns
      · rw [cth_t c4 hW.1 h1 h2 h3, if_neg n10, spe_t hV.2.2.1 hW.1 h3, if_neg n10]
        by_cases h4 : isN a5 1000
        · rw [in_t (m := 999) (n := 999) rfl (by decide) h4, wi_t (m := 999) (n := 999) rfl (by decide) h4, if_neg n10, if_neg n10]
          obtain ⟨f, hf, rfl⟩ := h1
          obtain ⟨a, ha, rfl⟩ := h2
          obtain ⟨sp, hs, rfl⟩ := h3
          obtain ⟨e, he, rfl⟩ := h4
          refine r2_T hR ?_
          simp only [bL_d]
          refine r2_B (P := fun z z' => z.1 = z'.1 ∧ fC1 Sc z.2 ∧ fM1 Sm z'.2) (r2_P 41 (fun i s s' => ∃ (x : Int64) (T U : pS), s = (x, nI i - nI 20, T) ∧ s' = (x, nI i - nI 20, U) ∧ fC1 Sc T ∧ fM1 Sm U) ?_ ?_ ?_) ?_
          · exact ⟨_, Sc, Sm, rfl, rfl, fC1_r _, fM1_r _⟩
          · rintro i s s' hi ⟨x, T, U, rfl, rfl, hT, hU⟩
            simp only [u3_d]
            have g : ¬ (20 : Int32) < nI i - nI 20 := fun q => by
              have := (sw_lt (c := 20) (by decide) (by omega)).mp q
              omega
            have e61 : T 2 1 = U 1 61 := by rw [hT 2 (by decide) (by decide) (by decide), hU.1 1 (by decide) (by decide) (by decide)]; exact hE 61 2 1 rfl
            rw [if_neg g, if_neg g, wea1, bB_s]
            have hL := L_far (wi := nI i - nI 20) (f := f) (a := a) (sp := sp) (by omega) (by omega) hs (VR_f1 hV hT hU)
            obtain ⟨⟨v, T'⟩, U', h1, h2, h3, -, hT', hU'⟩ := hL
            rw [h1, h2, bB2_s, bB_s]
            simp only at h3 hT' hU'
            subst h3
            rw [sw_1]
            have hj : (nI e).toInt64 < jabl ((U' 0 30).toInt64 - a4.toInt64) ↔ (nI e).toInt64 < (U' 0 30).toInt64 - a4.toInt64 ∨ (nI e).toInt64 < -((U' 0 30).toInt64 - a4.toInt64) := by
              have he0 : (0 : Int64) ≤ (nI e).toInt64 := by
                rw [Int64.le_iff_toInt_le, Int32.toInt_toInt64, nI_toInt (by omega), Int64.toInt_zero]; omega
              unfold jabl
              generalize (U' 0 30).toInt64 - a4.toInt64 = y
              generalize (nI e).toInt64 = w at he0 ⊢
              grind
            by_cases q1 : (nI e).toInt64 < (U' 0 30).toInt64 - a4.toInt64
            · rw [if_pos (hj.mpr (Or.inl q1)), if_pos q1]
              exact r2_s ⟨_, T', U', rfl, rfl, fC1_t hT hT', fM1_t hU hU'⟩
            · rw [if_neg q1]
              by_cases q2 : (nI e).toInt64 < -((U' 0 30).toInt64 - a4.toInt64)
              · rw [if_pos (hj.mpr (Or.inr q2)), if_pos q2]
                exact r2_s ⟨_, T', U', rfl, rfl, fC1_t hT hT', fM1_t hU hU'⟩
              · rw [if_neg (fun q => (hj.mp q).elim q1 q2), if_neg q2]
                exact r2_s ⟨_, T', U', rfl, rfl, fC1_t hT hT', fM1_t hU hU'⟩
          · rintro s s' ⟨x, T, U, rfl, rfl, hT, hU⟩
            simp only [u3_d]
            have g : (20 : Int32) < nI 41 - nI 20 := by decide
            rw [if_pos g, if_pos g]
            exact r2_s ⟨rfl, hT, hU⟩
          · rintro ⟨x, T⟩ ⟨y, U⟩ hq
            simp only [u2_d]
            exact r2_s hq
        · rw [in_f (m := 999) (n := 999) rfl (by decide) h4, wi_f (m := 999) (n := 999) rfl (by decide) h4, if_pos rfl, if_pos rfl]; exact r2_A hR
      · rw [cth_f c4 hW.1 (fun q => h3 q.2.2), if_pos rfl, spe_f hV.2.2.1 hW.1 h3, if_pos rfl]; exact r2_A hR
    · rw [in_f (m := 60) (n := 60) rfl (by decide) h2, if_pos rfl, cth_f c4 hW.1 (fun q => h2 q.2.1), if_pos rfl]; exact r2_A hR
  · rw [for_f h1, if_pos rfl, cth_f c4 hW.1 (fun q => h1 q.1), if_pos rfl]; exact r2_A hR
theorem L_findAngle {f sp ns : Nat} {wi : Int32} {Sc Sm : pS} (hf : f ≤ 99) (hs : sp < ns) (hV : VR ns Sc Sm) :
    R2 (F7_findAngle Sc 59 1 (nI f) (nI sp) wi) (F12_laysAngle Sm (nI f) (nI sp) wi) (fun T U => T 59 1 = U 0 36 ∧ T 59 2 = U 0 37 ∧ fC Sc T ∧ fM Sm U) := by
  unfold F7_findAngle F12_laysAngle
  simp only [bL_d]
  refine r2_B (P := fun T U => T 59 1 = U 0 36 ∧ T 59 2 = U 0 37 ∧ fC Sc T ∧ fM Sm U) (r2_P 61 (fun i s s' => ∃ (T U : pS), s = (nI i, T) ∧ s' = (nI i, U) ∧ T 59 1 = U 0 36 ∧ T 59 2 = U 0 37 ∧ fC Sc T ∧ fM Sm U) ?_ ?_ ?_) ?_
  · refine ⟨_, _, rfl, rfl, ?_, ?_, fC_u (by unfold scC; omega) (fC_u (by unfold scC; omega) (fC_r _)), fM_u (Or.inr ⟨rfl, by decide⟩) (fM_u (Or.inr ⟨rfl, by decide⟩) (fM_r _))⟩
    · simp only [sU_get, Nat.reduceEqDiff, reduceCtorEq, and_true, and_false, false_and, true_and, and_self, if_true, if_false, ite_self, Nat.reduceAdd, Nat.reduceMul, Nat.reduceSub, Nat.reduceLT, Nat.reduceLeDiff, not_true_eq_false, not_false_eq_true]
    · simp only [sU_get, Nat.reduceEqDiff, reduceCtorEq, and_true, and_false, false_and, true_and, and_self, if_true, if_false, ite_self, Nat.reduceAdd, Nat.reduceMul, Nat.reduceSub, Nat.reduceLT, Nat.reduceLeDiff, not_true_eq_false, not_false_eq_true]
  · rintro i s s' hi ⟨T, U, rfl, rfl, h1, h2, hT, hU⟩
    simp only [u2_d]
    rw [if_neg (ngt 60 (b := 60) rfl (by omega) (by decide)), if_neg (ngt 60 (b := 60) rfl (by omega) (by decide))]
    refine r2_C (L_goodFar (f := f) (a := i) hf (by omega) hs (VR_fr hV hT hU)) ?_
    rintro v T' v' U' ⟨rfl, -, hT', hU'⟩
    have hT2 := fC_t hT (fC1_f hT')
    have hU2 := fM_t hU (fM1_f hU')
    have e1 : T' 59 = T 59 := hT' 59 (by decide) (by decide) (by decide)
    have e2 : U' 0 36 = U 0 36 := hU'.2 36 (by decide)
    have e3 : U' 0 37 = U 0 37 := hU'.2 37 (by decide)
    simp only [nI_1]
    unfold F7_found
    simp only [bL_d]
    rw [e1, e3, ← h2]
    by_cases q : T 59 2 < v
    · rw [if_pos q, if_neg (Int32.not_le.mpr q)]
      refine r2_s ⟨_, _, rfl, rfl, ?_, ?_, fC_u (by unfold scC; omega) (fC_u (by unfold scC; omega) hT2), fM_u (Or.inr ⟨rfl, by decide⟩) (fM_u (Or.inr ⟨rfl, by decide⟩) hU2)⟩
      · simp only [sU_get, Nat.reduceEqDiff, reduceCtorEq, and_true, and_false, false_and, true_and, and_self, if_true, if_false, ite_self, Nat.reduceAdd, Nat.reduceMul, Nat.reduceSub, Nat.reduceLT, Nat.reduceLeDiff, not_true_eq_false, not_false_eq_true]
      · simp only [sU_get, Nat.reduceEqDiff, reduceCtorEq, and_true, and_false, false_and, true_and, and_self, if_true, if_false, ite_self, Nat.reduceAdd, Nat.reduceMul, Nat.reduceSub, Nat.reduceLT, Nat.reduceLeDiff, not_true_eq_false, not_false_eq_true]
    · rw [if_neg q, if_pos (Int32.not_lt.mp q)]
      exact r2_s ⟨_, _, rfl, rfl, by rw [e1, e2]; exact h1, by rw [e1, e3]; exact h2, hT2, hU2⟩
  · rintro s s' ⟨T, U, rfl, rfl, hq⟩
    simp only [u2_d]
    rw [if_pos (ylt 60 (b := 60) rfl (by decide) (by decide)), if_pos (ylt 60 (b := 60) rfl (by decide) (by decide))]
    exact r2_s hq
  · rintro T U hq
    simp only [u1_d]
    exact r2_s hq
theorem r2_F {α : Type} {x y : Option (α × pS)} {Sc Sm : pS} (hR : (Rel gG) Sc Sm) (h : R2 x y (fun p q => p.1 = q.1 ∧ fC Sc p.2 ∧ fM Sm q.2)) : R2 x y (Ans gG) :=
  r2_m h (fun _ _ q => ⟨q.1, Rel_fr hR q.2.1 q.2.2⟩)
theorem wnd_t {a : Int32} (h : ¬ F12_isWind a = 0) : F12_isWind a = 1 := by
  unfold F12_isWind at h ⊢
  rw [isIn_d] at h ⊢
  split at h
  · rename_i q; rw [if_pos q]; rfl
  · exact absurd rfl h
theorem M_right {Sc Sm : pS} (hR : (Rel gG) Sc Sm) (a1 a2 : Int32) : R2 (F11_right Sc a1 a2) (F12_right Sm a1 a2) (Ans gG) := by
  obtain ⟨ns, nt, nl, ng, rd, tn, hV, hW, -, -, c4, c5, c6, c7, hE⟩ := Rel_V hR
  unfold F11_right F12_right
  rw [blow]
  by_cases h1 : isN a1 100
  · rw [for_t h1, wi_t (m := 99) (n := 99) rfl (by decide) h1, if_neg n10, if_neg n10]
    by_cases h3 : F12_isWind a2 = 0
    · rw [if_pos h3, if_pos h3]; exact r2_A hR
    · rw [if_neg h3, if_neg h3]
      obtain ⟨f, hf, rfl⟩ := h1
      refine r2_F hR ?_
      simp only [bL_d]
      have hns := hV.1
      have h67 := hV.2.2.1
      refine r2_B (P := fun z z' => z.1 = z'.1 ∧ fC Sc z.2 ∧ fM Sm z'.2) (r2_P ns (fun i s s' => ∃ (x y : Int32) (T U : pS), s = (x, y, nI i, T) ∧ s' = (x, y, nI i, U) ∧ fC Sc T ∧ fM Sm U) ?_ ?_ ?_) ?_
      · exact ⟨_, _, Sc, Sm, rfl, rfl, fC_r _, fM_r _⟩
      · rintro i s s' hi ⟨x, y, T, U, rfl, rfl, hT, hU⟩
        simp only [u4_d]
        rw [hT 1 (by unfold scC; omega), hU.1 1 (by decide) (by unfold scM; omega), c4, h67, if_neg (nI_ge hi (by omega)), if_neg (nI_ge hi (by omega))]
        refine r2_B (L_findAngle (f := f) (sp := i) (by omega) hi (VR_fr hV hT hU)) ?_
        rintro T' U' ⟨h1, h2, hT', hU'⟩
        simp only [nI_1, h2]
        by_cases q : y < U' 0 37
        · rw [if_pos q, if_neg (Int32.not_le.mpr q)]
          exact r2_s ⟨_, _, _, _, rfl, rfl, fC_t hT hT', fM_t hU hU'⟩
        · rw [if_neg q, if_pos (Int32.not_lt.mp q)]
          exact r2_s ⟨_, _, _, _, rfl, rfl, fC_t hT hT', fM_t hU hU'⟩
      · rintro s s' ⟨x, y, T, U, rfl, rfl, hT, hU⟩
        simp only [u4_d]
        rw [hT 1 (by unfold scC; omega), hU.1 1 (by decide) (by unfold scM; omega), c4, h67, if_pos (nI_le (Nat.le_refl _) (by omega)), if_pos (nI_le (Nat.le_refl _) (by omega))]
        exact r2_s ⟨rfl, hT, hU⟩
      · rintro ⟨x, T⟩ ⟨y, U⟩ hq
        simp only [u2_d]
        exact r2_s hq
  · rw [for_f h1, wi_f (m := 99) (n := 99) rfl (by decide) h1, if_pos rfl, if_pos rfl]; exact r2_A hR
theorem M_fly {Sc Sm : pS} (hR : (Rel gG) Sc Sm) (a1 a2 a3 a4 a5 a6 a7 : Int32) : R2 (F11_fly Sc a1 a2 a3 a4 a5 a6 a7) (F12_fly Sm a1 a2 a3 a4 a5 a6 a7) (Ans gG) := by
  obtain ⟨ns, nt, nl, ng, rd, tn, hV, hW, -, -, c4, c5, c6, c7, hE⟩ := Rel_V hR
  unfold F11_fly F12_fly
  simp only [wie, blow]
  by_cases h1 : isN a1 100
  · rw [in_t (m := 99) (n := 99) rfl (by decide) h1, if_neg n10, if_neg n10]
    by_cases h2 : isN a2 91
    · rw [in_t (m := 90) (n := 90) rfl (by decide) h2, if_neg n10, if_neg n10]
      by_cases h3 : F12_isIn a3 (-9) 9 = 0
      · rw [if_pos h3, if_pos h3]; exact r2_A hR
      · rw [if_neg h3, if_neg h3]
        by_cases h4 : isN a4 ns
        · rw [hsp_t c4 hW.1 h4, spe_t hV.2.2.1 hW.1 h4, if_neg n10, if_neg n10]
          have hw : ∀ x, F12_isWind x = 0 ↔ F12_isIn x (-29) 29 = 0 := by
            intro x
            unfold F12_isWind
            rw [isIn_d]
            split <;> decide
          by_cases h5 : F12_isIn a5 (-29) 29 = 0
          · rw [if_pos h5, if_pos ((hw _).mpr h5)]; exact r2_A hR
          · rw [if_neg h5, if_neg (fun q => h5 ((hw _).mp q))]
            by_cases h6 : F12_isIn a6 (-29) 29 = 0
            · rw [if_pos h6, if_pos ((hw _).mpr h6)]; exact r2_A hR
            · rw [if_neg h6, if_neg (fun q => h6 ((hw _).mp q))]
              obtain ⟨f, hf, rfl⟩ := h1
              obtain ⟨a, ha, rfl⟩ := h2
              obtain ⟨sp, hs, rfl⟩ := h4
              have hL := L_flies (lie := a3) (wi := a5) (si := a6) (show f ≤ 99 by omega) (show a ≤ 90 by omega) hs hV.1 hV.2.1 hV.2.2.1 hV.2.2.2.1
              obtain ⟨T, U, hT, hU, ⟨i, hi, hF⟩, hfc, hfm⟩ := hL
              have hRR : (Rel gG) T U := Rel_fr hR (fC1_f hfc) (fM1_f hfm)
              have g4 : T 2 4 = U 1 64 := by rw [hfc 2 (by decide) (by decide) (by decide), hfm.1 1 (by decide) (by decide) (by decide)]; exact hE 64 2 4 rfl
              rw [hU, bB_s]
              by_cases h7 : isN a7 7
              · rw [in_t (m := 6) (n := 6) rfl (by decide) h7, if_neg n10]
                cases hb : F2_begin Sc 60 1 (nI f) (nI a) a3 (nI sp) a5 a6 with
                | none => rw [hb] at hT; cases hT
                | some B =>
                  rw [hb, bB_s] at hT
                  rw [bB_s, hT, bB_s, good hF g4, land hF]
                  obtain ⟨k, hk, rfl⟩ := h7
                  have q0 := hF.2.2.2.2.2.2.2.2.2.2.1
                  have q1 := hF.2.2.2.2.2.2.2.2.2.2.2.1
                  have q2 := hF.2.2.2.2.2.2.2.2.1
                  have q3 := hF.2.2.2.2.2.2.2.2.2.2.2.2.2.1
                  have q4 := hF.2.2.2.1
                  have : k = 0 ∨ k = 1 ∨ k = 2 ∨ k = 3 ∨ k = 4 ∨ k = 5 ∨ k = 6 := by omega
                  rcases this with rfl | rfl | rfl | rfl | rfl | rfl | rfl
                  · exact r2_s ⟨q0, hRR⟩
                  · exact r2_s ⟨rfl, hRR⟩
                  · exact r2_s ⟨q1, hRR⟩
                  · exact r2_s ⟨q2, hRR⟩
                  · exact r2_s ⟨q3, hRR⟩
                  · show R2 (if F2_how T 60 (T 2 4) = 0 then some ((1 : Int32), T) else some ((0 : Int32), T)) (if (if F2_how T 60 (T 2 4) = 0 then (1 : Int32) else 0) = 0 then some ((0 : Int32), U) else some ((1 : Int32), U)) (Ans gG)
                    by_cases q : F2_how T 60 (T 2 4) = 0
                    · simp only [if_pos q, if_neg n10]; exact r2_s ⟨rfl, hRR⟩
                    · simp only [if_neg q, if_pos]; exact r2_s ⟨rfl, hRR⟩
                  · exact r2_s ⟨q4, hRR⟩
              · rw [in_f (m := 6) (n := 6) rfl (by decide) h7, if_pos rfl]
                have hn : ∀ k, k < 7 → ¬ a7 = nI k := fun k hk e => h7 ⟨k, hk, e⟩
                rw [if_neg (show ¬ a7 = 0 from hn 0 (by decide)), if_neg (show ¬ a7 = 1 from hn 1 (by decide)), if_neg (show ¬ a7 = 2 from hn 2 (by decide)), if_neg (show ¬ a7 = 3 from hn 3 (by decide)), if_neg (show ¬ a7 = 4 from hn 4 (by decide)), if_neg (show ¬ a7 = 5 from hn 5 (by decide)), if_neg (show ¬ a7 = 6 from hn 6 (by decide))]
                exact r2_s ⟨rfl, Rel_fr hR (fC_r _) (fM1_f hfm)⟩
        · rw [hsp_f c4 hW.1 h4, spe_f hV.2.2.1 hW.1 h4, if_pos rfl, if_pos rfl]; exact r2_A hR
    · rw [in_f (m := 90) (n := 90) rfl (by decide) h2, if_pos rfl, if_pos rfl]; exact r2_A hR
  · rw [in_f (m := 99) (n := 99) rfl (by decide) h1, if_pos rfl, if_pos rfl]; exact r2_A hR
theorem M_better {Sc Sm : pS} (hR : (Rel gG) Sc Sm) (a1 a2 a3 a4 : Int32) : R2 (F11_better Sc a1 a2 a3 a4) (F12_better Sm a1 a2 a3 a4) (Ans gG) := by
  obtain ⟨ns, nt, nl, ng, rd, tn, hV, hW, -, -, c4, c5, c6, c7, hE⟩ := Rel_V hR
  unfold F11_better F12_better
  by_cases h1 : isN a1 100
  · rw [for_t h1, if_neg n10]
    by_cases h2 : isN a2 61
    · rw [in_t (m := 60) (n := 60) rfl (by decide) h2, if_neg n10]
      by_cases h3 : isN a3 ns
      · rw [cth_t c4 hW.1 h1 h2 h3, if_neg n10, spe_t hV.2.2.1 hW.1 h3, if_neg n10]
        by_cases h4 : isN a4 ns
        · rw [hsp_t c4 hW.1 h4, spe_t hV.2.2.1 hW.1 h4, if_neg n10, if_neg n10]
          obtain ⟨f, hf, rfl⟩ := h1
          obtain ⟨a, ha, rfl⟩ := h2
          obtain ⟨sp, hs, rfl⟩ := h3
          obtain ⟨sq, hs', rfl⟩ := h4
          refine r2_T hR ?_
          simp only [bL_d]
          refine r2_B (P := fun z z' => z.1 = z'.1 ∧ fC1 Sc z.2 ∧ fM1 Sm z'.2) (r2_P 41 (fun i s s' => ∃ (x : Int64) (T U : pS), s = (x, nI i - nI 20, T) ∧ s' = (x, nI i - nI 20, U) ∧ fC1 Sc T ∧ fM1 Sm U) ?_ ?_ ?_) ?_
          · exact ⟨_, Sc, Sm, rfl, rfl, fC1_r _, fM1_r _⟩
          · rintro i s s' hi ⟨x, T, U, rfl, rfl, hT, hU⟩
            simp only [u3_d]
            have g : ¬ (20 : Int32) < nI i - nI 20 := fun q => by
              have := (sw_lt (c := 20) (by decide) (by omega)).mp q
              omega
            rw [if_neg g, if_neg g]
            refine r2_C (L_goodFar (f := f) (a := a) (by omega) (by omega) hs (VR_f1 hV hT hU)) ?_
            rintro v T' v' U' ⟨rfl, hv, hT', hU'⟩
            have hT2 := fC1_t hT hT'
            have hU2 := fM1_t hU hU'
            obtain ⟨⟨v2, T3⟩, ⟨v3, U3⟩, h1, h2, h3, hv2, hT3, hU3⟩ := L_goodFar (f := f) (a := a) (wi := nI i - nI 20) (by omega) (by omega) hs' (VR_f1 hV hT2 hU2)
            simp only at h3 hv2 hT3 hU3
            subst h3
            have hT4 := fC1_t hT2 hT3
            have hU4 := fM1_t hU2 hU3
            rw [h1, h2, bB2_s, bB2_s, sw_1]
            by_cases q : v = -1
            · rw [if_pos q, if_pos (by
                subst q
                rcases hv2 with rfl | ⟨j, hj, rfl⟩
                · show (-1 : Int32) ≤ -1; decide
                · exact Int32.le_trans (show (-1 : Int32) ≤ 0 by decide) (nI_pos' (by omega)))]
              exact r2_s ⟨_, _, _, rfl, rfl, hT2, hU4⟩
            · rw [if_neg q]
              split
              · exact r2_s ⟨_, _, _, rfl, rfl, hT4, hU4⟩
              · exact r2_s ⟨_, _, _, rfl, rfl, hT4, hU4⟩
          · rintro s s' ⟨x, T, U, rfl, rfl, hT, hU⟩
            simp only [u3_d]
            have g : (20 : Int32) < nI 41 - nI 20 := by decide
            rw [if_pos g, if_pos g]
            exact r2_s ⟨rfl, hT, hU⟩
          · rintro ⟨x, T⟩ ⟨y, U⟩ hq
            simp only [u2_d]
            exact r2_s hq
        · rw [hsp_f c4 hW.1 h4, spe_f hV.2.2.1 hW.1 h4, if_pos rfl, if_pos rfl]; exact r2_A hR
      · rw [cth_f c4 hW.1 (fun q => h3 q.2.2), if_pos rfl, spe_f hV.2.2.1 hW.1 h3, if_pos rfl]; exact r2_A hR
    · rw [in_f (m := 60) (n := 60) rfl (by decide) h2, if_pos rfl, cth_f c4 hW.1 (fun q => h2 q.2.1), if_pos rfl]; exact r2_A hR
  · rw [for_f h1, if_pos rfl, cth_f c4 hW.1 (fun q => h1 q.1), if_pos rfl]; exact r2_A hR
theorem M_waitFor {Sc Sm : pS} (hR : (Rel gG) Sc Sm) (a1 a2 a3 a4 : Int32) : R2 (F11_waitFor Sc a1 a2 a3 a4) (F12_waitFor Sm a1 a2 a3 a4) (Ans gG) := by
  obtain ⟨ns, nt, nl, ng, rd, tn, hV, hW, -, -, c4, c5, c6, c7, hE⟩ := Rel_V hR
  unfold F11_waitFor F12_waitFor
  by_cases h1 : isN a1 100
  · rw [for_t h1, if_neg n10]
    by_cases h2 : isN a2 61
    · rw [in_t (m := 60) (n := 60) rfl (by decide) h2, if_neg n10]
      by_cases h3 : isN a3 ns
      · rw [cth_t c4 hW.1 h1 h2 h3, if_neg n10, spe_t hV.2.2.1 hW.1 h3, if_neg n10, wie]
        by_cases h4 : F12_isIn a4 0 1 = 0
        · rw [if_pos h4, if_pos h4]; exact r2_A hR
        · rw [if_neg h4, if_neg h4]
          obtain ⟨f, hf, rfl⟩ := h1
          obtain ⟨a, ha, rfl⟩ := h2
          obtain ⟨sp, hs, rfl⟩ := h3
          have hng := hW.2.2.2.1
          have h69 := hW.2.2.2.2.2.2.2.2.2.1
          refine r2_T hR ?_
          simp only [bL_d]
          refine r2_B (P := fun z z' => z.1 = z'.1 ∧ z.2.1 = z'.2.1 ∧ fC1 Sc z.2.2 ∧ fM1 Sm z'.2.2) (r2_P ng (fun i s s' => ∃ (x y : Int32) (T U : pS), s = (x, y, nI i, T) ∧ s' = (x, y, nI i, U) ∧ fC1 Sc T ∧ fM1 Sm U) ?_ ?_ ?_) ?_
          · exact ⟨_, _, Sc, Sm, rfl, rfl, fC1_r _, fM1_r _⟩
          · rintro i s s' hi ⟨x, y, T, U, rfl, rfl, hT, hU⟩
            simp only [u4_d]
            rw [hT 1 (by decide) (by decide) (by decide), hU.1 1 (by decide) (by decide) (by decide), hT 7 (by decide) (by decide) (by decide), c7, h69, if_neg (nI_ge hi (by omega)), if_neg (nI_ge hi (by omega)), if_neg (nge 60 (b := 60) rfl (by omega) (by decide)), bG_t (vp_in_nI (by omega) (by omega)), nI_clamp (by omega)]
            simp only [lit_I 90, nI_add]
            rw [bG_t (vp_in_nI (by omega) (by omega)), nI_clamp (by omega), RE_gu hE (by omega)]
            refine r2_C (L_goodFar (f := f) (a := a) (by omega) (by omega) hs (VR_f1 hV hT hU)) ?_
            rintro v T' v' U' ⟨rfl, -, hT', hU'⟩
            simp only [nI_1]
            by_cases q : y < v
            · rw [if_pos q, if_neg (Int32.not_le.mpr q)]
              exact r2_s ⟨_, _, _, _, rfl, rfl, fC1_t hT hT', fM1_t hU hU'⟩
            · rw [if_neg q, if_pos (Int32.not_lt.mp q)]
              exact r2_s ⟨_, _, _, _, rfl, rfl, fC1_t hT hT', fM1_t hU hU'⟩
          · rintro s s' ⟨x, y, T, U, rfl, rfl, hT, hU⟩
            simp only [u4_d]
            rw [hT 1 (by decide) (by decide) (by decide), hU.1 1 (by decide) (by decide) (by decide), c7, h69, if_pos (nI_le (Nat.le_refl _) (by omega)), if_pos (nI_le (Nat.le_refl _) (by omega))]
            exact r2_s ⟨rfl, rfl, hT, hU⟩
          · rintro ⟨x, y, T⟩ ⟨x', y', U⟩ ⟨hx, hy, hT, hU⟩
            simp only at hx hy
            subst hx hy
            simp only [u3_d]
            split
            · exact r2_s ⟨rfl, hT, hU⟩
            · exact r2_s ⟨rfl, hT, hU⟩
      · rw [cth_f c4 hW.1 (fun q => h3 q.2.2), if_pos rfl, spe_f hV.2.2.1 hW.1 h3, if_pos rfl]; exact r2_A hR
    · rw [in_f (m := 60) (n := 60) rfl (by decide) h2, if_pos rfl, cth_f c4 hW.1 (fun q => h2 q.2.1), if_pos rfl]; exact r2_A hR
  · rw [for_f h1, if_pos rfl, cth_f c4 hW.1 (fun q => h1 q.1), if_pos rfl]; exact r2_A hR

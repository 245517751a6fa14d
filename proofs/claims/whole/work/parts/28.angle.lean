variable {gG : Nat → Int32}
/-! the angle, safe or not -/
/-- how far, as a function of the angle alone -/
theorem L_pure {f sp ns : Nat} {wi : Int32} {Sc Sm : pS} (hf : f ≤ 99) (hs : sp < ns) (hV : VR ns Sc Sm) :
    ∃ g : Nat → Int32, ∀ a, a ≤ 90 → (g a = -1 ∨ isN (g a) 475201) ∧ (∀ T, fC Sc T → ∃ T', F7_goodFar T 59 1 (nI f) (nI a) (nI sp) wi = some (g a, T') ∧ fC1 T T') ∧ (∀ U, fM Sm U → ∃ U', F12_goodFar U (nI f) (nI a) (nI sp) wi = some (g a, U') ∧ fM1 U U') := by
  have key : ∀ a, ∃ v : Int32, a ≤ 90 → (v = -1 ∨ isN v 475201) ∧ (∀ T, fC Sc T → ∃ T', F7_goodFar T 59 1 (nI f) (nI a) (nI sp) wi = some (v, T') ∧ fC1 T T') ∧ (∀ U, fM Sm U → ∃ U', F12_goodFar U (nI f) (nI a) (nI sp) wi = some (v, U') ∧ fM1 U U') := by
    intro a
    by_cases ha : a ≤ 90
    · obtain ⟨⟨v, T0⟩, ⟨v', U0⟩, h1, h2, h3, hv, -, -⟩ := L_goodFar (f := f) (a := a) (wi := wi) hf ha hs hV
      simp only at h3 hv
      subst h3
      refine ⟨v, fun _ => ⟨hv, fun T hT => ?_, fun U hU => ?_⟩⟩
      · obtain ⟨⟨w, T1⟩, ⟨w', U1⟩, k1, k2, k3, -, k4, -⟩ := L_goodFar (f := f) (a := a) (wi := wi) hf ha hs (VR_fr hV hT (fM_r _))
        simp only at k3 k4
        rw [h2] at k2
        cases k2
        exact ⟨T1, by rw [k1, k3], k4⟩
      · obtain ⟨⟨w, T1⟩, ⟨w', U1⟩, k1, k2, k3, -, -, k4⟩ := L_goodFar (f := f) (a := a) (wi := wi) hf ha hs (VR_fr hV (fC_r _) hU)
        simp only at k3 k4
        rw [h1] at k1
        cases k1
        exact ⟨U1, by rw [k2, ← k3], k4⟩
    · exact ⟨0, fun q => absurd q ha⟩
  obtain ⟨g, hg⟩ := Classical.skolem.mp key
  exact ⟨g, hg⟩
def mfN (g : Nat → Int32) (a sl : Nat) : Nat → Int32
  | 0 => g a
  | j + 1 => jmin (mfN g a sl j) (g (min 90 (a + j - sl)))
theorem mf_m1 {g : Nat → Int32} {a sl i : Nat} (hg : ∀ a, a ≤ 90 → -1 ≤ g a) (h : mfN g a sl i = -1) : ∀ k, mfN g a sl (i + k) = -1
  | 0 => h
  | k + 1 => by
    show jmin (mfN g a sl (i + k)) (g (min 90 (a + (i + k) - sl))) = -1
    rw [mf_m1 hg h k]
    have := hg (min 90 (a + (i + k) - sl)) (Nat.min_le_left _ _)
    unfold jmin
    rw [if_neg (Int32.not_lt.mpr this)]
theorem hold_a {a : Nat} (h : a ≤ 90) : F12_held (nI a) 0 90 = nI a := by
  have p1 : nI a ≤ 90 := nI_le h (by decide)
  have p2 : (0 : Int32) ≤ nI a := nI_pos' (by omega)
  unfold F12_held F12_greater F12_lesser
  simp only [if_pos p1, if_pos p2]
theorem L_around {g : Nat → Int32} {a sl : Nat} {T : pS} (hsl : sl ≤ 9) (ha : a ≤ 60) (hT : ∀ x, x ≤ 60 + sl → T 62 x = g x) : F7_leastAround T 59 (nI a) (nI sl) = some (mfN g a sl (2 * sl + 1)) := by
  have h : Ok (F7_leastAround T 59 (nI a) (nI sl)) (fun v => v = mfN g a sl (2 * sl + 1)) := by
    unfold F7_leastAround
    simp only [bL_d, Nat.reduceAdd]
    rw [hol (by decide), hold_a (by omega), bG_t (vp_in_nI (by omega) (by omega)), nI_clamp (by omega), hT a (by omega)]
    refine ok_B (P := fun v => v = mfN g a sl (2 * sl + 1)) (ok_P (2 * sl + 1) (fun i s => s = (mfN g a sl i, nI i - nI sl)) ?_ ?_ ?_) ?_
    · rw [sw_0]; rfl
    · rintro i s hi rfl
      simp only [u2_d]
      have q : ¬ nI sl < nI i - nI sl := fun q => by
        have := (sw_lt (c := sl) (by omega) (by omega)).mp q
        omega
      have hm : min 90 (a + i - sl) ≤ 60 + sl := by omega
      rw [if_neg q, hol (by decide), sw_h (by omega) (by omega) (by omega), bG_t (vp_in_nI (by omega) (by omega)), nI_clamp (by omega), hT _ hm, sw_1]
      exact ok_s rfl
    · rintro s rfl
      simp only [u2_d]
      rw [if_pos ((sw_lt (by omega) (by omega)).mpr (by omega))]
      exact ok_s rfl
    · rintro v rfl
      exact ok_s rfl
  obtain ⟨v, h1, h2⟩ := h
  rw [h1, h2]
theorem L_safe {g : Nat → Int32} {f sp sl a : Nat} {wi : Int32} {Sm U : pS} (hsl : sl ≤ 9) (ha : a ≤ 60) (e63 : Sm 1 63 = nI sl) (hg : ∀ a, a ≤ 90 → (g a = -1 ∨ isN (g a) 475201)) (hp : ∀ a, a ≤ 90 → ∀ U, fM Sm U → ∃ U', F12_goodFar U (nI f) (nI a) (nI sp) wi = some (g a, U') ∧ fM1 U U') (hU : fM Sm U) :
    Ok (F12_safeFar U (nI f) (nI a) (nI sp) wi) (fun p => p.1 = mfN g a sl (2 * sl + 1) ∧ fM1 U p.2) := by
  have hg' : ∀ a, a ≤ 90 → -1 ≤ g a := fun a ha => by
    rcases hg a ha with q | ⟨j, hj, q⟩
    · rw [q]; decide
    · rw [q]; exact Int32.le_trans (show (-1 : Int32) ≤ 0 by decide) (nI_pos' (by omega))
  unfold F12_safeFar
  obtain ⟨U1, h1, h2⟩ := hp a (by omega) U hU
  simp only [bL_d]
  have e1 : ∀ V, fM Sm V → F12_weather V 3 = some (nI sl) := fun V hV => by
    rw [wea3, hV.1 1 (by decide) (by unfold scM; omega), e63]
  have hU1 := fM_t hU (fM1_f h2)
  rw [h1, bB2_s, e1 U1 hU1, bB_s]
  refine ok_B (P := fun (p : Int32 × pS) => p.1 = mfN g a sl (2 * sl + 1) ∧ fM1 U p.2) (ok_P (2 * sl + 1) (fun i s => ∃ V, s = (mfN g a sl i, nI i - nI sl, V) ∧ fM1 U V) ?_ ?_ ?_) ?_
  · exact ⟨U1, by rw [sw_0]; rfl, h2⟩
  · rintro i s hi ⟨V, rfl, hV⟩
    have hV2 := fM_t hU (fM1_f hV)
    simp only [u3_d]
    have q : ¬ nI sl < nI i - nI sl := fun q => by
      have := (sw_lt (c := sl) (by omega) (by omega)).mp q
      omega
    rw [e1 V hV2, bB_s, if_neg q]
    by_cases hm : mfN g a sl i = -1
    · rw [if_pos hm]
      refine ok_s ⟨?_, hV⟩
      have := mf_m1 hg' hm (2 * sl + 1 - i)
      rw [show i + (2 * sl + 1 - i) = 2 * sl + 1 by omega] at this
      rw [this]; exact hm
    · rw [if_neg hm, sw_h (by omega) (by omega) (by omega)]
      obtain ⟨V', h3, h4⟩ := hp (min 90 (a + i - sl)) (Nat.min_le_left _ _) V hV2
      rw [h3, bB2_s, les, sw_1]
      exact ok_s ⟨V', rfl, fM1_t hV h4⟩
  · rintro s ⟨V, rfl, hV⟩
    simp only [u3_d]
    rw [e1 V (fM_t hU (fM1_f hV)), bB_s, if_pos ((sw_lt (by omega) (by omega)).mpr (by omega))]
    exact ok_s ⟨rfl, hV⟩
  · rintro ⟨v, V⟩ hq
    exact ok_s hq
theorem L_findSafe {f sp ns sl : Nat} {wi : Int32} {Sc Sm : pS} (hf : f ≤ 99) (hs : sp < ns) (hV : VR ns Sc Sm) (hsl : sl ≤ 9) (e63 : Sm 1 63 = nI sl) :
    R2 (F7_findSafe Sc 59 1 (nI f) (nI sp) wi) (F12_laysSafe Sm (nI f) (nI sp) wi) (fun T U => T 59 1 = U 0 36 ∧ T 59 2 = U 0 37 ∧ fC Sc T ∧ fM Sm U) := by
  obtain ⟨g, hg⟩ := L_pure (wi := wi) hf hs hV
  have c63 : Sc 2 3 = nI sl := (hV.2.1 63 2 3 rfl (by decide)).trans e63
  unfold F7_findSafe F12_laysSafe
  simp only [bL_d, Nat.reduceAdd, c63]
  refine r2_lB (P := fun T => fC Sc T ∧ ∀ x, x ≤ 60 + sl → T 62 x = g x) (ok_P (61 + sl) (fun i s => ∃ T, s = (nI i, T) ∧ fC Sc T ∧ ∀ x, x < i → T 62 x = g x) ?_ ?_ ?_) ?_
  · exact ⟨Sc, rfl, fC_r _, fun x hx => absurd hx (Nat.not_lt_zero _)⟩
  · rintro i s hi ⟨T, rfl, hT, hx⟩
    simp only [u2_d]
    have q : ¬ (60 + nI sl) < nI i := by
      rw [lit_I 60, nI_add]; exact nI_nlt (by omega) (by omega)
    obtain ⟨T', h1, h2⟩ := (hg i (by omega)).2.1 T hT
    rw [if_neg (ngt 90 (b := 90) rfl (by omega) (by decide)), if_neg q, h1, bB2_s, bG_t (vp_in_nI (by omega) (by omega)), nI_clamp (by omega), nI_1]
    refine ok_s ⟨_, rfl, fC_u (by unfold scC; omega) (fC_t hT (fC1_f h2)), fun x hxi => ?_⟩
    rw [sU_get]
    by_cases e : x = i
    · rw [if_pos ⟨rfl, e⟩, e]
    · rw [if_neg (fun q => e q.2), h2 62 (by decide) (by decide) (by decide)]
      exact hx x (by omega)
  · rintro s ⟨T, rfl, hT, hx⟩
    simp only [u2_d]
    have q : (60 + nI sl) < nI (61 + sl) := by
      rw [lit_I 60, nI_add]; exact nI_lt (by omega) (by omega)
    rw [if_neg (ngt 90 (b := 90) rfl (by omega) (by decide)), if_pos q]
    exact ok_s ⟨hT, fun x hxi => hx x (by omega)⟩
  · rintro T0 ⟨hT0, hx⟩
    simp only [u1_d]
    refine r2_B (P := fun T U => T 59 1 = U 0 36 ∧ T 59 2 = U 0 37 ∧ fC Sc T ∧ fM Sm U) (r2_P 61 (fun i s s' => ∃ (T U : pS), s = (nI i, T) ∧ s' = (nI i, U) ∧ T 59 1 = U 0 36 ∧ T 59 2 = U 0 37 ∧ fC Sc T ∧ fM Sm U ∧ T 62 = T0 62) ?_ ?_ ?_) ?_
    · refine ⟨_, _, rfl, rfl, ?_, ?_, fC_u (by unfold scC; omega) (fC_u (by unfold scC; omega) hT0), fM_u (Or.inr ⟨rfl, by decide⟩) (fM_u (Or.inr ⟨rfl, by decide⟩) (fM_r _)), ?_⟩
      · simp only [sU_get, Nat.reduceEqDiff, reduceCtorEq, and_true, and_false, false_and, true_and, and_self, if_true, if_false, ite_self, Nat.reduceAdd, Nat.reduceMul, Nat.reduceSub, Nat.reduceLT, Nat.reduceLeDiff, not_true_eq_false, not_false_eq_true]
      · simp only [sU_get, Nat.reduceEqDiff, reduceCtorEq, and_true, and_false, false_and, true_and, and_self, if_true, if_false, ite_self, Nat.reduceAdd, Nat.reduceMul, Nat.reduceSub, Nat.reduceLT, Nat.reduceLeDiff, not_true_eq_false, not_false_eq_true]
      · rw [sU_ne (by decide), sU_ne (by decide)]
    · rintro i s s' hi ⟨T, U, rfl, rfl, h1, h2, hT, hU, h62⟩
      simp only [u2_d]
      rw [if_neg (ngt 60 (b := 60) rfl (by omega) (by decide)), if_neg (ngt 60 (b := 60) rfl (by omega) (by decide)), L_around hsl (by omega) (by rw [h62]; exact hx), bB_s]
      obtain ⟨⟨v, U'⟩, h3, h4, hU'⟩ := L_safe (wi := wi) (f := f) (sp := sp) hsl (show i ≤ 60 by omega) e63 (fun a ha => (hg a ha).1) (fun a ha => (hg a ha).2.2) hU
      simp only at h4 hU'
      rw [h3, bB2_s, h4, nI_1]
      have hU2 := fM_t hU (fM1_f hU')
      have e2 : U' 0 36 = U 0 36 := hU'.2 36 (by decide)
      have e3 : U' 0 37 = U 0 37 := hU'.2 37 (by decide)
      unfold F7_found
      simp only [bL_d]
      rw [e3, ← h2]
      by_cases q : T 59 2 < mfN g i sl (2 * sl + 1)
      · rw [if_pos q, if_neg (Int32.not_le.mpr q)]
        refine r2_s ⟨_, _, rfl, rfl, ?_, ?_, fC_u (by unfold scC; omega) (fC_u (by unfold scC; omega) hT), fM_u (Or.inr ⟨rfl, by decide⟩) (fM_u (Or.inr ⟨rfl, by decide⟩) hU2), ?_⟩
        · simp only [sU_get, Nat.reduceEqDiff, reduceCtorEq, and_true, and_false, false_and, true_and, and_self, if_true, if_false, ite_self, Nat.reduceAdd, Nat.reduceMul, Nat.reduceSub, Nat.reduceLT, Nat.reduceLeDiff, not_true_eq_false, not_false_eq_true]
        · simp only [sU_get, Nat.reduceEqDiff, reduceCtorEq, and_true, and_false, false_and, true_and, and_self, if_true, if_false, ite_self, Nat.reduceAdd, Nat.reduceMul, Nat.reduceSub, Nat.reduceLT, Nat.reduceLeDiff, not_true_eq_false, not_false_eq_true]
        · rw [sU_ne (by decide), sU_ne (by decide)]; exact h62
      · rw [if_neg q, if_pos (Int32.not_lt.mp q)]
        exact r2_s ⟨_, _, rfl, rfl, by rw [e2]; exact h1, by rw [e3]; exact h2, hT, hU2, h62⟩
    · rintro s s' ⟨T, U, rfl, rfl, h1, h2, hT, hU, h62⟩
      simp only [u2_d]
      rw [if_pos (ylt 60 (b := 60) rfl (by decide) (by decide)), if_pos (ylt 60 (b := 60) rfl (by decide) (by decide))]
      exact r2_s ⟨h1, h2, hT, hU⟩
    · rintro T U hq
      simp only [u1_d]
      exact r2_s hq
theorem M_angle {Sc Sm : pS} (hR : (Rel gG) Sc Sm) (a1 a2 a3 a4 : Int32) : R2 (F11_angle Sc a1 a2 a3 a4) (F12_angle Sm a1 a2 a3 a4) (Ans gG) := by
  obtain ⟨ns, nt, nl, ng, rd, tn, hV, hW, -, hB, c4, c5, c6, c7, hE⟩ := Rel_V hR
  unfold F11_angle F12_angle
  simp only [wie, blow]
  by_cases h1 : isN a1 100
  · rw [for_t h1, if_neg n10]
    by_cases h3 : isN a2 ns
    · rw [cth_t c4 hW.1 h1 (isN_0 (by decide)) h3, if_neg n10, spe_t hV.2.2.1 hW.1 h3, if_neg n10]
      by_cases h2 : F12_isWind a3 = 0
      · rw [if_pos h2, if_pos h2]; exact r2_A hR
      · rw [if_neg h2, if_neg h2]
        by_cases h4 : F12_isIn a4 0 3 = 0
        · rw [if_pos h4, if_pos h4]; exact r2_A hR
        · rw [if_neg h4, if_neg h4]
          obtain ⟨f, hf, rfl⟩ := h1
          obtain ⟨sp, hs, rfl⟩ := h3
          obtain ⟨sl, hsl, esl⟩ := hW.2.2.2.2.2.2.2.2.2.2.2.2.2.2
          refine r2_F hR ?_
          simp only [bL_d]
          split
          · refine r2_B (L_findSafe (f := f) (wi := a3) (by omega) hs hV (by omega) esl) ?_
            rintro T U ⟨e1, e2, hT, hU⟩
            rw [e1, e2]
            split
            · exact r2_s ⟨rfl, hT, hU⟩
            · exact r2_s ⟨rfl, hT, hU⟩
          · refine r2_B (L_findAngle (f := f) (wi := a3) (by omega) hs hV) ?_
            rintro T U ⟨e1, e2, hT, hU⟩
            rw [e1, e2]
            split
            · exact r2_s ⟨rfl, hT, hU⟩
            · exact r2_s ⟨rfl, hT, hU⟩
    · rw [cth_f c4 hW.1 (fun q => h3 q.2.2), if_pos rfl, spe_f hV.2.2.1 hW.1 h3, if_pos rfl]; exact r2_A hR
  · rw [for_f h1, if_pos rfl, cth_f c4 hW.1 (fun q => h1 q.1), if_pos rfl]; exact r2_A hR

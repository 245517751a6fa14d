variable {gG : Nat → Int32}
/-! the law of arms, asked -/
def AF (A : Nat) (T U : pS) : Prop := ∀ n, n < 8 → T (A + 1) n = U 9 (10 + n)
theorem L_arm {A w : Nat} {T U : pS} (hA : A + 1 ≠ 21) (hl : LR 15 1 1 T U) (hn : T 15 0 = U 1 641) (hw : w < 3) (hf : AF A T U) : R2 (F0_tell T A 15 (nI w)) (F12_lawSays U 1 (nI (24 + w)) 0 1000) (fun p q => p.1 = q.1 ∧ isN p.1 1001 ∧ (∀ k, k ≠ 21 → p.2 k = T k) ∧ (∀ k, k ≠ 8 → q.2 k = U k)) := by
  have h := L_tell (K := 15) (k := 1) (k3 := A + 1) (n3 := 8) (w := w) (Sc := T) (Sm := U) (lo := 0) (hi := 1000) (by decide) hl hn (by omega) (fun n hn => hf n hn) (by decide) (by decide) hA (by decide) (by decide)
  obtain ⟨⟨v, T'⟩, ⟨v', U'⟩, h1, h2, h3, h4, h5⟩ := h
  unfold F0_tell
  rw [h1, bB2_s]
  have h2' : F12_lawSays U 1 (nI (24 + w)) 0 1000 = some (v', U') := h2
  rw [h2']
  simp only at h3
  refine r2_s ⟨?_, ?_, h4, h5⟩
  · show F11_hold v 0 1000 = v'
    rw [hol (by decide), h3]
  · show isN (F11_hold v 0 1000) 1001
    rw [hol (by decide)]
    exact held_N (n := 1000) rfl (by decide)
def af (S : pS) (t : Nat) (f p a w th : Int32) : pS := sU (sU (sU (sU (sU (sU (sU (sU S 9 10 f) 9 11 p) 9 12 a) 9 13 w) 9 14 (S 1 (4 + 7 * t))) 9 15 th) 9 16 (S 1 (6 + 7 * t) / 100)) 9 17 (S 1 0)
theorem armF {S : pS} {t : Nat} {f p a w th : Int32} (ht : t < 8) : F12_armFacts S (nI t) f p a w th = some (af S t f p a w th) := by
  unfold F12_armFacts af
  simp only [bL_d]
  rw [own0 _ ht, bB_s, own2 _ ht, bB_s]
  simp only [sU_get, Nat.reduceEqDiff, reduceCtorEq, and_true, and_false, false_and, true_and, and_self, if_true, if_false, ite_self, Nat.reduceAdd, Nat.reduceMul, Nat.reduceSub, Nat.reduceLT, Nat.reduceLeDiff, not_true_eq_false, not_false_eq_true]
theorem af_ne {S : pS} {t k : Nat} {f p a w th : Int32} (h : k ≠ 9) : af S t f p a w th k = S k := by
  unfold af
  rw [sU_ne h, sU_ne h, sU_ne h, sU_ne h, sU_ne h, sU_ne h, sU_ne h, sU_ne h]
def AV (A : Nat) (T : pS) (f p a w pw th b r : Int32) : Prop := T (A + 1) 0 = f ∧ T (A + 1) 1 = p ∧ T (A + 1) 2 = a ∧ T (A + 1) 3 = w ∧ T (A + 1) 4 = pw ∧ T (A + 1) 5 = th ∧ T (A + 1) 6 = b ∧ T (A + 1) 7 = r
theorem AF_of {A t : Nat} {T S : pS} {f p a w th : Int32} (h : AV A T f p a w (S 1 (4 + 7 * t)) th (S 1 (6 + 7 * t) / 100) (S 1 0)) : AF A T (af S t f p a w th) := by
  obtain ⟨h0, h1, h2, h3, h4, h5, h6, h7⟩ := h
  intro n hn
  have : n = 0 ∨ n = 1 ∨ n = 2 ∨ n = 3 ∨ n = 4 ∨ n = 5 ∨ n = 6 ∨ n = 7 := by omega
  unfold af
  simp only [sU_get]
  rcases this with rfl | rfl | rfl | rfl | rfl | rfl | rfl | rfl <;> simp only [Nat.reduceEqDiff, reduceCtorEq, and_true, and_false, false_and, true_and, and_self, if_true, if_false, ite_self, Nat.reduceAdd, Nat.reduceMul, Nat.reduceSub, Nat.reduceLT, Nat.reduceLeDiff, not_true_eq_false, not_false_eq_true] <;> assumption
theorem AF_c {A : Nat} {T U T' U' : pS} (h : AF A T U) (h1 : T' (A + 1) = T (A + 1)) (h2 : U' 9 = U 9) : AF A T' U' := fun n hn => by rw [h1, h2]; exact h n hn
theorem AV_ask {A o : Nat} {T : pS} {rd : Int32} (h : o ≠ A + 1) : AV A (F0_ask T A o rd) 0 0 0 (T o 1) (T o 0) (T o 3) (T o 2 / 100) rd := by
  unfold F0_ask F0_askThrow F0_askState F0_askBest
  simp only [bL_d]
  have e : ∀ x : pS, ∀ j v, sU x (A + 1) j v o = x o := fun x j v => sU_ne h
  simp only [e]
  refine ⟨?_, ?_, ?_, ?_, ?_, ?_, ?_, ?_⟩ <;> simp only [sU_get, Nat.reduceEqDiff, reduceCtorEq, and_true, and_false, false_and, true_and, and_self, if_true, if_false, ite_self, Nat.reduceAdd, Nat.reduceMul, Nat.reduceSub, Nat.reduceLT, Nat.reduceLeDiff, not_true_eq_false, not_false_eq_true]
theorem ask_ne {A o k : Nat} {T : pS} {rd : Int32} (h : k ≠ A + 1) : F0_ask T A o rd k = T k := by
  unfold F0_ask F0_askThrow F0_askState F0_askBest
  simp only [bL_d, sU_ne h]
theorem AV_thr {A : Nat} {T : pS} {f p a w pw th b r f' p' a' : Int32} (h : AV A T f p a w pw th b r) : AV A (F0_askThrow T A f' p' a') f' p' a' w pw th b r := by
  obtain ⟨h0, h1, h2, h3, h4, h5, h6, h7⟩ := h
  unfold F0_askThrow
  simp only [bL_d]
  refine ⟨?_, ?_, ?_, ?_, ?_, ?_, ?_, ?_⟩ <;> simp only [sU_get, Nat.reduceEqDiff, reduceCtorEq, and_true, and_false, false_and, true_and, and_self, if_true, if_false, ite_self, Nat.reduceAdd, Nat.reduceMul, Nat.reduceSub, Nat.reduceLT, Nat.reduceLeDiff, not_true_eq_false, not_false_eq_true] <;> assumption
theorem thr_ne {A k : Nat} {T : pS} {f p a : Int32} (h : k ≠ A + 1) : F0_askThrow T A f p a k = T k := by
  unfold F0_askThrow
  simp only [bL_d, sU_ne h]
theorem AV_st {A : Nat} {T : pS} {f p a w pw th b r w' th' : Int32} (h : AV A T f p a w pw th b r) : AV A (F0_askState T A w' th') f p a w' pw th' b r := by
  obtain ⟨h0, h1, h2, h3, h4, h5, h6, h7⟩ := h
  unfold F0_askState
  simp only [bL_d]
  refine ⟨?_, ?_, ?_, ?_, ?_, ?_, ?_, ?_⟩ <;> simp only [sU_get, Nat.reduceEqDiff, reduceCtorEq, and_true, and_false, false_and, true_and, and_self, if_true, if_false, ite_self, Nat.reduceAdd, Nat.reduceMul, Nat.reduceSub, Nat.reduceLT, Nat.reduceLeDiff, not_true_eq_false, not_false_eq_true] <;> assumption
theorem st_ne {A k : Nat} {T : pS} {w th : Int32} (h : k ≠ A + 1) : F0_askState T A w th k = T k := by
  unfold F0_askState
  simp only [bL_d, sU_ne h]
theorem AV_be {A : Nat} {T : pS} {f p a w pw th b r b' : Int32} (h : AV A T f p a w pw th b r) : AV A (F0_askBest T A b') f p a w pw th (b' / 100) r := by
  obtain ⟨h0, h1, h2, h3, h4, h5, h6, h7⟩ := h
  unfold F0_askBest
  simp only [bL_d]
  refine ⟨?_, ?_, ?_, ?_, ?_, ?_, ?_, ?_⟩ <;> simp only [sU_get, Nat.reduceEqDiff, reduceCtorEq, and_true, and_false, false_and, true_and, and_self, if_true, if_false, ite_self, Nat.reduceAdd, Nat.reduceMul, Nat.reduceSub, Nat.reduceLT, Nat.reduceLeDiff, not_true_eq_false, not_false_eq_true] <;> assumption
theorem be_ne {A k : Nat} {T : pS} {b : Int32} (h : k ≠ A + 1) : F0_askBest T A b k = T k := by
  unfold F0_askBest
  simp only [bL_d, sU_ne h]
theorem AV_c {A : Nat} {T T' : pS} {f p a w pw th b r : Int32} (h : AV A T f p a w pw th b r) (e : T' (A + 1) = T (A + 1)) : AV A T' f p a w pw th b r := by
  unfold AV at h ⊢
  rw [e]; exact h
theorem xnlt (m : Int32) {a b : Nat} (hm : m = nI b) (h : b ≤ a) (ha : a < 2 ^ 31) : ¬ nI a < m := by subst hm; exact nI_nlt h ha
/-- wear less, wear more -/
theorem wear_l {x y : Int32} (hx : isN x 1001) (hy : isN y 1001) : isN (jmax 0 (x - y)) 1001 := by
  obtain ⟨i, hi, rfl⟩ := hx
  obtain ⟨j, hj, rfl⟩ := hy
  unfold jmax
  by_cases h : j ≤ i
  · rw [pk_sub h]
    split
    · exact ⟨i - j, by omega, rfl⟩
    · exact isN_0 (by decide)
  · have := pk_sneg (a := i) (b := j) (by omega) (by omega)
    rw [if_neg (fun q => absurd (Int32.lt_trans q this) (by decide))]
    exact isN_0 (by decide)
theorem wear_m {x y : Int32} (hx : isN x 1001) (hy : isN y 1001) : isN (jmin 1000 (x + y)) 1001 := by
  obtain ⟨i, hi, rfl⟩ := hx
  obtain ⟨j, hj, rfl⟩ := hy
  unfold jmin
  rw [nI_add]
  by_cases h : i + j < 1000
  · rw [if_pos (xlt 1000 (b := 1000) rfl h (by decide))]; exact ⟨i + j, by omega, rfl⟩
  · rw [if_neg (xnlt 1000 (b := 1000) rfl (by omega) (by omega))]; exact ⟨1000, by decide, rfl⟩
theorem M_rests {Sc Sm : pS} (hR : (Rel gG) Sc Sm) (a1 a2 : Int32) : R2 (F11_rests Sc a1 a2) (F12_rests Sm a1 a2) (Ans gG) := by
  obtain ⟨ns, nt, nl, ng, rd, tn, hV, hW, hT, hB, c4, c5, c6, c7, hE⟩ := Rel_V hR
  have hnt := hW.2.1
  unfold F11_rests F12_rests
  simp only [wie]
  by_cases h1 : isN a1 nt
  · rw [thr_t hW.2.2.2.2.2.2.2.1 hnt h1, if_neg n10]
    obtain ⟨t, ht, rfl⟩ := h1
    have ht8 : t < 8 := by omega
    rw [one_t c5 hnt ht, bB_s, bO_1]
    by_cases h2 : F12_isIn a2 0 1000 = 0
    · rw [if_pos h2, if_pos h2]; exact r2_A hR
    · rw [if_neg h2, if_neg h2]
      refine r2_F hR ?_
      simp only [bL_d]
      rw [own1 _ ht8, bB_s, ask_ne (show 29 + 2 * t ≠ 63 + 1 by omega), RE_t1 hE ht8]
      have hAV : AV 63 (F0_ask Sc 63 (29 + 2 * t) (Sc 1 2)) 0 0 0 (Sm 1 (5 + 7 * t)) (Sm 1 (4 + 7 * t)) (Sm 1 (7 + 7 * t)) (Sm 1 (6 + 7 * t) / 100) (Sm 1 0) := by
        have := AV_ask (A := 63) (o := 29 + 2 * t) (T := Sc) (rd := Sc 1 2) (by omega)
        rw [RE_t0 hE ht8, RE_t1 hE ht8, RE_t2 hE ht8, RE_t3 hE ht8, hE 0 1 2 rfl] at this
        rw [hE 0 1 2 rfl]
        exact this
      have hfa : fC Sc (F0_ask Sc 63 (29 + 2 * t) (Sc 1 2)) := fun k hk => ask_ne (by unfold scC at hk; omega)
      generalize F0_ask Sc 63 (29 + 2 * t) (Sc 1 2) = T0 at hAV hfa ⊢
      have hw0 := (hT t ht).2.1
      have step : ∀ (w : Int32) (i : Nat) (T U : pS) (x y : Int32), i ≤ 400 → fC Sc T → fM Sm U → isN w 1001 → AV 63 T 0 0 0 x (Sm 1 (4 + 7 * t)) y (Sm 1 (6 + 7 * t) / 100) (Sm 1 0) → ∃ (r : Int32) (T' U' : pS), F0_tell (F0_askState T 63 w (T (29 + 2 * t) 3)) 63 15 2 = some (r, T') ∧ (bB (F12_own U (nI t) 3) fun q => bB (F12_armFacts U (nI t) 0 0 0 w q) fun V => F12_lawSays V 1 26 0 1000) = some (r, U') ∧ fC Sc T' ∧ fM Sm U' ∧ isN (jmax 0 (w - r)) 1001 ∧ ∃ x y, AV 63 T' 0 0 0 x (Sm 1 (4 + 7 * t)) y (Sm 1 (6 + 7 * t) / 100) (Sm 1 0) := by
        intro w i T U x y hi hT hU hw hA
        have e3 : T (29 + 2 * t) 3 = U 1 (7 + 7 * t) := by
          rw [hT _ (by unfold scC; omega), hU.1 1 (by decide) (by unfold scM; omega)]; exact RE_t3 hE ht8
        have u1 : U 1 = Sm 1 := hU.1 1 (by decide) (by unfold scM; omega)
        have hT2 : fC Sc (F0_askState T 63 w (U 1 (7 + 7 * t))) := fun k hk => by rw [st_ne (by unfold scC at hk; omega)]; exact hT k hk
        have hU2 : fM Sm (af U t 0 0 0 w (U 1 (7 + 7 * t))) := ⟨fun k h0 hk => by rw [af_ne (by unfold scM at hk; omega)]; exact hU.1 k h0 hk, fun j hj => by rw [af_ne (by decide)]; exact hU.2 j hj⟩
        have hV2 := VR_fr hV hT2 hU2
        have hAF : AF 63 (F0_askState T 63 w (U 1 (7 + 7 * t))) (af U t 0 0 0 w (U 1 (7 + 7 * t))) := AF_of (by rw [u1]; exact AV_st hA)
        obtain ⟨⟨r, T'⟩, ⟨r', U'⟩, k1, k2, k3, k4, k5, k6⟩ := L_arm (w := 2) (by decide) hV2.2.2.2.2.1 (by have := hV2.2.1 641 15 0 rfl (by decide); exact this) (by decide) hAF
        simp only at k3 k4 k5 k6
        subst k3
        refine ⟨r, T', U', by rw [e3]; exact k1, by rw [own3 _ ht8, bB_s, armF ht8, bB_s]; exact k2, fun k hk => by rw [k5 k (by unfold scC at hk; omega)]; exact hT2 k hk, ⟨fun k h0 hk => by rw [k6 k (by unfold scM at hk; omega)]; exact hU2.1 k h0 hk, fun j hj => by rw [k6 0 (by decide)]; exact hU2.2 j hj⟩, wear_l hw k4, _, _, AV_c (AV_st hA) (k5 64 (by decide))⟩
      refine r2_w ?_
      refine r2_B (P := fun z z' => ∃ (w : Int32) (d : Nat) (T U : pS), fC Sc T ∧ fM Sm U ∧ z = (w, nI d, U) ∧ ((z' = .inl T ∧ ¬ w ≤ a2) ∨ (z' = .inr (nI d, T) ∧ w ≤ a2))) (r2_Q 400 (fun i s s' => ∃ (w : Int32) (T U : pS), s = (w, nI i, U) ∧ s' = (w, nI i, T) ∧ fC Sc T ∧ fM Sm U ∧ isN w 1001 ∧ ∃ x y, AV 63 T 0 0 0 x (Sm 1 (4 + 7 * t)) y (Sm 1 (6 + 7 * t) / 100) (Sm 1 0)) ?_ ?_ ?_) ?_
      · exact ⟨_, T0, Sm, rfl, rfl, hfa, fM_r _, hw0, _, _, hAV⟩
      · rintro i s s' hi ⟨w, T, U, rfl, rfl, hT, hU, hw, x, y, hA⟩
        by_cases hwv : w ≤ a2
        · refine Or.inr ⟨(w, nI i, U), ?_, (.inr (nI i, T)), bP_r ?_, w, i, T, U, hT, hU, rfl, Or.inr ⟨rfl, hwv⟩⟩
          · simp only [u3_d]
            rw [if_pos hwv]
          · simp only [u3_d]
            rw [if_neg (ngt 400 (b := 400) rfl (by omega) (by decide)), if_neg (Int32.not_lt.mpr hwv)]
        · obtain ⟨r, T', U', k1, k2, k3, k4, k5, x', y', k6⟩ := step w i T U x y (by omega) hT hU hw hA
          refine Or.inl ⟨(jmax 0 (w - r), nI (i + 1), U'), (jmax 0 (w - r), nI (i + 1), T'), ?_, ?_, _, T', U', rfl, rfl, k3, k4, k5, x', y', k6⟩
          · simp only [u3_d]
            rw [if_neg hwv, if_neg (nge 400 (b := 400) rfl hi (by decide))]
            cases e1 : F12_own U (nI t) 3 with
            | none => rw [e1] at k2; cases k2
            | some q =>
              rw [e1, bB_s] at k2
              rw [bB_s]
              cases e2 : F12_armFacts U (nI t) 0 0 0 w q with
              | none => rw [e2] at k2; cases k2
              | some V =>
                rw [e2, bB_s] at k2
                rw [bB_s, k2, bB2_s, gre, nI_1]
          · simp only [u3_d]
            rw [if_neg (ngt 400 (b := 400) rfl (by omega) (by decide)), if_pos (Int32.not_le.mp hwv), k1, bB2_s, nI_1]
      · rintro s s' ⟨w, T, U, rfl, rfl, hT, hU, hw, x, y, hA⟩
        refine ⟨(w, nI 400, U), ?_, ?_⟩
        · simp only [u3_d]
          rw [if_pos (show (400 : Int32) ≤ nI 400 by decide), ite_self]
        · by_cases hwv : w ≤ a2
          · refine ⟨(.inr (nI 400, T)), bP_r ?_, w, 400, T, U, hT, hU, rfl, Or.inr ⟨rfl, hwv⟩⟩
            simp only [u3_d]
            rw [if_neg (by decide), if_neg (Int32.not_lt.mpr hwv)]
          · obtain ⟨r, T', U', k1, k2, k3, k4, k5, x', y', k6⟩ := step w 400 T U x y (by omega) hT hU hw hA
            refine ⟨.inl T', ?_, w, 400, T', U, k3, hU, rfl, Or.inl ⟨rfl, hwv⟩⟩
            rw [bP_u (t := (jmax 0 (w - r), nI 401, T')) (by
              simp only [u3_d]
              rw [if_neg (by decide), if_pos (Int32.not_le.mp hwv), k1, bB2_s]; rfl)]
            refine bP_r ?_
            simp only [u3_d]
            rw [if_pos (by decide)]
      · rintro z z' ⟨w, d, T, U, hT, hU, rfl, ⟨rfl, hw⟩ | ⟨rfl, hw⟩⟩
        · simp only [bL_d, bB_s, bB2_s, bT2_s, bO_0, bO_1, u1_d, u2_d, u3_d, u4_d, u6_d, Sum.elim_inl, Sum.elim_inr]
          rw [if_neg hw]
          exact r2_s ⟨rfl, hT, hU⟩
        · simp only [bL_d, bB_s, bB2_s, bT2_s, bO_0, bO_1, u1_d, u2_d, u3_d, u4_d, u6_d, Sum.elim_inl, Sum.elim_inr]
          rw [if_pos hw]
          exact r2_s ⟨rfl, hT, hU⟩
  · rw [thr_f hW.2.2.2.2.2.2.2.1 hnt h1, if_pos rfl, one_f c5 hnt h1, bB_s, bO_0]; exact r2_A hR

variable {gG : Nat → Int32}
theorem u2_n {α₁ α₂ β : Type _} (f : α₁ → α₂ → β) (a : α₁) (b : α₂) : u2 f (a, b) = f a b := Eq.trans (Eq.refl _) (Eq.refl _)
theorem upTo_d {pw : Nat} (h : pw < 100) : F1_upTo (nI pw) = some (nI (cntF pw)) := by
  have hcnt : cntF pw ≤ 10 ∧ pw < 54 + 5 * cntF pw := by unfold cntF; split <;> omega
  have key : Ok (F1_upTo (nI pw)) (fun x => x = nI (cntF pw)) := by
    unfold F1_upTo F1_choice
    simp only [bL_d]
    refine ok_B (P := fun x => x = nI (cntF pw)) (ok_P (cntF pw) (fun i s => s = nI i) rfl ?_ ?_) (fun x hx => ok_s hx)
    · rintro i s hi rfl
      have hi9 : i < 10 ∧ 54 + 5 * i ≤ pw := by unfold cntF at hi; split at hi <;> omega
      rw [u1_d, if_neg (nge 10 (b := 10) rfl hi9.1 (by decide)), if_neg (by
        rw [show (54 : Int32) = nI 54 from rfl, show (5 : Int32) = nI 5 from rfl, pk_mul, nI_add]
        exact nI_nlt hi9.2 (by omega)), nI_1]
      exact ok_s rfl
    · rintro s rfl
      rw [u1_d]
      by_cases h10 : cntF pw = 10
      · rw [h10, if_pos (by decide)]
        exact ok_s rfl
      · rw [if_neg (nge 10 (b := 10) rfl (by omega) (by decide)), if_pos (by
          rw [show (54 : Int32) = nI 54 from rfl, show (5 : Int32) = nI 5 from rfl, pk_mul, nI_add]
          exact nI_lt hcnt.2 (by omega))]
        exact ok_s rfl
  obtain ⟨x, h1, rfl⟩ := key
  exact h1
theorem L_fill {T : pS} {k n : Nat} {v : Int32} (hn : n < 2 ^ 31) : Ok (FJ7_fill_53178 T k n v) (fun T' => (∀ j, j < n → T' k j = v) ∧ ∀ k', k' ≠ k → T' k' = T k') := by
  unfold FJ7_fill_53178
  simp only [bL_d]
  refine ok_B (P := fun (T' : pS) => (∀ j, j < n → T' k j = v) ∧ ∀ k', k' ≠ k → T' k' = T k') (ok_P n (fun i s => ∃ T', s = (nI i, T') ∧ (∀ j, j < i → T' k j = v) ∧ ∀ k', k' ≠ k → T' k' = T k') ?_ ?_ ?_) (fun x hx => ok_s hx)
  · exact ⟨T, rfl, fun j hj => absurd hj (Nat.not_lt_zero _), fun _ _ => rfl⟩
  · rintro i s hi ⟨T', rfl, h1, h2⟩
    rw [u2_d, if_neg (nI_ge hi hn), bG_t (vp_in_nI hi hn), nI_clamp (by omega), nI_1]
    refine ok_s ⟨_, rfl, fun j hj => ?_, fun k' hk => by rw [sU_ne hk]; exact h2 k' hk⟩
    rw [sU_get]
    by_cases e : j = i
    · rw [if_pos ⟨rfl, e⟩]
    · rw [if_neg (by omega)]; exact h1 j (by omega)
  · rintro s ⟨T', rfl, hq⟩
    rw [u2_d, if_pos (nI_le (Nat.le_refl _) hn)]
    exact ok_s hq
/-- the class weighs, the reference asks its rows -/
theorem L_weigh {ns t A a pw w : Nat} {Sc Sm T U : pS} (hV : VR ns Sc Sm) (hE : RE 1 1 Sc Sm) (ht : t < 8) (hA : A ≤ 6) (hpw : pw < 100) (e4 : Sm 1 (4 + 7 * t) = nI pw) (hw : w < 1001) (e5 : Sm 1 (5 + 7 * t) = nI w) (hT : fC Sc T) (hU : fM Sm U) (hr : ∀ c, c < 10 → T 120 c = U 16 c ∧ (U 16 c = 0 ∨ U 16 c = 1)) (hm : U 14 (1001 * A + w) = -1) (hm' : ∀ i, i < 7007 → U 14 i = -1) :
    R2 (F1_weigh T 119 1 (29 + 2 * t) (nI A) (nI a)) (T12_chanceBy 40 U (nI t) (nI A) (nI A) (nI w) (nI a)) (fun T' q => T' 119 1 = q.1 ∧ (q.1 = 0 → T' 119 2 = 0) ∧ (¬ q.1 = 0 → T' 119 2 = q.2 15 (1001 * A + w)) ∧ fC Sc T' ∧ fM Sm q.2) := by
  have hcnt : cntF pw ≤ 10 ∧ pw < 54 + 5 * cntF pw := by unfold cntF; split <;> omega
  unfold F1_weigh
  rw [bG_t (by decide)]
  simp only [bL_d, Nat.reduceAdd]
  have ho : ∀ k j v, 119 ≤ k → sU T k j v (29 + 2 * t) = T (29 + 2 * t) := fun k j v hk => sU_ne (by omega)
  have hTo : T (29 + 2 * t) = Sc (29 + 2 * t) := hT _ (by unfold scC; omega)
  rw [sU_ne (show 29 + 2 * t ≠ 119 by omega), sU_ne (show 29 + 2 * t ≠ 119 by omega), hTo, RE_t0 hE ht, e4, upTo_d hpw, bB_s, sU_ne (show 29 + 2 * t ≠ 119 by omega), sU_ne (show 29 + 2 * t ≠ 119 by omega), sU_ne (show 29 + 2 * t ≠ 119 by omega), hTo, RE_t3 hE ht]
  let T0 : pS := sU (sU (sU (sU T 119 5 (nI 15)) 119 6 (nI a)) 119 7 (nI (cntF pw))) 119 8 (Sm 1 (7 + 7 * t) + nI A)
  have T0k : ∀ k, k ≠ 119 → T0 k = T k := fun k hk => by
    show sU (sU (sU (sU T 119 5 _) 119 6 _) 119 7 _) 119 8 _ k = _
    rw [sU_ne hk, sU_ne hk, sU_ne hk, sU_ne hk]
  rw [show sU (sU (sU (sU T 119 5 (nI 15)) 119 6 (nI a)) 119 7 (nI (cntF pw))) 119 8 (Sm 1 (7 + 7 * t) + nI A) = T0 from rfl]
  have f5 : T0 119 5 = nI 15 := by
    show sU (sU (sU (sU T 119 5 _) 119 6 _) 119 7 _) 119 8 _ 119 5 = _
    simp only [sU_get, Nat.reduceEqDiff, reduceCtorEq, and_true, and_false, false_and, true_and, and_self, if_true, if_false, ite_self, Nat.reduceAdd, Nat.reduceMul, Nat.reduceSub, Nat.reduceLT, Nat.reduceLeDiff, not_true_eq_false, not_false_eq_true]
  have f6 : T0 119 6 = nI a := by
    show sU (sU (sU (sU T 119 5 _) 119 6 _) 119 7 _) 119 8 _ 119 6 = _
    simp only [sU_get, Nat.reduceEqDiff, reduceCtorEq, and_true, and_false, false_and, true_and, and_self, if_true, if_false, ite_self, Nat.reduceAdd, Nat.reduceMul, Nat.reduceSub, Nat.reduceLT, Nat.reduceLeDiff, not_true_eq_false, not_false_eq_true]
  have f7 : T0 119 7 = nI (cntF pw) := by
    show sU (sU (sU (sU T 119 5 _) 119 6 _) 119 7 _) 119 8 _ 119 7 = _
    simp only [sU_get, Nat.reduceEqDiff, reduceCtorEq, and_true, and_false, false_and, true_and, and_self, if_true, if_false, ite_self, Nat.reduceAdd, Nat.reduceMul, Nat.reduceSub, Nat.reduceLT, Nat.reduceLeDiff, not_true_eq_false, not_false_eq_true]
  have f8 : T0 119 8 = Sm 1 (7 + 7 * t) + nI A := sU_s _ _ _ _
  generalize T0 = T0 at *
  let T1 := F0_ask T0 121 (29 + 2 * t) (T0 1 2)
  have T1k : ∀ k, k ≠ 122 → T1 k = T0 k := fun k hk => ask_ne hk
  have hA1 : AV 121 T1 0 0 0 (Sm 1 (5 + 7 * t)) (Sm 1 (4 + 7 * t)) (Sm 1 (7 + 7 * t)) (Sm 1 (6 + 7 * t) / 100) (Sm 1 0) := by
    have := AV_ask (A := 121) (o := 29 + 2 * t) (T := T0) (rd := T0 1 2) (by omega)
    rw [T0k (29 + 2 * t) (by omega), hTo, T0k 1 (by decide), hT 1 (by unfold scC; omega), RE_t0 hE ht, RE_t1 hE ht, RE_t2 hE ht, RE_t3 hE ht, hE 0 1 2 rfl] at this
    have h12 : T0 1 2 = Sm 1 0 := by rw [T0k 1 (by decide), hT 1 (by unfold scC; omega), hE 0 1 2 rfl]
    show AV 121 (F0_ask T0 121 (29 + 2 * t) (T0 1 2)) _ _ _ _ _ _ _ _
    rw [h12]
    exact this
  rw [show F0_ask T0 121 (29 + 2 * t) (T0 1 2) = T1 from rfl]
  generalize T1 = T1 at *
  -- its rows are emptied
  refine r2_lB (P := fun (T' : pS) => (∀ n w, n ≤ A → w < 1000 → T' (124 + n) w = -1) ∧ ∀ k, (k < 124 ∨ 131 ≤ k) → T' k = T1 k) (ok_P (A + 1) (fun i s => ∃ T' : pS, s = (nI i, T') ∧ (∀ n w, n < i → w < 1000 → T' (124 + n) w = -1) ∧ ∀ k, (k < 124 ∨ 131 ≤ k) → T' k = T1 k) ?_ ?_ ?_) ?_
  · exact ⟨T1, rfl, fun n w h => absurd h (Nat.not_lt_zero _), fun _ _ => rfl⟩
  · rintro i s hi ⟨T', rfl, h1, h2⟩
    rw [u2_d, if_neg (nI_nlt (by omega) (by omega)), if_neg (nge 7 (b := 7) rfl (by omega) (by decide)), bG_t (vp_in_nI (by omega) (by omega)), nI_clamp (by omega)]
    refine ok_B (L_fill (by decide)) ?_
    rintro T'' ⟨g1, g2⟩
    rw [nI_1]
    refine ok_s ⟨T'', rfl, fun n w hn hw => ?_, fun k hk => by rw [g2 k (by omega)]; exact h2 k hk⟩
    by_cases e : n = i
    · subst e
      exact g1 w hw
    · rw [g2 _ (by omega)]; exact h1 n w (by omega) hw
  · rintro s ⟨T', rfl, h1, h2⟩
    rw [u2_d, if_pos (nI_lt (by omega) (by omega))]
    exact ok_s ⟨fun n w hn hw => h1 n w (by omega) hw, h2⟩
  rintro T2 ⟨z1, z2⟩
  rw [u1_d]
  have T2k : ∀ k, (k < 124 ∨ 131 ≤ k) → k ≠ 122 → k ≠ 119 → T2 k = T k := fun k a1 a2 a3 => by rw [z2 k a1, T1k k a2, T0k k a3]
  have T2f : ∀ j, T2 119 j = T0 119 j := fun j => by rw [z2 119 (by omega), T1k 119 (by decide)]
  have hCR : CR (T2 119) t A a (cntF pw) Sc Sm T2 U := by
    refine ⟨⟨fun k hk => ?_, rfl⟩, hU, by rw [T2f]; exact f5, by rw [T2f]; exact f6, by rw [T2f]; exact f7, by rw [T2f]; exact f8, fun c hc => by rw [T2k 120 (by omega) (by decide) (by decide)]; exact hr c hc, ⟨_, _, _, _, _, AV_c hA1 (z2 122 (by omega))⟩, fun n v a1 a2 a3 => by rw [z1 n v (by omega) a3, hm' _ (by omega)]⟩
    unfold scC at hk
    rw [T2k k (by omega) (by omega) (by omega)]
    exact hT k (by unfold scC; omega)
  have hCR2 := CR_1 (v := 0) (j := 2) (CR_1 (v := 0) (j := 1) hCR (by decide)) (by decide)
  let T3 : pS := sU (sU T2 119 1 0) 119 2 0
  have g1 : T3 119 1 = 0 := by
    show sU (sU T2 119 1 0) 119 2 0 119 1 = 0
    rw [sU_n (by decide), sU_s]
  have g2 : T3 119 2 = 0 := sU_s _ _ _ _
  have hex : ∃ R, CR R t A a (cntF pw) Sc Sm T3 U := ⟨_, hCR2⟩
  rw [show sU (sU T2 119 1 0) 119 2 0 = T3 from rfl]
  generalize T3 = T3 at *
  obtain ⟨R, hCR3⟩ := hex
  have ew : ∀ T' : pS, fC Sc T' → T' (29 + 2 * t) 1 = nI w := fun T' h => by rw [h _ (by unfold scC; omega), RE_t1 hE ht, e5]
  rw [T12_e]
  unfold B12_chanceBy
  have stop : A = 0 ∨ w = 1000 → R2 (bB (bP (u2 fun (l5_11 : Int32) (S_12 : pS) =>
      if (S_12 119 7) ≤ l5_11 then
        some (.inr S_12)
      else
        if nI A ≤ 0 then
          some (.inr S_12)
        else
          if 1000 ≤ (S_12 (29 + 2 * t) 1) then
            some (.inr S_12)
          else
            bB2 (F1_by S_12 119 l5_11 (nI A) (S_12 (29 + 2 * t) 1)) fun r_14 S_15 =>
            if r_14 ≤ (S_15 119 1) then
              some (.inl (l5_11 + 1, S_15))
            else
              some (.inl (l5_11 + 1, sU (sU S_15 119 1 r_14) 119 2 (F1_choice l5_11)))) (0, T3)) (u1 fun S_10 => some S_10)) (some ((0 : Int32), U)) (fun T' q => T' 119 1 = q.1 ∧ (q.1 = 0 → T' 119 2 = 0) ∧ (¬ q.1 = 0 → T' 119 2 = q.2 15 (1001 * A + w)) ∧ fC Sc T' ∧ fM Sm q.2) := by
    intro hs
    rw [bP_r (r := T3), bB_s, u1_d]
    · exact r2_s ⟨g1, fun _ => g2, fun q => absurd rfl q, hCR3.1.1, hU⟩
    · rw [u2_d]
      by_cases q : T3 119 7 ≤ 0
      · rw [if_pos q]
      · rw [if_neg q]
        rcases hs with hs | hs
        · subst hs; rw [if_pos (by decide)]
        · subst hs; rw [ew T3 hCR3.1.1, if_pos (show (1000 : Int32) ≤ nI 1000 by decide)]
          split <;> rfl
  by_cases hA0 : A = 0
  · rw [if_pos (show nI A = 0 by rw [hA0]; rfl)]
    exact stop (Or.inl hA0)
  · rw [if_neg (show ¬ nI A = 0 from nI_ne0 (by omega) (by omega))]
    by_cases hw1 : w = 1000
    · rw [if_pos (show nI w = 1000 by rw [hw1]; rfl)]
      exact stop (Or.inr hw1)
    · rw [if_neg (show ¬ nI w = 1000 from fun q => hw1 (nI_inj (b := 1000) q (by omega) (by decide)))]
      simp only [bL_n]
      rw [show (1001 : Int32) * nI A + nI w = nI (1001 * A + w) by rw [show (1001 : Int32) = nI 1001 from rfl, pk_mul, nI_add], bG_t (vp_in_nI (n := 1001 * A + w) (by omega) (by decide)), nI_clamp (n := 1001 * A + w) (by omega), if_pos hm]
      refine r2_B (P := fun (T' : pS) (q : Int32 × Int32 × pS) => T' 119 1 = q.1 ∧ T' 119 2 = q.2.1 ∧ (q.1 = 0 → q.2.1 = 0) ∧ fC Sc T' ∧ fM Sm q.2.2) (r2_P (cntF pw) (fun i s s' => ∃ (v f : Int32) (T U : pS), s = (nI i, T) ∧ s' = (v, f, nI (54 + 5 * i), U) ∧ 0 ≤ v ∧ (v = 0 → f = 0) ∧ T 119 1 = v ∧ T 119 2 = f ∧ ∃ R, CR R t A a (cntF pw) Sc Sm T U) ?_ ?_ ?_) ?_
      · exact ⟨0, 0, T3, U, rfl, rfl, by decide, fun _ => rfl, g1, g2, R, hCR3⟩
      · rintro i s s' hi ⟨v, f, T, U, rfl, rfl, hv, hvf, hv1, hf2, R, h⟩
        have hi9 : i < 10 ∧ 54 + 5 * i ≤ pw := by unfold cntF at hi; split at hi <;> omega
        have u1 : U 1 = Sm 1 := h.2.1.1 1 (by decide) (by unfold scM; omega)
        have e7 : U 1 (7 + 7 * t) = Sm 1 (7 + 7 * t) := by rw [u1]
        simp only [u2_n, u4_n]
        rw [h.2.2.2.2.1, if_neg (nI_ge hi (by omega)), if_neg (nI_nle (by omega) (by omega)), ew T h.1.1, if_neg (nge 1000 (b := 1000) rfl (by omega) (by decide)), own0 _ ht, bB_s, u1, e4, if_neg (by
          rw [les, show (99 : Int32) = nI 99 from rfl]
          unfold jmin
          by_cases hq : pw < 99
          · rw [if_pos (nI_lt hq (by omega))]
            exact nI_nlt (by omega) (by omega)
          rw [if_neg (nI_nlt (by omega) (by omega))]
          exact nI_nlt (by omega) (by omega)), own3 _ ht, bB_s, e7]
        have hs := L_step (Q := (sumR (fun (s : Int32 × pS) (s' : Int32 × Int32 × Int32 × pS) => ∃ (v f : Int32) (T U : pS), s = (nI (i + 1), T) ∧ s' = (v, f, nI (54 + 5 * (i + 1)), U) ∧ 0 ≤ v ∧ (v = 0 → f = 0) ∧ T 119 1 = v ∧ T 119 2 = f ∧ ∃ R, CR R t A a (cntF pw) Sc Sm T U) (fun (T' : pS) (q : Int32 × Int32 × pS) => T' 119 1 = q.1 ∧ T' 119 2 = q.2.1 ∧ (q.1 = 0 → q.2.1 = 0) ∧ fC Sc T' ∧ fM Sm q.2.2))) (n := A) (c := i) (w := nI w) (rc := (T1_greatest 39).1) (rc' := T12_chanceBy 39) (f := fun r_14 S_15 => if r_14 ≤ (S_15 119 1) then some (.inl (nI i + 1, S_15)) else some (.inl (nI i + 1, sU (sU S_15 119 1 r_14) 119 2 (F1_choice (nI i))))) (g := fun x S_22 => if v < x then some (.inl (x, nI (54 + 5 * i), nI (54 + 5 * i) + 5, S_22)) else some (.inl (v, f, nI (54 + 5 * i) + 5, S_22))) hV ht hA (by omega) hi9.1 h ⟨w, hw, rfl⟩
            (fun T' U' w' h' hw' => L_gre hV ht hA hpw e4 (A - 1) 39 39 T' U' w' (by omega) (by omega) (by omega) h' hw')
            (fun x T' U' h' => by
              have e5 : nI (54 + 5 * i) + 5 = nI (54 + 5 * (i + 1)) := by
                rw [show (5 : Int32) = nI 5 from rfl, nI_add, show 54 + 5 * i + 5 = 54 + 5 * (i + 1) by omega]
              have q1 : T' 119 1 = v := by rw [h'.1.2, ← hv1, h.1.2]
              have q2 : T' 119 2 = f := by rw [h'.1.2, ← hf2, h.1.2]
              show R2 (if x ≤ (T' 119 1) then some (Sum.inl (nI i + 1, T')) else some (Sum.inl (nI i + 1, sU (sU T' 119 1 x) 119 2 (F1_choice (nI i))))) (if v < x then some (Sum.inl (x, nI (54 + 5 * i), nI (54 + 5 * i) + 5, U')) else some (Sum.inl (v, f, nI (54 + 5 * i) + 5, U'))) _
              rw [e5, nI_1, q1]
              by_cases hvx : v < x
              · rw [if_pos hvx, if_neg (Int32.not_le.mpr hvx)]
                refine r2_s ⟨x, nI (54 + 5 * i), _, U', rfl, rfl, ?_, ?_, ?_, ?_, _, CR_1 (CR_1 h' (by decide)) (by decide)⟩
                · exact Int32.le_of_lt (Int32.lt_of_le_of_lt hv hvx)
                · intro q
                  rw [q] at hvx
                  exact absurd (Int32.lt_of_le_of_lt hv hvx) (by decide)
                · rw [sU_n (by decide), sU_s]
                · rw [sU_s]
                  unfold F1_choice
                  rw [show (54 : Int32) = nI 54 from rfl, show (5 : Int32) = nI 5 from rfl, pk_mul, nI_add]
              · rw [if_neg hvx, if_pos (Int32.not_lt.mp hvx)]
                exact r2_s ⟨v, f, T', U', rfl, rfl, hv, hvf, q1, q2, R, h'⟩)
        exact hs
      · rintro s s' ⟨v, f, T, U, rfl, rfl, hv, hvf, hv1, hf2, R, h⟩
        have u1 : U 1 = Sm 1 := h.2.1.1 1 (by decide) (by unfold scM; omega)
        simp only [u2_n, u4_n]
        rw [h.2.2.2.2.1, if_pos (nI_le (Nat.le_refl _) (by omega)), own0 _ ht, bB_s, u1, e4, if_pos (by
          rw [les, show (99 : Int32) = nI 99 from rfl]
          unfold jmin
          by_cases hq : pw < 99
          · rw [if_pos (nI_lt hq (by omega))]
            exact nI_lt (by omega) (by omega)
          rw [if_neg (nI_nlt (by omega) (by omega))]
          exact nI_lt (by omega) (by omega))]
        exact r2_s ⟨hv1, hf2, hvf, h.1.1, h.2.1⟩
      · rintro T' ⟨x, y, U'⟩ ⟨k1, k2, k3, k4, k5⟩
        simp only at k1 k2 k3 k5
        simp only [u1_d, u3_d]
        rw [bG_t (vp_in_nI (by omega) (by decide)), bG_t (vp_in_nI (by omega) (by decide))]
        refine r2_s ⟨k1, fun q => ?_, fun q => ?_, k4, ⟨fun k a1 a2 => ?_, fun j hj => ?_⟩⟩
        · rw [k2]; exact k3 q
        · show T' 119 2 = sU (sU U' 14 _ _) 15 _ _ 15 _
          rw [sU_s]; exact k2
        · show sU (sU U' 14 _ _) 15 _ _ k = _
          rw [sU_ne (fun q => a2 (by unfold scM; omega)), sU_ne (fun q => a2 (by unfold scM; omega))]
          exact k5.1 k a1 a2
        · exact (congrFun (show sU (sU U' 14 (1001 * A + w) x) 15 (1001 * A + w) y 0 = U' 0 by rw [sU_ne (by decide), sU_ne (by decide)]) j).trans (k5.2 j hj)
theorem bB_u {α : Type} (x : Option α) : bB x (u1 fun a => some a) = x := by
  cases x <;> rfl
theorem M_chance {Sc Sm : pS} (hR : (Rel gG) Sc Sm) (h06 : Sc 0 6 = 119) (a1 a2 a3 a4 a5 a6 : Int32) : R2 (F11_chance Sc a1 a2 a3 a4 a5 a6) (F12_chance Sm a1 a2 a3 a4 a5 a6) (Ans gG) := by
  obtain ⟨ns, nt, nl, ng, rd, tn, hV, hW, hT, hB, c4, c5, c6, c7, hE⟩ := Rel_V hR
  have hnt := hW.2.1
  unfold F11_chance F12_chance
  simp only [wie]
  by_cases h1 : ¬ isN a1 nt
  · rw [thr_f hW.2.2.2.2.2.2.2.1 hnt h1, if_pos rfl, one_f c5 hnt h1, bB_s, bO_0]; exact r2_A hR
  have h1' := Classical.not_not.mp h1
  clear h1
  rw [thr_t hW.2.2.2.2.2.2.2.1 hnt h1', if_neg n10]
  obtain ⟨t, ht, rfl⟩ := h1'
  have ht8 : t < 8 := by omega
  rw [one_t c5 hnt ht, bB_s, bO_1]
  by_cases h3 : F12_isIn a3 0 6 = 0
  · rw [if_pos h3, if_pos h3]; exact r2_A hR
  rw [if_neg h3, if_neg h3]
  have h3' : isN a3 7 := by
    by_cases q : isN a3 7
    · exact q
    · exact absurd (in_f (m := 6) (n := 6) rfl (by decide) q) h3
  obtain ⟨A, hA, rfl⟩ := h3'
  by_cases h4 : ¬ isN a4 61
  · rw [in_f (m := 60) (n := 60) rfl (by decide) h4, if_pos rfl, cth_f c4 hW.1 (fun q => h4 q.2.1), if_pos rfl]; exact r2_A hR
  have h4' := Classical.not_not.mp h4
  clear h4
  rw [in_t (m := 60) (n := 60) rfl (by decide) h4', if_neg n10]
  by_cases h5 : ¬ isN a5 ns
  · rw [spe_f hV.2.2.1 hW.1 h5, if_pos rfl, cth_f c4 hW.1 (fun q => h5 q.2.2), if_pos rfl]; exact r2_A hR
  have h5' := Classical.not_not.mp h5
  clear h5
  rw [spe_t hV.2.2.1 hW.1 h5', if_neg n10, cth_t c4 hW.1 (isN_0 (by decide)) h4' h5', if_neg n10]
  by_cases h6 : F12_isIn a6 0 1 = 0
  · rw [if_pos h6, if_pos h6]; exact r2_A hR
  rw [if_neg h6, if_neg h6, h06, bG_t (by decide)]
  obtain ⟨a, ha, rfl⟩ := h4'
  obtain ⟨sp, hsp, rfl⟩ := h5'
  obtain ⟨⟨pw, hpw, e4⟩, ⟨w, hw, e5⟩, -⟩ := hT t ht
  refine r2_F hR ?_
  unfold F12_laysReached
  simp only [bL_d]
  rw [bB_u]
  refine r2_B (P := fun (T U : pS) => fC Sc T ∧ fM Sm U ∧ ∀ c, c < 10 → T 120 c = U 16 c ∧ (U 16 c = 0 ∨ U 16 c = 1)) (r2_P 10 (fun i s s' => ∃ (T U : pS), s = (nI i, T) ∧ s' = (nI i, U) ∧ fC Sc T ∧ fM Sm U ∧ ∀ c, c < i → T 120 c = U 16 c ∧ (U 16 c = 0 ∨ U 16 c = 1)) ?_ ?_ ?_) ?_
  · exact ⟨Sc, Sm, rfl, rfl, fC_r _, fM_r _, fun c hc => absurd hc (Nat.not_lt_zero _)⟩
  · rintro i s s' hi ⟨T, U, rfl, rfl, hT, hU, hq⟩
    simp only [u2_d]
    have u1 : U 1 = Sm 1 := hU.1 1 (by decide) (by unfold scM; omega)
    have ec : F1_choice (nI i) = nI (54 + 5 * i) := by
      unfold F1_choice
      rw [show (54 : Int32) = nI 54 from rfl, show (5 : Int32) = nI 5 from rfl, pk_mul, nI_add]
    have em : (54 : Int32) + 5 * nI i = nI (54 + 5 * i) := ec
    rw [if_neg (nge 10 (b := 10) rfl hi (by decide)), if_neg (nge 10 (b := 10) rfl hi (by decide)), wea0, bB_s, ec, em, hT 2 (by unfold scC; omega), u1, hE 60 2 0 rfl]
    refine r2_C (L_goodFar (f := 54 + 5 * i) (a := a) (by omega) (by omega) hsp (VR_fr hV hT hU)) ?_
    rintro v T' v' U' ⟨hv, -, hT', hU'⟩
    simp only at hv hT' hU'
    subst hv
    rw [fC_t hT (fC1_f hT') 0 (by unfold scC; omega), h06, bG_t (by decide), bG_t (vp_in_nI hi (by decide)), bG_t (vp_in_nI hi (by decide)), nI_clamp (by omega), nI_1]
    have done : ∀ x : Int32, (x = 0 ∨ x = 1) → R2 (some (Sum.inl (nI (i + 1), sU T' 120 i (x &&& 1)))) (some (Sum.inl (nI (i + 1), sU U' 16 i x))) (sumR (fun (s s' : Int32 × pS) => ∃ (T U : pS), s = (nI (i + 1), T) ∧ s' = (nI (i + 1), U) ∧ fC Sc T ∧ fM Sm U ∧ ∀ c, c < i + 1 → T 120 c = U 16 c ∧ (U 16 c = 0 ∨ U 16 c = 1)) (fun (T U : pS) => fC Sc T ∧ fM Sm U ∧ ∀ c, c < 10 → T 120 c = U 16 c ∧ (U 16 c = 0 ∨ U 16 c = 1))) := by
      intro x hx
      have e1 : x &&& 1 = x := by rcases hx with rfl | rfl <;> decide
      rw [e1]
      refine r2_s ⟨_, _, rfl, rfl, fun k hk => ?_, ⟨fun k a1 a2 => ?_, fun j hj => ?_⟩, fun c hc => ?_⟩
      · rw [sU_ne (fun q => hk (by unfold scC; omega))]
        exact fC_t hT (fC1_f hT') k hk
      · rw [sU_ne (fun q => a2 (by unfold scM; omega))]
        exact (fM_t hU (fM1_f hU')).1 k a1 a2
      · rw [sU_ne (by decide)]
        exact (fM_t hU (fM1_f hU')).2 j hj
      · rw [sU_get, sU_get]
        by_cases e : c = i
        · rw [if_pos ⟨rfl, e⟩, if_pos ⟨rfl, e⟩]
          exact ⟨rfl, hx⟩
        · rw [if_neg (by omega), if_neg (by omega), hT' 120 (by decide) (by decide) (by decide), hU'.1 16 (by decide) (by decide) (by decide)]
          exact hq c (by omega)
    by_cases q1 : v = -1
    · rw [if_pos q1, if_pos q1, bG_t (vp_in_nI hi (by decide))]; exact done 0 (Or.inl rfl)
    · rw [if_neg q1, if_neg q1]
      by_cases q2 : v < a2
      · rw [if_pos q2, if_pos q2, bG_t (vp_in_nI hi (by decide))]; exact done 0 (Or.inl rfl)
      · rw [if_neg q2, if_neg q2, bG_t (vp_in_nI hi (by decide))]; exact done 1 (Or.inr rfl)
  · rintro s s' ⟨T, U, rfl, rfl, hq⟩
    simp only [u2_d]
    rw [if_pos (by decide), if_pos (by decide)]
    exact r2_s hq
  rintro T U ⟨hT, hU, hr⟩
  simp only [u1_d]
  rw [hT 0 (by unfold scC; omega), h06, bG_t (by decide)]
  refine r2_rB (P := fun (U' : pS) => (∀ j, j < 7007 → U' 14 j = -1) ∧ ∀ k, k ≠ 14 → k ≠ 15 → U' k = U k) (ok_P 7007 (fun i s => ∃ U' : pS, s = (nI i, U') ∧ (∀ j, j < i → U' 14 j = -1) ∧ ∀ k, k ≠ 14 → k ≠ 15 → U' k = U k) ?_ ?_ ?_) ?_
  · exact ⟨U, rfl, fun j hj => absurd hj (Nat.not_lt_zero _), fun _ _ _ => rfl⟩
  · rintro i s hi ⟨U', rfl, q1, q2⟩
    simp only [u2_d]
    rw [if_neg (nge 7007 (b := 7007) rfl hi (by decide)), bG_t (vp_in_nI hi (by decide)), bG_t (vp_in_nI hi (by decide)), nI_clamp (by omega), nI_1]
    refine ok_s ⟨_, rfl, fun j hj => ?_, fun k a1 a2 => by rw [sU_ne a2, sU_ne a1]; exact q2 k a1 a2⟩
    rw [sU_n (by omega), sU_get]
    by_cases e : j = i
    · rw [if_pos ⟨rfl, e⟩]
    · rw [if_neg (by omega)]; exact q1 j (by omega)
  · rintro s ⟨U', rfl, hq⟩
    simp only [u2_d]
    rw [if_pos (by decide)]
    exact ok_s hq
  rintro U' ⟨q1, q2⟩
  have hU' : fM Sm U' := ⟨fun k a1 a2 => by rw [q2 k (fun q => a2 (by unfold scM; omega)) (fun q => a2 (by unfold scM; omega))]; exact hU.1 k a1 a2, fun j hj => by rw [q2 0 (by decide) (by decide)]; exact hU.2 j hj⟩
  have u1 : U' 1 = Sm 1 := hU'.1 1 (by decide) (by unfold scM; omega)
  rw [u1_d, own1 _ ht8, bB_s, u1, e5]
  obtain ⟨T', ⟨r, V⟩, k1, k2, k3, k4, k5, k6, k7⟩ := L_weigh (A := A) (a := a) hV hE ht8 (by omega) hpw e4 hw e5 hT hU' (fun c hc => by rw [q2 16 (by decide) (by decide)]; exact hr c hc) (q1 _ (by omega)) q1
  simp only at k3 k4 k5 k7
  rw [k1, bB_s, show F12_chanceBy U' (nI t) (nI A) (nI A) (nI w) (nI a) = some (r, V) from k2, bB2_s, k6 0 (by unfold scC; omega), h06, bG_t (by decide), bG_t (by decide)]
  by_cases h60 : a6 = 0
  · rw [if_pos h60, if_pos h60]
    exact r2_s ⟨k3, k6, k7⟩
  · rw [if_neg h60, if_neg h60]
    by_cases hr0 : r = 0
    · rw [if_pos hr0]
      exact r2_s ⟨k4 hr0, k6, k7⟩
    · rw [if_neg hr0, own1 _ ht8, bB_s, k7.1 1 (by decide) (by unfold scM; omega), e5, show (1001 : Int32) * nI A + nI w = nI (1001 * A + w) by rw [show (1001 : Int32) = nI 1001 from rfl, pk_mul, nI_add], bG_t (vp_in_nI (n := 1001 * A + w) (by omega) (by decide)), nI_clamp (n := 1001 * A + w) (by omega)]
      exact r2_s ⟨k5 hr0, k6, k7⟩

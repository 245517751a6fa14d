variable {gG : Nat → Int32}
/-! more of thought: the path, the span, the least force, the angle -/
theorem lin_t {S : pS} {a : Int32} {n : Nat} (h : S 1 2 = nI n) (hn : n ≤ 100) (ha : isN a n) : F12_isLine S a = 1 := by
  unfold F12_isLine
  rw [h, inM_t (by omega) ha]; decide
theorem lin_f {S : pS} {a : Int32} {n : Nat} (h : S 1 2 = nI n) (hn : n ≤ 100) (ha : ¬ isN a n) : F12_isLine S a = 0 := by
  unfold F12_isLine
  rw [h, inM_f (by omega) ha]; decide
theorem M_path {Sc Sm : pS} (hR : (Rel gG) Sc Sm) (a1 a2 a3 : Int32) : R2 (F11_path Sc a1 a2 a3) (F12_path Sm a1 a2 a3) (Ans gG) := by
  obtain ⟨ns, nt, nl, ng, rd, tn, hV, hW, -, hB, c4, c5, c6, c7, hE⟩ := Rel_V hR
  unfold F11_path F12_path
  simp only [wie]
  have hnl := hW.2.2.1
  by_cases h1 : isN a1 nl
  · rw [lin_t hW.2.2.2.2.2.2.2.2.1 hnl h1, hli_t c6 hnl h1, if_neg n10, if_neg n10]
    by_cases h2 : isN a2 401
    · rw [in_t (m := 400) (n := 400) rfl (by decide) h2, if_neg n10, if_neg n10]
      by_cases h3 : F12_isIn a3 0 3 = 0
      · rw [if_pos h3, if_pos h3]; exact r2_A hR
      · rw [if_neg h3, if_neg h3]
        obtain ⟨i, hi, rfl⟩ := h1
        obtain ⟨n, hn, rfl⟩ := h2
        obtain ⟨b3, b4, b5⟩ := hB i hi
        rw [col4 c6 hnl hi, bB_s, col5 c6 hnl hi, bB_s, col3 c6 hnl hi, bB_s, col6 c6 hnl hi, bB_s]
        rw [RE_bk hE (by omega) (by decide), RE_bk hE (by omega) (by decide), RE_bk hE (by omega) (by decide), RE_bk hE (by omega) (by decide)]
        have e1 : Sc 2 1 = Sm 1 61 := hE 61 2 1 rfl
        obtain ⟨x3, y3, e3⟩ := b3
        obtain ⟨x4, y4, e4⟩ := b4
        obtain ⟨x5, y5, e5⟩ := b5
        simp only [bL_d]
        simp only [lit_I 3296, lit_I 10, lit_I 4, lit_I 5, lit_I 6, pk_mul, nI_add]
        rw [bG_t (vp_in_nI (by omega) (by omega)), bG_t (vp_in_nI (by omega) (by omega)), nI_clamp (n := 3296 + 10 * i + 4) (by omega), nI_clamp (n := 3296 + 10 * i + 5) (by omega), e3, e4, e5, e1]
        refine r2_B (L_begin (ns := ns) (sp := x3) (f := x4) (a := x5) (wi := Sm 1 (3296 + 10 * i + 6)) (si := Sm 1 61) (by omega) (by omega) y3 hV.1 hV.2.1 hV.2.2.1) ?_
        rintro T U ⟨hF, hT, hU, hU0⟩
        have hn0 : T 8 0 = U 1 640 := by rw [hT 8 (by decide) (by decide), hU 1 (by decide)]; exact hE 640 8 0 rfl
        refine r2_B (L_go (m := n) (by omega) (Nat.lt_of_lt_of_le y3 hV.1) (LR_fr hV.2.2.2.1 (fun j a b => hT _ (by omega) (by omega)) (hU 1 (by decide))) hn0 hF ?_) ?_
        · intro V hVV
          have v1 : V 1 = Sm 1 := (hVV 1 (by decide) (by decide) (by decide)).trans (hU 1 (by decide))
          simp only [u1_d]
          simp only [lit_I 3, nI_add]
          rw [bG_t (vp_in_nI (by omega) (by omega)), bG_t (vp_in_nI (by omega) (by omega)), nI_clamp (n := 3296 + 10 * i + 3) (by omega), nI_clamp (n := 3296 + 10 * i + 6) (by omega), wea1, bB_s, v1, e3]
        · rintro T' U' ⟨⟨k, hk, hF'⟩, hT', hU', hU0'⟩
          have hRR : (Rel gG) T' U' := Rel_fr hR (fun k hk => by
            unfold scC at hk
            exact (hT' k (by omega) (by omega) (by omega)).trans (hT k (by omega) (by omega))) ⟨fun k h0 hk => by
            unfold scM at hk
            exact (hU' k (by omega) (by omega) (by omega)).trans (hU k (by omega)), fun j hj => (hU0' j (Or.inl hj)).trans (hU0 j (Or.inl hj))⟩
          have q0 := hF'.2.2.2.2.2.2.2.2.2.2.1
          have q1 := hF'.2.2.1
          have q2 := hF'.2.2.2.2.2.2.2.2.2.2.2.1
          have q4 := hF'.2.2.2.1
          simp only [u1_d]
          rw [q0, q1, q2, q4]
          split
          · exact r2_s ⟨rfl, hRR⟩
          · split
            · exact r2_s ⟨rfl, hRR⟩
            · split
              · exact r2_s ⟨rfl, hRR⟩
              · exact r2_s ⟨rfl, hRR⟩
    · rw [in_f (m := 400) (n := 400) rfl (by decide) h2, if_pos rfl, if_pos rfl]; exact r2_A hR
  · rw [lin_f hW.2.2.2.2.2.2.2.2.1 hnl h1, hli_f c6 hnl h1, if_pos rfl, if_pos rfl]; exact r2_A hR
theorem M_span {Sc Sm : pS} (hR : (Rel gG) Sc Sm) (a1 a2 : Int32) : R2 (F11_span Sc a1 a2) (F12_span Sm a1 a2) (Ans gG) := by
  obtain ⟨ns, nt, nl, ng, rd, tn, hV, hW, -, hB, c4, c5, c6, c7, hE⟩ := Rel_V hR
  unfold F11_span F12_span
  simp only [wie]
  have hnl := hW.2.2.1
  by_cases h1 : isN a1 nl
  · rw [lin_t hW.2.2.2.2.2.2.2.2.1 hnl h1, hli_t c6 hnl h1, if_neg n10, if_neg n10]
    by_cases h2 : F12_isIn a2 0 1 = 0
    · rw [if_pos h2, if_pos h2]; exact r2_A hR
    · rw [if_neg h2, if_neg h2]
      obtain ⟨i, hi, rfl⟩ := h1
      obtain ⟨b3, b4, b5⟩ := hB i hi
      obtain ⟨x3, y3, e3⟩ := b3
      obtain ⟨x4, y4, e4⟩ := b4
      obtain ⟨x5, y5, e5⟩ := b5
      obtain ⟨sl, hsl, esl⟩ := hW.2.2.2.2.2.2.2.2.2.2.2.2.2.2
      have e63 : Sc 2 3 = nI sl := (hE 63 2 3 rfl).trans esl
      refine r2_T hR ?_
      simp only [bL_d]
      rw [wea3, bB_s, esl, e63]
      refine r2_B (P := fun z z' => z.1 = z'.1 ∧ fC1 Sc z.2 ∧ fM1 Sm z'.2) (r2_P (2 * sl + 1) (fun i s s' => ∃ (x : Int32) (T U : pS), s = (x, nI i - nI sl, T) ∧ s' = (x, nI i - nI sl, U) ∧ fC1 Sc T ∧ fM1 Sm U) ?_ ?_ ?_) ?_
      · exact ⟨_, Sc, Sm, by rw [sw_0], by rw [sw_0], fC1_r _, fM1_r _⟩
      · rintro j s s' hj ⟨x, T, U, rfl, rfl, hT, hU⟩
        simp only [u3_d]
        have g : ¬ nI sl < nI j - nI sl := fun q => by
          have := (sw_lt (c := sl) (by omega) (by omega)).mp q
          omega
        have u1 : U 1 = Sm 1 := hU.1 1 (by decide) (by decide) (by decide)
        have t6 : T 6 = Sc 6 := hT 6 (by decide) (by decide) (by decide)
        have c6' : T 1 6 = nI nl := by rw [hT 1 (by decide) (by decide) (by decide)]; exact c6
        rw [wea3, wea1, col5 c6' hnl hi, bB_s, col4 c6' hnl hi, bB_s, col3 c6' hnl hi, bB_s, bB_s, bB_s, t6, u1, esl, if_neg g, if_neg g]
        rw [RE_bk hE (by omega) (by decide), RE_bk hE (by omega) (by decide), RE_bk hE (by omega) (by decide)]
        simp only [lit_I 3296, lit_I 10, lit_I 4, lit_I 5, lit_I 3, pk_mul, nI_add]
        rw [bG_t (vp_in_nI (by omega) (by omega)), bG_t (vp_in_nI (by omega) (by omega)), bG_t (vp_in_nI (by omega) (by omega)), nI_clamp (n := 3296 + 10 * i + 4) (by omega), nI_clamp (n := 3296 + 10 * i + 5) (by omega), nI_clamp (n := 3296 + 10 * i + 3) (by omega), e3, e4, e5, hol (by decide), sw_h (by omega) (by omega) (by omega)]
        have hL := L_far (wi := 0) (f := x4) (a := min 90 (x5 + j - sl)) (sp := x3) (by omega) (Nat.min_le_left _ _) y3 (VR_f1 hV hT hU)
        obtain ⟨⟨v, T'⟩, U', h1, h2, h3, -, hT', hU'⟩ := hL
        rw [u1] at h2
        rw [h1, h2, bB2_s, bB_s, sw_1]
        simp only at h3 hT' hU'
        subst h3
        have hT2 := fC1_t hT hT'
        have hU2 := fM1_t hU hU'
        split
        · exact r2_s ⟨_, _, _, rfl, rfl, hT2, hU2⟩
        · split
          · split
            · exact r2_s ⟨_, _, _, rfl, rfl, hT2, hU2⟩
            · exact r2_s ⟨_, _, _, rfl, rfl, hT2, hU2⟩
          · split
            · exact r2_s ⟨_, _, _, rfl, rfl, hT2, hU2⟩
            · exact r2_s ⟨_, _, _, rfl, rfl, hT2, hU2⟩
      · rintro s s' ⟨x, T, U, rfl, rfl, hT, hU⟩
        simp only [u3_d]
        have g : nI sl < nI (2 * sl + 1) - nI sl := (sw_lt (by omega) (by omega)).mpr (by omega)
        rw [wea3, bB_s, hU.1 1 (by decide) (by decide) (by decide), esl, if_pos g, if_pos g]
        exact r2_s ⟨rfl, hT, hU⟩
      · rintro ⟨x, T⟩ ⟨y, U⟩ hq
        simp only [u2_d]
        exact r2_s hq
  · rw [lin_f hW.2.2.2.2.2.2.2.2.1 hnl h1, hli_f c6 hnl h1, if_pos rfl, if_pos rfl]; exact r2_A hR

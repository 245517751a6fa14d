variable {gG : Nat → Int32}
/-! undone -/
theorem L_undoM {nu : Nat} {Sm : pS} (hnu : 0 < nu) (h8 : nu ≤ 8) (h0 : Sm 0 3 = nI nu) : Ok (F12_undo Sm) (fun p => p.1 = 1 ∧ p.2 0 3 = nI (nu - 1) ∧ (∀ k, k ≠ 0 → k ≠ 1 → p.2 k = Sm k) ∧ (∀ j, j ≠ 3 → p.2 0 j = Sm 0 j) ∧ (∀ i, i < 60 → p.2 1 i = Sm 3 (60 * (nu - 1) + i)) ∧ ∀ i, 60 ≤ i → p.2 1 i = Sm 1 i) := by
  unfold F12_undo
  simp only [bL_d]
  have e : Sm 0 3 - 1 = nI (nu - 1) := by rw [h0, lit_I 1, pk_sub hnu]
  rw [e, if_neg (show ¬ Sm 0 3 = 0 from by rw [h0]; exact nI_ne0 hnu (by omega))]
  refine ok_B (P := fun (U : pS) => U 0 3 = nI (nu - 1) ∧ (∀ k, k ≠ 0 → k ≠ 1 → U k = Sm k) ∧ (∀ j, j ≠ 3 → U 0 j = Sm 0 j) ∧ (∀ i, i < 60 → U 1 i = Sm 3 (60 * (nu - 1) + i)) ∧ ∀ i, 60 ≤ i → U 1 i = Sm 1 i) (ok_P 60 (fun i s => ∃ (U : pS), s = (nI i, U) ∧ U 0 3 = nI (nu - 1) ∧ (∀ k, k ≠ 0 → k ≠ 1 → U k = Sm k) ∧ (∀ j, j ≠ 3 → U 0 j = Sm 0 j) ∧ (∀ i', i' < i → U 1 i' = Sm 3 (60 * (nu - 1) + i')) ∧ ∀ i, 60 ≤ i → U 1 i = Sm 1 i) ?_ ?_ ?_) ?_
  · exact ⟨_, rfl, sU_s _ _ _ _, fun k a b => sU_ne a, fun j a => sU_n (by omega), fun i hi => absurd hi (Nat.not_lt_zero _), fun i hi => by rw [sU_ne (by decide)]⟩
  · rintro i s hi ⟨U, rfl, h1, h2, h3, h4, h5⟩
    simp only [u2_d]
    rw [if_neg (nge 60 (b := 60) rfl hi (by decide)), h1, lit_I 60, pk_mul, nI_add, bG_t (vp_in_nI (by omega) (by omega)), bG_t (vp_in_nI (by omega) (by omega)), nI_clamp (by omega), nI_clamp (by omega), nI_1, h2 3 (by decide) (by decide)]
    refine ok_s ⟨_, rfl, by rw [sU_ne (by decide)]; exact h1, fun k a b => by rw [sU_ne b]; exact h2 k a b, fun j a => by rw [sU_ne (by decide)]; exact h3 j a, fun i' hi' => ?_, fun i' hi' => by rw [sU_n (by omega)]; exact h5 i' hi'⟩
    rw [sU_get]
    by_cases e : i' = i
    · rw [if_pos ⟨rfl, e⟩, e]
    · rw [if_neg (by omega)]; exact h4 i' (by omega)
  · rintro s ⟨U, rfl, hq⟩
    simp only [u2_d]
    rw [if_pos (by decide)]
    exact ok_s hq
  · rintro U hq
    simp only [u1_d]
    exact ok_s ⟨rfl, hq⟩
def gbC (Sc : pS) (r t : Nat) : pS := sU (sU (sU (sU (sU (sU (sU (sU Sc 1 0 (Sc (67 + r) 0)) 1 6 (Sc (67 + r) 1)) 1 2 (Sc (67 + r) 2)) 1 3 (Sc (67 + r) 3)) (29 + 2 * t) 1 (Sc (67 + r) 4)) (29 + 2 * t) 2 (Sc (67 + r) 5)) (29 + 2 * t) 3 (Sc (67 + r) 6)) (29 + 2 * t) 5 (Sc (67 + r) 7)
theorem L_undoC {nu la nt t : Nat} {Sc : pS} (hnu : 0 < nu) (h8 : nu ≤ 8) (hla : la < 8) (ht : t < nt) (hnt : nt ≤ 8) (h0 : Sc 65 0 = nI nu) (h1 : Sc 65 1 = nI la) (h5 : Sc 1 5 = nI nt) (h3 : Sc (67 + la) 3 = nI t) : F11_undo Sc = some (1, sU (sU (gbC Sc la t) 65 0 (nI (nu - 1))) 65 1 (nI ((la + 7) % 8))) := by
  unfold F11_undo F4_goBack
  simp only [Nat.reduceAdd]
  rw [h1, h0, bG_t (vp_in_nI (by omega) (by omega)), nI_clamp (by omega), h3, one_t h5 hnt ht, bB_s, bO_1, if_neg (nI_ne0 hnu (by omega))]
  have n1 : ∀ (S : pS) j v, sU S 1 j v (67 + la) = S (67 + la) := fun S j v => sU_ne (by omega)
  have n2 : ∀ (S : pS) j v, sU S (29 + 2 * t) j v (67 + la) = S (67 + la) := fun S j v => sU_ne (by omega)
  have n3 : ∀ (S : pS) j v, sU S 1 j v 65 = S 65 := fun S j v => sU_ne (by decide)
  have n4 : ∀ (S : pS) j v, sU S (29 + 2 * t) j v 65 = S 65 := fun S j v => sU_ne (by omega)
  simp only [bL_d, n1, n2, n3, n4, h0, h3]
  rw [sU_n (show ¬ (65 = 65 ∧ 1 = 0) by decide)]
  simp only [n3, n4, h1]
  rw [show (8 : Int32) = nI 8 from rfl, show (1 : Int32) = nI 1 from rfl, nI_add, pk_sub (a := la + 8) (by omega), pk_sub hnu, pk_rem (by omega) (by decide) (by decide), show la + 8 - 1 = la + 7 by omega, bB2_s]
  unfold gbC
  rw [h3]
  rfl
theorem M_undo {Sc Sm : pS} (hR : (Rel gG) Sc Sm) : R2 (F11_undo Sc) (F12_undo Sm) (Ans gG) := by
  obtain ⟨ns, nt, nl, ng, rd, tn, nu, la, np, hW, hP, -⟩ := id hR
  have h2 := hW.2.1
  have hnt := h2.2.1
  have h68 : Sm 1 68 = nI nt := hW.2.1.2.2.2.2.2.2.2.1
  have c5 : Sc 1 5 = nI nt := (hW.1 68 1 5 rfl).trans h68
  obtain ⟨p1, p2, p3, p4, p5, p6⟩ := hP
  by_cases h0 : nu = 0
  · subst h0
    unfold F11_undo F12_undo F4_goBack
    rw [p5, p4, p3, bG_t (vp_in_nI (by omega) (by omega)), if_pos (show nI 0 = 0 from rfl)]
    obtain ⟨r, hr⟩ := one_any c5 hnt (Sc (65 + 2 + (nI la).toNatClampNeg) 3)
    rw [hr, bB_s, if_pos (show nI 0 = 0 from rfl), bB2_s]
    exact r2_A hR
  · have q := p6 0 (by omega)
    rw [if_pos rfl] at q
    obtain ⟨rd', t, nl', nl2, nx, m, a1, a2, a3, a4, a5, a6, a7, a8, a9, a10, a11, a12, a13, a14, a15, a16, a17, a18, a19, a20, a21, a22, a23⟩ := q
    simp only [Nat.sub_zero] at a6 a7 a8 a9 a11 a12 a13 a14 a15 a16 a17 a18 a19 a20 a21 a22 a23
    have er : 67 + (la + 8) % 8 = 67 + la := by omega
    simp only [er] at a12 a13 a14 a15 a16 a17 a18 a19
    obtain ⟨⟨v, U⟩, hU, hv, u1, u2, u3, u4, u5⟩ := L_undoM (by omega) p1 p3
    simp only at hv u1 u2 u3 u4 u5
    subst hv
    rw [hU, L_undoC (by omega) p1 p2 a2 hnt p4 p5 c5 (a15.trans a7)]
    have hE := hW.1
    have ht8 : t < 8 := by omega
    have e9 : nl2 = nl := nI_inj (by rw [← a9]; exact h2.2.2.2.2.2.2.2.2.1) (by omega) (by have := h2.2.2.1; omega)
    subst e9
    have hC : ∀ k, k ≠ 1 → k ≠ 29 + 2 * t → gbC Sc la t k = Sc k := by
      intro k b1 b2
      unfold gbC
      rw [sU_ne b2, sU_ne b2, sU_ne b2, sU_ne b2, sU_ne b1, sU_ne b1, sU_ne b1, sU_ne b1]
    have hRE : RE 1 1 (gbC Sc la t) U := by
      intro j k i hl
      by_cases hj : j < 60
      · rw [u4 j hj]
        rcases loc_lo hl hj with ⟨rfl, rfl, rfl⟩ | ⟨rfl, rfl, rfl⟩ | ⟨rfl, rfl, rfl⟩ | ⟨rfl, rfl, rfl⟩ | ⟨b1, b2, b3, rfl, b4⟩
        · unfold gbC
          rw [sU_n (by omega), sU_n (by omega), sU_n (by omega), sU_n (by omega), sU_n (by omega), sU_s]; exact a14
        · unfold gbC
          rw [sU_n (by omega), sU_n (by omega), sU_n (by omega), sU_n (by omega), sU_s]; exact a15
        · unfold gbC
          rw [sU_n (by omega), sU_n (by omega), sU_n (by omega), sU_n (by omega), sU_n (by omega), sU_n (by omega), sU_s]; exact a13
        · unfold gbC
          rw [sU_n (by omega), sU_n (by omega), sU_n (by omega), sU_n (by omega), sU_n (by omega), sU_n (by omega), sU_n (by omega), sU_s]; exact a12
        · by_cases e : (j - 4) / 7 = t
          · have hjt : j = 4 + 7 * t + (j - 4) % 7 := by omega
            unfold gbC
            have : (j - 4) % 7 = 0 ∨ (j - 4) % 7 = 1 ∨ (j - 4) % 7 = 2 ∨ (j - 4) % 7 = 3 ∨ (j - 4) % 7 = 4 := by omega
            rcases this with f | f | f | f | f
            · have hi : i = 0 := by omega
              subst hi
              rw [e, sU_n (by omega), sU_n (by omega), sU_n (by omega), sU_n (by omega), sU_n (by omega), sU_n (by omega), sU_n (by omega), sU_n (by omega), RE_t0 hE ht8, ← a22, show j = 4 + 7 * t by omega]
            · have hi : i = 1 := by omega
              subst hi
              rw [e, sU_n (by omega), sU_n (by omega), sU_n (by omega), sU_s, a16, show j = 5 + 7 * t by omega]
            · have hi : i = 2 := by omega
              subst hi
              rw [e, sU_n (by omega), sU_n (by omega), sU_s, a17, show j = 6 + 7 * t by omega]
            · have hi : i = 3 := by omega
              subst hi
              rw [e, sU_n (by omega), sU_s, a18, show j = 7 + 7 * t by omega]
            · have hi : i = 5 := by omega
              subst hi
              rw [e, sU_s, a19, show j = 8 + 7 * t by omega]
          · rw [hC _ (by omega) (by omega)]
            have := a23 _ b1 e ((j - 4) % 7) b2
            rw [show 4 + 7 * ((j - 4) / 7) + (j - 4) % 7 = j by omega] at this
            rw [this]
            exact hE j _ i hl
      · rw [u5 j (by omega)]
        obtain ⟨b1, b2, b3⟩ := loc_hi hl (by omega)
        have : gbC Sc la t k i = Sc k i := by
          unfold gbC
          rw [sU_n (by omega), sU_n (by omega), sU_n (by omega), sU_n (by omega), sU_n (by omega), sU_n (by omega), sU_n (by omega), sU_n (by omega)]
        rw [this]
        exact hE j k i hl
    have hWn : Wn 1 U ns nt nl' ng rd' t := by
      obtain ⟨b1, b2, b3, b4, b5, b6, b7, b8, b9, b10, b11, b12, b13, b14, b15⟩ := h2
      refine ⟨b1, b2, by omega, b4, by omega, Or.inl a2, ?_, ?_, ?_, ?_, ?_, ?_, ?_, ?_, ?_⟩
      · rw [u5 _ (by decide)]; exact b7
      · rw [u5 _ (by decide)]; exact b8
      · rw [u4 _ (by decide)]; exact a8
      · rw [u5 _ (by decide)]; exact b10
      · rw [u4 _ (by decide)]; exact a6
      · rw [u4 _ (by decide)]; exact a7
      · rw [u5 _ (by decide)]; exact b13
      · rw [u5 _ (by decide)]; exact b14
      · rw [u5 _ (by decide)]; exact b15
    have hCo : ∀ k, k % 2 = 0 → k ≠ 1 → gbC Sc la t k = Sc k := fun k b1 b2 => hC k b2 (by omega)
    have hRW : RW 1 1 ns nt nl' ng rd' t (gbC Sc la t) U := by
      obtain ⟨q1, q2, q3, q4, q5, q6, q7⟩ := hW
      refine ⟨hRE, hWn, fun t' ht' => ?_, WB_m q4 (Nat.le_refl _) a3.1 (fun j b1 b2 => u5 j (by omega)), LR_m q5 (by decide) (fun i b1 b2 => hC _ (by omega) (by omega)) (fun j b1 b2 => u5 j (by omega)), LR_m q6 (by decide) (fun i b1 b2 => hC _ (by omega) (by omega)) (fun j b1 b2 => u5 j (by omega)), LR_m q7 (by decide) (fun i b1 b2 => hC _ (by omega) (by omega)) (fun j b1 b2 => u5 j (by omega))⟩
      have ht'8 : t' < 8 := by omega
      obtain ⟨c1, c2, c3, mx, no, c4, c5, c6, c7, c8⟩ := q3 t' ht'
      have hord : ∀ i, i < no → ordOK 1 1 ns t' i (gbC Sc la t) U := fun i hi => ord_m (c8 i hi) (Nat.le_refl _) (by omega) ht'8 (fun j b1 b2 => u5 j (by omega)) (hC _ (by omega) (by omega))
      by_cases e : t' = t
      · subst e
        refine ⟨?_, ?_, ?_, nx, no, ?_, c5, ?_, ?_, hord⟩
        · rw [u4 _ (by omega), a22]; exact c1
        · rw [u4 _ (by omega)]; exact a20
        · rw [u4 _ (by omega)]; exact a21
        · have : m = no := nI_inj (by rw [← a10, ← c7]) (by omega) (by omega)
          omega
        · rw [u4 _ (by omega)]; exact a11
        · rw [u5 _ (by omega)]; exact c7
      · have hw : ∀ f, f < 5 → U 1 (4 + 7 * t' + f) = Sm 1 (4 + 7 * t' + f) := fun f hf => by rw [u4 _ (by omega)]; exact a23 t' ht'8 e f hf
        refine ⟨?_, ?_, ?_, mx, no, c4, c5, ?_, ?_, hord⟩
        · have := hw 0 (by decide)
          rw [Nat.add_zero] at this
          rw [this]; exact c1
        · have := hw 1 (by decide)
          rw [show 4 + 7 * t' + 1 = 5 + 7 * t' by omega] at this
          rw [this]; exact c2
        · have := hw 2 (by decide)
          rw [show 4 + 7 * t' + 2 = 6 + 7 * t' by omega] at this
          rw [this]; exact c3
        · have := hw 4 (by decide)
          rw [show 4 + 7 * t' + 4 = 8 + 7 * t' by omega] at this
          rw [this]; exact c6
        · rw [u5 _ (by omega)]; exact c7
    have hRW2 : RW 1 1 ns nt nl' ng rd' t (sU (sU (gbC Sc la t) 65 0 (nI (nu - 1))) 65 1 (nI ((la + 7) % 8))) U := RW_x (j := 0) (w := 0) (RW_x (j := 0) (w := 0) hRW (Or.inl rfl)) (Or.inl rfl)
    refine r2_ans (Rel_of (nu := nu - 1) (la := (la + 7) % 8) hR hRW2 ⟨by omega, Nat.mod_lt _ (by decide), u1, ?_, sU_s _ _ _ _, fun j hj => ?_⟩ ?_ ⟨fun k b1 b2 b3 b4 => u2 k b1 b2, fun j b1 b2 => u3 j b2⟩)
    · rw [sU_n (by decide), sU_s]
    · have q := p6 (j + 1) (by omega)
      rw [if_neg (by omega)] at q
      have eo : 67 + ((la + 7) % 8 + 8 - j) % 8 = 67 + (la + 8 - (j + 1)) % 8 := by omega
      rw [eo, sU_ne (by omega), sU_ne (by omega), hC _ (by omega) (by omega), u2 3 (by decide) (by decide), show nu - 1 - 1 - j = nu - 1 - (j + 1) by omega]
      refine row_m q hnt (fun i hi => ?_) (fun t ht => u5 _ (by omega))
      by_cases e : j = 0
      · subst e
        rw [if_pos rfl]
        exact u4 i hi
      · rw [if_neg e, show nu - 1 - j = nu - (j + 1) by omega]
    · intro k b1 b2 b3 b4
      rw [sU_ne b2, sU_ne b2]
      exact hC k (by omega) (by omega)

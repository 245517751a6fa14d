variable {gG : Nat → Int32}
/-! the image is taken, or gone back to -/
theorem pmu75 : pmu 75 = some 75 := by decide
theorem L_imgM {U : pS} {a1 : Int32} (h : a1 ≠ 0 ∨ U 0 4 = 1) : Ok (F12_image U a1) (fun p => p.1 = 1 ∧ p.2 0 4 = 1 ∧ (∀ j, j ≠ 4 → j ≠ 3 → p.2 0 j = U 0 j) ∧ (a1 = 0 → p.2 0 3 = 0 ∧ (∀ k, k ≠ 0 → k ≠ 1 → p.2 k = U k) ∧ ∀ j, j < 4296 → p.2 1 j = U 2 j) ∧ (a1 ≠ 0 → p.2 0 3 = U 0 3 ∧ (∀ k, k ≠ 0 → k ≠ 2 → p.2 k = U k) ∧ ∀ j, j < 4296 → p.2 2 j = U 1 j)) := by
  unfold F12_image
  simp only [bL_d, fgM]
  by_cases ha : a1 = 0
  · have h4 : U 0 4 = 1 := h.resolve_left (fun q => q ha)
    simp only [if_pos ha, if_neg (show ¬ U 0 4 = 0 by rw [h4]; decide)]
    refine ok_B (P := fun (V : pS) => (∀ k, k ≠ 1 → V k = U k) ∧ ∀ j, j < 4296 → V 1 j = U 2 j) (ok_P 4296 (fun i s => ∃ V : pS, s = (nI i, V) ∧ (∀ k, k ≠ 1 → V k = U k) ∧ ∀ j, j < i → V 1 j = U 2 j) ?_ ?_ ?_) ?_
    · exact ⟨U, rfl, fun _ _ => rfl, fun j hj => absurd hj (Nat.not_lt_zero _)⟩
    · rintro i s hi ⟨V, rfl, h1, h2⟩
      simp only [u2_d]
      rw [if_neg (nge 4296 (b := 4296) rfl hi (by decide)), bG_t (vp_in_nI hi (by decide)), bG_t (vp_in_nI hi (by decide)), nI_clamp (by omega), nI_1, h1 2 (by decide)]
      refine ok_s ⟨_, rfl, fun k hk => by rw [sU_ne hk]; exact h1 k hk, fun j hj => ?_⟩
      rw [sU_get]
      by_cases e : j = i
      · rw [if_pos ⟨rfl, e⟩, e]
      · rw [if_neg (by omega)]; exact h2 j (by omega)
    · rintro s ⟨V, rfl, hq⟩
      simp only [u2_d]
      rw [if_pos (by decide)]
      exact ok_s hq
    · rintro V ⟨h1, h2⟩
      simp only [u1_d]
      refine ok_e rfl ⟨rfl, sU_s (sU V 0 3 0) 0 4 1, fun j a b => ?_, fun _ => ⟨?_, fun k a b => ?_, fun j hj => ?_⟩, fun q => absurd ha q⟩
      · show sU (sU V 0 3 0) 0 4 1 0 j = _
        rw [sU_n (by omega), sU_n (by omega), h1 0 (by decide)]
      · show sU (sU V 0 3 0) 0 4 1 0 3 = _
        rw [sU_n (by omega), sU_s]
      · show sU (sU V 0 3 0) 0 4 1 k = _
        rw [sU_ne a, sU_ne a]; exact h1 k b
      · show sU (sU V 0 3 0) 0 4 1 1 j = _
        rw [sU_ne (by decide), sU_ne (by decide)]; exact h2 j hj
  · simp only [if_neg ha]
    refine ok_B (P := fun (V : pS) => (∀ k, k ≠ 2 → V k = U k) ∧ ∀ j, j < 4296 → V 2 j = U 1 j) (ok_P 4296 (fun i s => ∃ V : pS, s = (nI i, V) ∧ (∀ k, k ≠ 2 → V k = U k) ∧ ∀ j, j < i → V 2 j = U 1 j) ?_ ?_ ?_) ?_
    · exact ⟨U, rfl, fun _ _ => rfl, fun j hj => absurd hj (Nat.not_lt_zero _)⟩
    · rintro i s hi ⟨V, rfl, h1, h2⟩
      simp only [u2_d]
      rw [if_neg (nge 4296 (b := 4296) rfl hi (by decide)), bG_t (vp_in_nI hi (by decide)), bG_t (vp_in_nI hi (by decide)), nI_clamp (by omega), nI_1, h1 1 (by decide)]
      refine ok_s ⟨_, rfl, fun k hk => by rw [sU_ne hk]; exact h1 k hk, fun j hj => ?_⟩
      rw [sU_get]
      by_cases e : j = i
      · rw [if_pos ⟨rfl, e⟩, e]
      · rw [if_neg (by omega)]; exact h2 j (by omega)
    · rintro s ⟨V, rfl, hq⟩
      simp only [u2_d]
      rw [if_pos (by decide)]
      exact ok_s hq
    · rintro V ⟨h1, h2⟩
      simp only [u1_d]
      refine ok_e rfl ⟨rfl, sU_s V 0 4 1, fun j a b => ?_, fun q => absurd q ha, fun _ => ⟨?_, fun k a b => ?_, fun j hj => ?_⟩⟩
      · show sU V 0 4 1 0 j = _
        rw [sU_n (by omega), h1 0 (by decide)]
      · show sU V 0 4 1 0 3 = _
        rw [sU_n (by omega), h1 0 (by decide)]
      · show sU V 0 4 1 k = _
        rw [sU_ne a]; exact h1 k b
      · show sU V 0 4 1 2 j = _
        rw [sU_ne (by decide)]; exact h2 j hj
/-- taken: the class has its place for it -/
theorem M_imageT {Sc Sm : pS} {ns nt nl ng rd tn nu la np : Nat} {a1 : Int32} (hW : RW 1 1 ns nt nl ng rd tn Sc Sm) (hP : PastR nu la nt Sc Sm) (hT : TapeR np Sc Sm) (hF : FaultR Sc Sm) (hM : MarkR Sm) (hA : (AllR gG) Sc) (h5 : Sc 0 5 = 75) (ha : a1 ≠ 0) : R2 (F11_image Sc a1) (F12_image Sm a1) (Ans gG) := by
  unfold F11_image
  rw [if_neg ha]
  simp only [bL_d]
  rw [h5, bG_t pmu75, bG_t pmu75]
  obtain ⟨T, hT1, hT2, hT3⟩ := L_copy (S := Sc) (k0 := 75) (k1 := 1) (by decide)
  obtain ⟨⟨v, U⟩, hU1, hv, u1, u2, -, u3⟩ := L_imgM (U := Sm) (a1 := a1) (Or.inl ha)
  simp only at hv u1 u2 u3
  subst hv
  obtain ⟨u3, u4, u5⟩ := u3 ha
  rw [hT1, bB_s, hU1]
  refine r2_ans ⟨ns, nt, nl, ng, rd, tn, nu, la, np, RW_fr hW (fun k a b c d e => hT3 k (by omega)) (u4 1 (by decide) (by decide)), Past_m hP hW.2.1.2.1 u3 (u4 3 (by decide) (by decide)) (fun j _ => by rw [u4 1 (by decide) (by decide)]) (fun j _ _ => by rw [u4 1 (by decide) (by decide)]) (hT3 65 (by decide)) (fun k a b => hT3 k (by omega)), ?_, ?_, Or.inr ⟨u1, by rw [hT3 0 (by decide)]; exact h5, ns, nt, nl, ng, rd, tn, RW_shift hW hT2 (fun j hj => u5 j hj)⟩, ?_, ?_⟩
  · obtain ⟨t1, t2, t3, t4⟩ := hT
    exact ⟨t1, by rw [u2 16 (by decide) (by decide)]; exact t2, by rw [hT3 46 (by decide)]; exact t3, fun i hi => by rw [u4 7 (by decide) (by decide), hT3 47 (by decide)]; exact t4 i hi⟩
  · exact ⟨by rw [hT3 45 (by decide), u2 23 (by decide) (by decide)]; exact hF.1, by rw [hT3 45 (by decide), u2 25 (by decide) (by decide)]; exact hF.2⟩
  · intro i hi
    rw [u4 13 (by decide) (by decide)]; exact hM i hi
  · unfold AllR at hA ⊢
    rw [hT3 0 (by decide), hT3 131 (by decide)]; exact hA
theorem M_imageK {Sc Sm : pS} {a1 : Int32} (hR : (Rel gG) Sc Sm) (h5 : Sc 0 5 = 75) : R2 (F11_image Sc a1) (F12_image Sm a1) (Ans gG) := by
  obtain ⟨ns, nt, nl, ng, rd, tn, nu, la, np, hW, hP, hT, hF, hI, hM, hA⟩ := id hR
  by_cases ha : a1 = 0
  · subst ha
    rcases hI with ⟨-, q⟩ | ⟨h4, -, ns2, nt2, nl2, ng2, rd2, tn2, hK⟩
    · rw [h5] at q; exact absurd q (by decide)
    · unfold F11_image
      rw [if_pos rfl, h5, bG_t pmu75, bG_t pmu75]
      simp only [bL_d, fgC]
      obtain ⟨T, hT1, hT2, hT3⟩ := L_copy (S := Sc) (k0 := 1) (k1 := 75) (by decide)
      obtain ⟨⟨v, U⟩, hU1, hv, u1, u2, u3, -⟩ := L_imgM (U := Sm) (a1 := 0) (Or.inr h4)
      simp only at hv u1 u2 u3
      subst hv
      obtain ⟨u3, u4, u5⟩ := u3 trivial
      rw [hT1, bB_s, hU1]
      have hK2 : RW 1 1 ns2 nt2 nl2 ng2 rd2 tn2 T U := RW_shift hK hT2 (fun j hj => u5 j hj)
      refine r2_ans ⟨ns2, nt2, nl2, ng2, rd2, tn2, 0, la, np, RW_x (j := 0) (w := 0) hK2 (Or.inl rfl), Past_0 u3 (sU_s _ _ _ _) (by rw [sU_n (by decide), hT3 65 (by decide)]; exact hP.2.2.2.2.1) hP.2.1, ?_, ?_, Or.inr ⟨u1, by rw [sU_ne (by decide), hT3 0 (by decide)]; exact h5, ns2, nt2, nl2, ng2, rd2, tn2, RW_fr hK (fun k a b _ _ _ => by rw [sU_ne (by omega)]; exact hT3 k (by omega)) (u4 2 (by decide) (by decide))⟩, ?_, ?_⟩
      · obtain ⟨t1, t2, t3, t4⟩ := hT
        exact ⟨t1, by rw [u2 16 (by decide) (by decide)]; exact t2, by rw [sU_ne (by decide), hT3 46 (by decide)]; exact t3, fun i hi => by rw [u4 7 (by decide) (by decide), sU_ne (by decide), hT3 47 (by decide)]; exact t4 i hi⟩
      · exact ⟨by rw [sU_ne (by decide), hT3 45 (by decide), u2 23 (by decide) (by decide)]; exact hF.1, by rw [sU_ne (by decide), hT3 45 (by decide), u2 25 (by decide) (by decide)]; exact hF.2⟩
      · intro i hi
        rw [u4 13 (by decide) (by decide)]; exact hM i hi
      · unfold AllR at hA ⊢
        rw [sU_ne (by decide), sU_ne (by decide), hT3 0 (by decide), hT3 131 (by decide)]; exact hA
  · exact M_imageT hW hP hT hF hM hA h5 ha
theorem M_image0 {Sc Sm : pS} (hR : (Rel gG) Sc Sm) (h5 : Sc 0 5 ≠ 75) : Sc 0 5 = 0 ∧ F12_image Sm 0 = some (0, Sm) := by
  obtain ⟨ns, nt, nl, ng, rd, tn, nu, la, np, hW, hP, hT, hF, hI, hM, hA⟩ := hR
  rcases hI with ⟨h4, q⟩ | ⟨h4, q, -⟩
  · refine ⟨q, ?_⟩
    unfold F12_image
    rw [bL_d, if_pos rfl, if_pos h4]
  · exact absurd q h5

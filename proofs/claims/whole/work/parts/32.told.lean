variable {gG : Nat → Int32}
/-! what is told -/
theorem RW_x {ns nt nl ng rd tn k i j : Nat} {v w : Int32} {Sc Sm : pS} (h : RW 1 1 ns nt nl ng rd tn Sc Sm) (hk : k = 65 ∨ (67 ≤ k ∧ k < 75)) : RW 1 1 ns nt nl ng rd tn (sU Sc k i v) Sm := RW_fr h (fun k' a b _ _ _ => sU_ne (by omega)) rfl
theorem RW_y {ns nt nl ng rd tn k j : Nat} {w : Int32} {Sc Sm : pS} (h : RW 1 1 ns nt nl ng rd tn Sc Sm) (hk : k ≠ 1) : RW 1 1 ns nt nl ng rd tn Sc (sU Sm k j w) := RW_fr h (fun k' a b _ _ _ => rfl) (sU_ne (Ne.symm hk))
theorem Rel_fg {Sc Sm T U : pS} {ns nt nl ng rd tn : Nat} (hR : (Rel gG) Sc Sm) (hW : RW 1 1 ns nt nl ng rd tn T U) (hc : fO Sc T) (hm : fP Sm U) (h : T 65 1 = Sc 65 1) : (Rel gG) (sU T 65 0 0) (sU U 0 3 0) := by
  obtain ⟨_, nt0, _, _, _, _, nu, la, np, -, hP, -⟩ := id hR
  refine Rel_of (nu := 0) (la := la) hR (RW_x (j := 0) (w := 0) (RW_y (k := 0) hW (by decide)) (Or.inl rfl)) (Past_0 ?_ ?_ ?_ hP.2.1) (fO_u (by omega) hc) (fP_u (by omega) hm)
  · rw [sU_s]
  · rw [sU_s]
  · rw [sU_n (by decide), h]; exact hP.2.2.2.2.1
theorem fgC (S : pS) : F4_forget S 65 = sU S 65 0 0 := rfl
theorem fgM (S : pS) : F12_forgets S = sU S 0 3 0 := rfl
theorem sU_c (S : pS) {k i k' i' : Nat} {v w : Int32} (h : k ≠ k') : sU (sU S k i v) k' i' w = sU (sU S k' i' w) k i v := by
  funext a b
  rw [sU_get, sU_get, sU_get, sU_get]
  by_cases h1 : a = k' ∧ b = i'
  · by_cases h2 : a = k ∧ b = i
    · omega
    · rw [if_pos h1, if_neg h2, if_pos h1]
  · rw [if_neg h1, if_neg h1]
theorem M_state {Sc Sm : pS} (hR : (Rel gG) Sc Sm) (v : Int32) : (Ans gG) (F11_state Sc v) (F12_state Sm v) := by
  obtain ⟨ns, nt, nl, ng, rd, tn, nu, la, np, hW, hP, -⟩ := id hR
  refine ⟨hW.1 3 1 0 rfl, ?_⟩
  have h2 : Wn 1 (sU Sm 1 3 v) ns nt nl ng rd tn := by
    have h2 := hW.2.1
    unfold Wn at h2 ⊢
    simp only [sU_get, Nat.reduceEqDiff, reduceCtorEq, and_true, and_false, false_and, true_and, and_self, if_true, if_false, ite_self, Nat.reduceAdd, Nat.reduceMul, Nat.reduceSub, Nat.reduceLT, Nat.reduceLeDiff, not_true_eq_false, not_false_eq_true]
    exact h2
  exact Rel_fg (T := sU Sc 1 0 v) (U := sU Sm 1 3 v) hR (RW_1 hW (j := 3) (k := 1) (i := 0) rfl (by omega) h2 (Nat.le_refl _) (Nat.le_refl _)) (fO_u (by omega) (fO_r _)) (fP_u (by omega) (fP_r _)) (by rw [sU_n (by decide)])
theorem M_spear {Sc Sm : pS} (hR : (Rel gG) Sc Sm) (a1 a2 : Int32) : R2 (F11_spear Sc a1 a2) (F12_spear Sm a1 a2) (Ans gG) := by
  obtain ⟨ns, nt, nl, ng, rd, tn, nu, la, np, hW, hP, -⟩ := id hR
  have h2 := hW.2.1
  have h67 := h2.2.2.2.2.2.2.1
  have c4 : Sc 1 4 = nI ns := (hW.1 67 1 4 rfl).trans h67
  unfold F11_spear F12_spear
  simp only [wie]
  refine r2_if (r2_A hR) ?_
  refine r2_if (r2_A hR) ?_
  rw [c4, h67]
  by_cases h6 : ns = 6
  · subst h6
    rw [if_neg (by decide), if_pos (by rfl)]
    exact r2_A hR
  · have hns : ns < 6 := by have := h2.1; omega
    rw [if_pos (xlt 6 (b := 6) rfl hns (by decide)), if_neg (xne 6 (b := 6) rfl h6 (by omega) (by decide))]
    unfold F10_addSpear
    simp only [bL_d, fgC, fgM, Nat.reduceAdd, sU_get, Nat.reduceEqDiff, reduceCtorEq, and_true, and_false, false_and, true_and, and_self, if_true, if_false, ite_self, Nat.reduceAdd, Nat.reduceMul, Nat.reduceSub, Nat.reduceLT, Nat.reduceLeDiff, not_true_eq_false, not_false_eq_true, c4, h67]
    rw [if_pos (xlt 6 (b := 6) rfl hns (by decide)), bG_t (vp_in_nI (by omega) (by omega)), bG_t (vp_in_nI (by omega) (by omega)), nI_clamp (by omega), bB2_s]
    simp only [lit_I 70, lit_I 2, lit_I 1, pk_mul, nI_add]
    rw [bG_t (vp_in_nI (by omega) (by omega)), bG_t (vp_in_nI (by omega) (by omega)), nI_clamp (by omega), nI_clamp (by omega)]
    have e67 : ∀ x : Int32, ∀ S : pS, (if 67 = 70 + 2 * ns + 1 then x else if 67 = 70 + 2 * ns then x else S 1 67) = S 1 67 := fun x S => by
      rw [if_neg (by omega), if_neg (by omega)]
    have e1 : ∀ x y : Int32, (if 67 = 70 + 2 * ns + 1 then x else if 67 = 70 + 2 * ns then y else nI ns) = nI ns := fun x y => by
      rw [if_neg (by omega), if_neg (by omega)]
    simp only [e1, nI_add]
    have hl1 : loc 1 (70 + 2 * ns) = some (3, ns) := by
      have : ns = 0 ∨ ns = 1 ∨ ns = 2 ∨ ns = 3 ∨ ns = 4 ∨ ns = 5 := by omega
      rcases this with rfl | rfl | rfl | rfl | rfl | rfl <;> rfl
    have hl2 : loc 1 (70 + 2 * ns + 1) = some (4, ns) := by
      have : ns = 0 ∨ ns = 1 ∨ ns = 2 ∨ ns = 3 ∨ ns = 4 ∨ ns = 5 := by omega
      rcases this with rfl | rfl | rfl | rfl | rfl | rfl <;> rfl
    have W1 : RW 1 1 ns nt nl ng rd tn (sU Sc 3 ns a1) (sU Sm 1 (70 + 2 * ns) a1) := RW_1 hW hl1 (by omega) (by
      unfold Wn at h2 ⊢
      simp only [sU_get, true_and]
      grind) (Nat.le_refl _) (Nat.le_refl _)
    have W2 : RW 1 1 ns nt nl ng rd tn (sU (sU Sc 3 ns a1) 4 ns a2) (sU (sU Sm 1 (70 + 2 * ns) a1) 1 (70 + 2 * ns + 1) a2) := RW_1 W1 hl2 (by omega) (by
      have h2 := W1.2.1
      unfold Wn at h2 ⊢
      simp only [sU_get (sU Sm 1 (70 + 2 * ns) a1), true_and]
      grind) (Nat.le_refl _) (Nat.le_refl _)
    have W3 : RW 1 1 (ns + 1) nt nl ng rd tn (sU (sU (sU Sc 3 ns a1) 4 ns a2) 1 4 (nI (ns + 1))) (sU (sU (sU Sm 1 (70 + 2 * ns) a1) 1 (70 + 2 * ns + 1) a2) 1 67 (nI (ns + 1))) := RW_1 W2 (j := 67) rfl (by omega) (by
      have h2 := W2.2.1
      unfold Wn at h2 ⊢
      simp only [sU_get (sU (sU Sm 1 (70 + 2 * ns) a1) 1 (70 + 2 * ns + 1) a2), Nat.reduceEqDiff, reduceCtorEq, and_true, and_false, false_and, true_and, and_self, if_true, if_false, ite_self, Nat.reduceAdd, Nat.reduceMul, Nat.reduceSub, Nat.reduceLT, Nat.reduceLeDiff, not_true_eq_false, not_false_eq_true]
      exact ⟨by omega, h2.2.1, h2.2.2.1, h2.2.2.2.1, h2.2.2.2.2.1, h2.2.2.2.2.2.1, h2.2.2.2.2.2.2.2⟩) (by omega) (Nat.le_refl _)
    refine r2_s ⟨?_, ?_⟩
    · show nI (ns + 1) - nI 1 = nI ns
      rw [pk_sub (by omega), Nat.add_sub_cancel]
    · have := Rel_fg hR W3 (fO_u (by omega) (fO_u (by omega) (fO_u (by omega) (fO_r _)))) (fP_u (by omega) (fP_u (by omega) (fP_u (by omega) (fP_r _)))) (by simp only [sU_get, Nat.reduceEqDiff, reduceCtorEq, and_true, and_false, false_and, true_and, and_self, if_true, if_false, ite_self, Nat.reduceAdd, Nat.reduceMul, Nat.reduceSub, Nat.reduceLT, Nat.reduceLeDiff, not_true_eq_false, not_false_eq_true])
      rw [sU_c _ (by decide), sU_c (sU Sc 3 ns a1) (by decide), sU_c Sc (by decide)] at this
      exact this

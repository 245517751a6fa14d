variable {gG : Nat → Int32}
/-! the next one's turn; a pass; undone -/
theorem sU_2 (S : pS) (k i : Nat) (v w : Int32) : sU (sU S k i v) k i w = sU S k i w := by
  funext a b
  rw [sU_get, sU_get, sU_get]
  by_cases h : a = k ∧ b = i
  · rw [if_pos h, if_pos h]
  · rw [if_neg h, if_neg h, if_neg h]
theorem L_next {ns nt nl ng rd tn : Nat} {T U : pS} (hW : RW 1 1 ns nt nl ng rd tn T U) (ht : tn < nt) (hr : rd ≤ 5) : (∃ rd' tn', RW 1 1 ns nt nl ng rd' tn' (F10_nextTurn T 1) (F12_nextTurn U)) ∧ (∀ k, k ≠ 1 → F10_nextTurn T 1 k = T k) ∧ (∀ k, k ≠ 1 → F12_nextTurn U k = U k) ∧ ∀ j, 1 < j → F12_nextTurn U 1 j = U 1 j := by
  have h1 : U 1 1 = nI tn := hW.2.1.2.2.2.2.2.2.2.2.2.2.2.1
  have h0 : U 1 0 = nI rd := hW.2.1.2.2.2.2.2.2.2.2.2.2.1
  have h68 : U 1 68 = nI nt := hW.2.1.2.2.2.2.2.2.2.1
  have c3 : T 1 3 = nI tn := (hW.1 1 1 3 rfl).trans h1
  have c2 : T 1 2 = nI rd := (hW.1 0 1 2 rfl).trans h0
  have c5 : T 1 5 = nI nt := (hW.1 68 1 5 rfl).trans h68
  have hnt := hW.2.1.2.1
  unfold F10_nextTurn F12_nextTurn
  simp only [bL_d, c3, h1, nI_1, sU_get, Nat.reduceEqDiff, reduceCtorEq, and_true, and_false, false_and, true_and, and_self, if_true, if_false, ite_self, Nat.reduceAdd, Nat.reduceMul, Nat.reduceSub, Nat.reduceLT, Nat.reduceLeDiff, not_true_eq_false, not_false_eq_true, c5, h68, c2, h0]
  by_cases h : tn + 1 < nt
  · rw [if_pos (nI_lt h (by omega)), if_neg (nI_ge h (by omega))]
    exact ⟨⟨rd, tn + 1, RW_1 (j := 1) hW rfl (by omega) (Wn_tn hW.2.1 h) (Nat.le_refl _) (Nat.le_refl _)⟩, fun k hk => sU_ne hk, fun k hk => sU_ne hk, fun j hj => sU_n (by omega)⟩
  · rw [if_neg (nI_nlt (by omega) (by omega)), if_pos (nI_le (by omega) (by omega)), sU_2, sU_2]
    have w1 : RW 1 1 ns nt nl ng rd 0 (sU T 1 3 (nI 0)) (sU U 1 1 (nI 0)) := RW_1 (j := 1) hW rfl (by omega) (Wn_t0 hW.2.1 (Or.inl (by omega))) (Nat.le_refl _) (Nat.le_refl _)
    exact ⟨⟨rd + 1, 0, RW_1 (j := 0) w1 rfl (by omega) (Wn_rd w1.2.1 (by omega) (Or.inl (by omega))) (Nat.le_refl _) (Nat.le_refl _)⟩, fun k hk => by rw [sU_ne hk, sU_ne hk], fun k hk => by rw [sU_ne hk, sU_ne hk], fun j hj => by rw [sU_n (by omega), sU_n (by omega)]⟩
theorem whose_t {T : pS} {rd tn nt : Nat} (h2 : T 1 2 = nI rd) (h3 : T 1 3 = nI tn) (h5 : T 1 5 = nI nt) (hr : rd ≤ 5) (ht : tn < nt) (hn : nt ≤ 8) : F10_whose T 1 = some (some (29 + 2 * tn)) := by
  unfold F10_whose
  rw [h2, if_neg (nge 6 (b := 6) rfl (by omega) (by decide)), h3, one_t h5 hn ht, bB_s]
theorem whose_f {T : pS} {rd tn nt : Nat} (h2 : T 1 2 = nI rd) (h3 : T 1 3 = nI tn) (h5 : T 1 5 = nI nt) (hr : rd ≤ 6) (h : rd = 6 ∨ nt = 0) : F10_whose T 1 = some none := by
  unfold F10_whose
  rw [h2]
  by_cases h6 : rd = 6
  · subst h6; rw [if_pos (by decide)]
  · have : nt = 0 := by omega
    subst this
    rw [if_neg (nge 6 (b := 6) rfl (by omega) (by decide)), h3, one_f h5 (by decide) (fun ⟨i, hi, _⟩ => absurd hi (Nat.not_lt_zero _)), bB_s]
theorem isOn_t {U : pS} {rd nt : Nat} (h0 : U 1 0 = nI rd) (h68 : U 1 68 = nI nt) (hr : rd ≤ 5) (ht : 0 < nt) (hn : nt ≤ 8) : F12_isOn U = 1 := by
  unfold F12_isOn
  simp only [bL_d]
  rw [h0, h68, if_neg (nge 6 (b := 6) rfl (by omega) (by decide)), if_neg (nI_nle ht (by omega))]
theorem isOn_f {U : pS} {rd nt : Nat} (h0 : U 1 0 = nI rd) (h68 : U 1 68 = nI nt) (hr : rd ≤ 6) (h : rd = 6 ∨ nt = 0) : F12_isOn U = 0 := by
  unfold F12_isOn
  simp only [bL_d]
  rw [h0, h68]
  by_cases h6 : rd = 6
  · subst h6; rw [if_pos (by decide)]
  · have : nt = 0 := by omega
    subst this
    rw [if_neg (nge 6 (b := 6) rfl (by omega) (by decide)), if_pos (by decide)]
theorem M_pass {Sc Sm : pS} (hR : (Rel gG) Sc Sm) : R2 (F11_pass Sc) (F12_pass Sm) (Ans gG) := by
  obtain ⟨ns, nt, nl, ng, rd, tn, nu, la, np, hW, hP, -⟩ := id hR
  have h2 := hW.2.1
  have hnt := h2.2.1
  have h1 : Sm 1 1 = nI tn := hW.2.1.2.2.2.2.2.2.2.2.2.2.2.1
  have h0 : Sm 1 0 = nI rd := hW.2.1.2.2.2.2.2.2.2.2.2.2.1
  have h68 : Sm 1 68 = nI nt := hW.2.1.2.2.2.2.2.2.2.1
  have c3 : Sc 1 3 = nI tn := (hW.1 1 1 3 rfl).trans h1
  have c2 : Sc 1 2 = nI rd := (hW.1 0 1 2 rfl).trans h0
  have c5 : Sc 1 5 = nI nt := (hW.1 68 1 5 rfl).trans h68
  unfold F11_pass F12_pass
  by_cases h : rd ≤ 5 ∧ tn < nt
  · rw [whose_t c2 c3 c5 h.1 h.2 hnt, bB_s, bO_1, isOn_t h0 h68 h.1 (by omega) hnt, if_neg n10]
    obtain ⟨T, hT, hT'⟩ := L_remember (t := tn) hP.1 hP.2.1 (by omega) hP.2.2.2.1 hP.2.2.2.2.1
    obtain ⟨U, hU, hU'⟩ := L_keeps hP.1 hP.2.2.1
    rw [hT, bB_s, hU, bB_s]
    simp only [bL_d]
    have hWT : RW 1 1 ns nt nl ng rd tn T U := RW_fr hW (fun k a b _ _ _ => hT'.2.2.1 k (by omega) (by omega)) (hU'.2.1 1 (by decide) (by decide))
    obtain ⟨⟨rd', tn', hW'⟩, n1, n2, n3⟩ := L_next hWT h.2 h.1
    have hfO : fO Sc (F10_nextTurn T 1) := fun k a b c d => by rw [n1 k (by omega)]; exact hT'.2.2.1 k (by omega) (by omega)
    have hfP : fP Sm (F12_nextTurn U) := ⟨fun k a b c d => by rw [n2 k b]; exact hU'.2.1 k a c, fun j a b => by rw [n2 0 (by decide)]; exact hU'.2.2.1 j b⟩
    have e1 : ∀ j, 1 < j → F12_nextTurn U 1 j = Sm 1 j := fun j hj => by rw [n3 j hj, hU'.2.1 1 (by decide) (by decide)]
    exact r2_ans (Rel_of hR hW' (Past_push hW hP h.1 h.2 hT' hU' (fun k hk => n1 k (by omega)) (by rw [n2 0 (by decide)]) (n2 3 (by decide)) ⟨Nat.le_refl nl, h2.2.2.1⟩ (by rw [e1 2 (by decide)]; exact h2.2.2.2.2.2.2.2.2.1) (e1 _ (by omega)) (fun t a b f c => e1 _ (by omega)) (fun t a => e1 _ (by omega))) hfO hfP)
  · have h6 : rd = 6 ∨ nt = 0 := by have := h2.2.2.2.2.1; have := h2.2.2.2.2.2.1; omega
    rw [whose_f c2 c3 c5 h2.2.2.2.2.1 h6, bB_s, bO_0, isOn_f h0 h68 h2.2.2.2.2.1 h6, if_pos rfl]
    exact r2_A hR
theorem loc_lo {j k i : Nat} (h : loc 1 j = some (k, i)) (hj : j < 60) : (j = 0 ∧ k = 1 ∧ i = 2) ∨ (j = 1 ∧ k = 1 ∧ i = 3) ∨ (j = 2 ∧ k = 1 ∧ i = 6) ∨ (j = 3 ∧ k = 1 ∧ i = 0) ∨ ((j - 4) / 7 < 8 ∧ (j - 4) % 7 < 5 ∧ 4 ≤ j ∧ k = 29 + 2 * ((j - 4) / 7) ∧ (((j - 4) % 7 < 4 ∧ i = (j - 4) % 7) ∨ ((j - 4) % 7 = 4 ∧ i = 5))) := by
  grind (splits := 60) [loc]
theorem loc_hi {j k i : Nat} (h : loc 1 j = some (k, i)) (hj : 60 ≤ j) : (k = 1 → i ≠ 0 ∧ i ≠ 2 ∧ i ≠ 3 ∧ i ≠ 6) ∧ (29 ≤ k → i = 4) ∧ k ≠ 65 := by
  grind (splits := 60) [loc]
theorem one_any {T : pS} {nt : Nat} (h5 : T 1 5 = nI nt) (hn : nt ≤ 8) (x : Int32) : ∃ r, F10_one T 1 x = some r := by
  by_cases h : isN x nt
  · obtain ⟨i, hi, rfl⟩ := h
    exact ⟨_, one_t h5 hn hi⟩
  · exact ⟨_, one_f h5 hn h⟩

section
/-! the reference's next token -/
theorem L_next0 {b : Nat → Nat} {n r i k v p e : Nat} {U : pS} (hT : Tok b n r i k v p e) (hU : byR b n U) (h17 : U 0 17 = nI i) (h12 : U 0 12 = nI r) (hr : r < 4) :
    Ok (F12_next0 U) (fun U' => fN U U' ∧ U' 0 17 = nI e ∧ U' 0 18 = nI (tmN r k) ∧ U' 0 19 = nI p ∧ (k = 1 → U' 0 20 = nI v)) := by
  have hn := hU.2.1
  obtain ⟨h1, h2, h3, h4, h5⟩ := id hT
  have hb : ∀ j, j < n → b j < 256 := fun j hj => (hU.2.2 j hj).2
  unfold F12_next0
  simp only [bL_d]
  refine ok_B (P := fun (S : pS) => fN U S ∧ S 0 17 = nI p) (ok_P (p - i) (fun q S => fN U S ∧ S 0 17 = nI (i + q)) ⟨fN_r U, h17⟩ ?_ ?_) ?_
  · rintro q S hq ⟨hf, hs⟩
    have hbl := h3 (i + q) (by omega) (by omega)
    have hj : i + q < n := by omega
    rw [u1_d, hs, see_e (byR_f hU hf) (by omega), bB_s, if_pos hj, nI_1]
    have hc := hb _ hj
    generalize b (i + q) = c at hbl hc ⊢
    have hgo : Ok (some (Sum.inl (sU S 0 17 (nI (i + q + 1)))) : Option (pS ⊕ pS)) (fun z => Sum.elim (fun S => fN U S ∧ S 0 17 = nI (i + (q + 1))) (fun S => fN U S ∧ S 0 17 = nI p) z) := ok_s ⟨fN_u (by omega) hf, by rw [sU_s]; rfl⟩
    unfold blB at hbl
    simp only [Bool.or_eq_true, beq_iff_eq] at hbl
    rcases hbl with rfl | rfl
    · rw [if_pos (by decide)]; exact hgo
    · rw [if_neg (by decide), bB_s, if_pos (by decide)]; exact hgo
  · rintro S ⟨hf, hs⟩
    rw [show i + (p - i) = p by omega] at hs
    rw [u1_d, hs, see_e (byR_f hU hf) (by omega), bB_s]
    have hx : ∀ x : Int32, (x = nI 32 ∨ x = nI 10) → ¬ (if p < n then nI (b p) else -1) = x := by
      intro x hx e
      by_cases q : p < n
      · rw [if_pos q] at e
        have hc := hb _ q
        have hbl := h4 q
        unfold blB at hbl
        simp only [Bool.or_eq_false_iff, beq_eq_false_iff_ne] at hbl
        rcases hx with rfl | rfl
        · exact hbl.1 (nI_inj e (by omega) (by omega))
        · exact hbl.2 (nI_inj e (by omega) (by omega))
      · rw [if_neg q] at e
        rcases hx with rfl | rfl
        · exact absurd e (by decide)
        · exact absurd e (by decide)
    rw [if_neg (hx 32 (Or.inl rfl)), bB_s, if_neg (hx 10 (Or.inr rfl))]
    exact ok_s ⟨hf, hs⟩
  · rintro S ⟨hf0, hs⟩
    rw [u1_d, hs]
    have hf : fN U (sU S 0 19 (nI p)) := fN_u (by omega) hf0
    have s17 : sU S 0 19 (nI p) 0 17 = nI p := by rw [sU_n (by omega)]; exact hs
    have s19 : sU S 0 19 (nI p) 0 19 = nI p := sU_s _ _ _ _
    generalize sU S 0 19 (nI p) = T at hf s17 s19 ⊢
    rw [s17, see_e (byR_f hU hf) (by omega), bB_s]
    rcases h5 with ⟨a, b1, c⟩ | ⟨a, b1, c, d, e1, f, g⟩ | ⟨a, b0, b1, c, d, e1, f, g⟩ | ⟨a, b1, c, d, g⟩
    · rw [if_neg (show ¬ p < n by omega), if_pos rfl]
      refine ok_s ⟨fN_u (by omega) hf, ?_, ?_, ?_, fun q => by omega⟩
      · rw [sU_n (by omega), s17, a, c]
      · rw [sU_s, b1]; rfl
      · rw [sU_n (by omega)]; exact s19
    · have hc := hb p a
      have hl := (ltR ⟨b p, hc⟩).1
      simp only [b1, if_true] at hl
      rw [if_pos a, if_neg (show ¬ nI (b p) = -1 from fun q => absurd (q ▸ nI_pos' (n := b p) (by omega)) (by decide)), hl, if_neg n10]
      refine ok_B (P := fun (S : pS) => fN U S ∧ S 0 17 = nI e ∧ S 0 19 = nI p) (ok_P (e - p) (fun q S => fN U S ∧ S 0 17 = nI (p + q) ∧ S 0 19 = nI p) ⟨hf, s17, s19⟩ ?_ ?_) ?_
      · rintro q S hq ⟨hf, hs, hs2⟩
        have hj : p + q < n := by omega
        have hc := hb _ hj
        have hl := (ltR ⟨b (p + q), hc⟩).1
        simp only [e1 (p + q) (by omega) (by omega), if_true] at hl
        rw [u1_d, hs, see_e (byR_f hU hf) (by omega), bB_s, if_pos hj, hl, if_neg n10, nI_1]
        exact ok_s ⟨fN_u (by omega) hf, by rw [sU_s]; rfl, by rw [sU_n (by omega)]; exact hs2⟩
      · rintro S ⟨hf, hs, hs2⟩
        rw [show p + (e - p) = e by omega] at hs
        rw [u1_d, hs, see_e (byR_f hU hf) (by omega), bB_s]
        have hl : F12_isLetter (if e < n then nI (b e) else -1) = 0 := by
          by_cases q : e < n
          · have hl := (ltR ⟨b e, hb e q⟩).1
            rw [if_pos q, hl, f q]; rfl
          · rw [if_neg q]; decide
        rw [hl, if_pos rfl]
        exact ok_s ⟨hf, hs, hs2⟩
      · rintro S ⟨hf, hs, hs2⟩
        rw [u1_d, L_word hr (byR_f hU hf) ((hf.2 12 (by omega)).trans h12) hs hs2 (by omega) d, bB_s, ← g]
        exact ok_s ⟨fN_u (by omega) hf, by rw [sU_n (by omega)]; exact hs, by rw [sU_s], by rw [sU_n (by omega)]; exact hs2, fun q => by
          have := fnd_c (b := b) (p := p) (e := e) (wdL r) 0
          omega⟩
    · have hc := hb p a
      have hl := ltR ⟨b p, hc⟩
      simp only [b0, b1, if_true] at hl
      rw [if_pos a, if_neg (show ¬ nI (b p) = -1 from fun q => absurd (q ▸ nI_pos' (n := b p) (by omega)) (by decide)), hl.1, if_pos (by decide), hl.2, if_neg n10]
      refine ok_B (P := fun (S : pS) => fN U S ∧ S 0 17 = nI e ∧ S 0 19 = nI p ∧ S 0 20 = nI (amt b p (min (e - p) 4))) (ok_P (e - p) (fun q S => fN U S ∧ S 0 17 = nI (p + q) ∧ S 0 19 = nI p ∧ S 0 20 = nI (amt b p (min q 4))) ⟨fN_u (by omega) hf, by rw [sU_n (by omega)]; exact s17, by rw [sU_n (by omega)]; exact s19, by rw [sU_s]; rfl⟩ ?_ ?_) ?_
      · rintro q S hq ⟨hf, hs, hs2, hs3⟩
        have hj : p + q < n := by omega
        have hc := hb _ hj
        have hdg := e1 (p + q) (by omega) (by omega)
        have hl := (ltR ⟨b (p + q), hc⟩).2
        simp only [hdg, if_true] at hl
        rw [u1_d, hs, see_e (byR_f hU hf) (by omega), bB_s, if_pos hj, hl, if_neg n10, hs2, show (4 : Int32) = nI 4 from rfl, nI_add]
        by_cases h4 : 4 ≤ q
        · rw [if_pos (nI_le (by omega) (by omega)), nI_1]
          refine ok_s ⟨fN_u (by omega) hf, by rw [sU_s]; rfl, by rw [sU_n (by omega)]; exact hs2, ?_⟩
          rw [sU_n (by omega), hs3, Nat.min_eq_right h4, Nat.min_eq_right (by omega)]
        · unfold dgB at hdg
          simp only [Bool.and_eq_true, decide_eq_true_iff] at hdg
          rw [if_neg (nI_ge (by omega) (by omega)), bB_s, hs3, sU_n (show ¬ (0 = 0 ∧ 17 = 20) by omega), hs, nI_1, show (10 : Int32) = nI 10 from rfl, pk_mul, nI_add, show (48 : Int32) = nI 48 from rfl, pk_sub (by omega)]
          refine ok_s ⟨fN_u (by omega) (fN_u (by omega) hf), by rw [sU_s]; rfl, by rw [sU_n (by omega), sU_n (by omega)]; exact hs2, ?_⟩
          rw [sU_n (by omega), sU_s, Nat.min_eq_left (show q ≤ 4 by omega), Nat.min_eq_left (show q + 1 ≤ 4 by omega)]
          show _ = nI (10 * amt b p q + (b (p + q) - 48))
          congr 1; omega
      · rintro S ⟨hf, hs, hs2, hs3⟩
        rw [show p + (e - p) = e by omega] at hs
        rw [u1_d, hs, see_e (byR_f hU hf) (by omega), bB_s]
        have hl : F12_isDigit (if e < n then nI (b e) else -1) = 0 := by
          by_cases q : e < n
          · have hl := (ltR ⟨b e, hb e q⟩).2
            rw [if_pos q, hl, f q]; rfl
          · rw [if_neg q]; decide
        rw [hl, if_pos rfl]
        exact ok_s ⟨hf, hs, hs2, hs3⟩
      · rintro S ⟨hf, hs, hs2, hs3⟩
        rw [u1_d, hs, hs2, pk_sub (by omega)]
        rcases g with ⟨g1, g2, g3⟩ | ⟨g1, g2⟩
        · rw [if_neg (nge 5 (b := 5) rfl (by omega) (by decide))]
          refine ok_s ⟨fN_u (by omega) hf, by rw [sU_n (by omega)]; exact hs, by rw [sU_s, g2]; rfl, by rw [sU_n (by omega)]; exact hs2, fun _ => ?_⟩
          rw [sU_n (by omega), hs3, g3, Nat.min_eq_left g1]
        · rw [if_pos (yle 5 (b := 5) rfl (by omega) (by omega))]
          exact ok_s ⟨fN_u (by omega) hf, by rw [sU_n (by omega)]; exact hs, by rw [sU_s, g2]; rfl, by rw [sU_n (by omega)]; exact hs2, fun q => by omega⟩
    · have hc := hb p a
      have hl := ltR ⟨b p, hc⟩
      simp only [b1, c] at hl
      rw [if_pos a, if_neg (show ¬ nI (b p) = -1 from fun q => absurd (q ▸ nI_pos' (n := b p) (by omega)) (by decide)), hl.1, if_pos (by decide), hl.2, if_pos (by decide), sgn_if hc, if_neg n10, nI_1]
      rcases g with ⟨g1, g2⟩ | ⟨g1, g2⟩
      · have hs := snB_c g1
        rw [if_pos g1, show (100 : Int32) = nI 100 from rfl, nI_add]
        refine ok_s ⟨fN_u (by omega) (fN_u (by omega) hf), ?_, ?_, ?_, fun q => by omega⟩
        · rw [sU_n (by omega), sU_s, d]
        · rw [sU_s, g2]
          unfold tmN
          rw [if_neg (by omega), if_neg (by omega), if_neg (by omega), if_pos (by omega)]
        · rw [sU_n (by omega), sU_n (by omega)]; exact s19
      · rw [if_neg (by rw [g1]; decide), if_pos trivial]
        refine ok_s ⟨fN_u (by omega) (fN_u (by omega) hf), ?_, ?_, ?_, fun q => by omega⟩
        · rw [sU_n (by omega), sU_s, d]
        · rw [sU_s, g2]; rfl
        · rw [sU_n (by omega), sU_n (by omega)]; exact s19
end

variable {gG : Nat → Int32}
/-! what is seen -/
theorem r2_R {α : Type} {x y : Option α} (h : R2 x y (fun a b => a = b)) : ∃ v, x = some v ∧ y = some v := by
  obtain ⟨a, b, h1, h2, rfl⟩ := h
  exact ⟨a, h1, h2⟩
theorem r2_if {α β : Type} {c : Prop} [hc : Decidable c] {x y : Option α} {x' y' : Option β} {Q : α → β → Prop} (h1 : R2 x x' Q) (h2 : R2 y y' Q) : R2 (if c then x else y) (if c then x' else y') Q := by
  by_cases h : c
  · rw [if_pos h, if_pos h]; exact h1
  · rw [if_neg h, if_neg h]; exact h2
theorem M_verdict (Sc Sm : pS) (a : Int32) : F11_verdict Sc a = F12_verdict Sm a := rfl
theorem M_fault {Sc Sm : pS} (hR : (Rel gG) Sc Sm) (a : Int32) : F11_fault Sc a = F12_fault Sm a := by
  obtain ⟨ns, nt, nl, ng, rd, tn, nu, la, np, -, -, -, ⟨h1, h2⟩, -⟩ := hR
  unfold F11_fault F12_fault
  rw [h1, h2]
theorem M_at {Sc Sm : pS} (hR : (Rel gG) Sc Sm) (a1 a2 : Int32) : R2 (F11_at Sc a1 a2) (F12_at Sm a1 a2) (fun a b => a = b) := by
  obtain ⟨ns, nt, nl, ng, rd, tn, hV, hW, hT, hB, c4, c5, c6, c7, hE⟩ := Rel_V hR
  unfold F11_at F12_at
  simp only [bL_d]
  by_cases h1 : isN a1 ns
  · rw [hsp_t c4 hW.1 h1, spe_t hV.2.2.1 hW.1 h1, if_neg n10, if_neg n10]
    obtain ⟨s, hs, rfl⟩ := h1
    have hns := hW.1
    have hso : Sc 3 s = Sm 1 (70 + 2 * s) := hE (70 + 2 * s) 3 s (by
      have : s = 0 ∨ s = 1 ∨ s = 2 ∨ s = 3 ∨ s = 4 ∨ s = 5 := by omega
      rcases this with rfl | rfl | rfl | rfl | rfl | rfl <;> rfl)
    have hti : Sc 4 s = Sm 1 (70 + 2 * s + 1) := hE (70 + 2 * s + 1) 4 s (by
      have : s = 0 ∨ s = 1 ∨ s = 2 ∨ s = 3 ∨ s = 4 ∨ s = 5 := by omega
      rcases this with rfl | rfl | rfl | rfl | rfl | rfl <;> rfl)
    by_cases h2 : isN a2 2
    · rw [in_t (m := 1) (n := 1) rfl (by decide) h2, if_neg n10]
      obtain ⟨j, hj, rfl⟩ := h2
      rw [bG_t (vp_in_nI (by omega) (by omega)), bG_t (vp_in_nI (by omega) (by omega)), nI_clamp (by omega), hso, hti]
      simp only [lit_I 70, lit_I 2, pk_mul, nI_add]
      rw [bG_t (vp_in_nI (by omega) (by omega)), nI_clamp (by omega)]
      have : j = 0 ∨ j = 1 := by omega
      rcases this with rfl | rfl
      · exact r2_s rfl
      · exact r2_s rfl
    · rw [in_f (m := 1) (n := 1) rfl (by decide) h2, if_pos rfl]
      rw [if_neg (show ¬ a2 = 0 from fun e => h2 ⟨0, by decide, e⟩), if_neg (show ¬ a2 = 1 from fun e => h2 ⟨1, by decide, e⟩)]
      exact r2_s rfl
  · rw [hsp_f c4 hW.1 h1, spe_f hV.2.2.1 hW.1 h1, if_pos rfl, if_pos rfl]; exact r2_s rfl
theorem M_book {Sc Sm : pS} (hR : (Rel gG) Sc Sm) (a1 a2 : Int32) : R2 (F11_book Sc a1 a2) (F12_book Sm a1 a2) (fun a b => a = b) := by
  obtain ⟨ns, nt, nl, ng, rd, tn, hV, hW, hT, hB, c4, c5, c6, c7, hE⟩ := Rel_V hR
  have hnl := hW.2.2.1
  unfold F11_book F12_book
  simp only [bL_d, wie]
  rw [hW.2.2.2.2.2.2.2.2.1]
  by_cases h1 : isN a1 nl
  · rw [inM_t (by omega) h1, hli_t c6 hnl h1, if_neg n10, if_neg n10]
    by_cases h2 : isN a2 9
    · rw [in_t (m := 8) (n := 8) rfl (by decide) h2, if_neg n10, if_neg n10]
      obtain ⟨i, hi, rfl⟩ := h1
      obtain ⟨j, hj, rfl⟩ := h2
      rw [col (f := j) c6 hnl hi rfl hj, bB_s, RE_bk hE (by omega) hj]
      simp only [lit_I 3296, lit_I 10, pk_mul, nI_add]
      rw [bG_t (vp_in_nI (by omega) (by omega)), nI_clamp (by omega)]
      exact r2_s rfl
    · rw [in_f (m := 8) (n := 8) rfl (by decide) h2, if_pos rfl, if_pos rfl]; exact r2_s rfl
  · rw [inM_f (by omega) h1, hli_f c6 hnl h1, if_pos rfl, if_pos rfl]
    split <;> exact r2_s rfl
theorem M_look {Sc Sm : pS} (hR : (Rel gG) Sc Sm) (a1 : Int32) : R2 (F11_look Sc a1) (F12_look Sm a1) (fun a b => a = b) := by
  have hR0 := hR
  obtain ⟨ns, nt, nl, ng, rd, tn, nu, la, np, ⟨hE, -⟩, hP, -⟩ := hR
  have e0 := hE 67 1 4 rfl
  have e1 := hE 68 1 5 rfl
  have e2 := hE 0 1 2 rfl
  have e3 := hE 1 1 3 rfl
  have e4 := hE 66 1 1 rfl
  have e5 := hE 2 1 6 rfl
  have e6 := hE 3 1 0 rfl
  have e7 := hE 640 8 0 rfl
  have e8 := hE 641 15 0 rfl
  have e10 := hE 69 1 7 rfl
  have e11 := hE 642 22 0 rfl
  have e9 : Sc 65 0 = Sm 0 3 := hP.2.2.2.1.trans hP.2.2.1.symm
  unfold F11_look F12_look
  rw [e0, e1, e2, e3, e4, e5, e6, e7, e8, e9, e10, e11]
  refine r2_if (r2_s rfl) ?_
  refine r2_if (r2_s rfl) ?_
  refine r2_if (r2_s rfl) ?_
  refine r2_if (r2_s rfl) ?_
  refine r2_if (r2_s rfl) ?_
  refine r2_if (r2_s rfl) ?_
  refine r2_if (r2_s rfl) ?_
  refine r2_if (r2_s rfl) ?_
  refine r2_if (r2_s rfl) ?_
  refine r2_if (r2_s rfl) ?_
  refine r2_if (r2_s rfl) ?_
  refine r2_if (r2_s rfl) ?_
  rw [wie]
  by_cases h : F12_isIn a1 20 24 = 0
  · rw [if_pos h, if_pos h]; exact r2_s rfl
  · rw [if_neg h, if_neg h]
    rw [isIn_d] at h
    by_cases h2 : 20 ≤ a1 ∧ a1 ≤ 24
    · have h0 : 0 ≤ a1 := Int32.le_trans (by decide) h2.1
      obtain ⟨j, hj, rfl⟩ := nI_of (Int32.not_lt.mpr h0)
      have j1 : 20 ≤ j := (nI_leI (a := 20) (by decide) hj).mp h2.1
      have j2 : j ≤ 24 := (nI_leI (b := 24) hj (by decide)).mp h2.2
      simp only [lit_I 60, lit_I 20, nI_add]
      rw [pk_sub (by omega), pk_sub (by omega), bG_t (vp_in_nI (by omega) (by omega)), bG_t (vp_in_nI (by omega) (by omega)), nI_clamp (by omega), nI_clamp (by omega)]
      refine r2_s ?_
      have := hE (60 + (j - 20)) 2 (j - 20) (loc_wea (by omega))
      rw [this, show 60 + (j - 20) = 60 + j - 20 by omega]
    · rw [if_neg h2] at h; exact absurd rfl h
theorem jm1 (a b : Int32) : F12_greater a b = jmax a b := gre
/-- a loop over n rows that carries one number -/
theorem r2_F1 {b : Int32 × Int32 → Option ((Int32 × Int32) ⊕ Int32)} {b' : Int32 × Int32 → Option ((Int32 × Int32) ⊕ Int32)} {x : Int32} (n : Nat) (I : Int32 → Prop) (h0 : I x) (hs : ∀ i v, i < n → I v → ∃ w, b (v, nI i) = some (.inl (w, nI (i + 1))) ∧ b' (v, nI i) = some (.inl (w, nI (i + 1))) ∧ I w) (he : ∀ v, b (v, nI n) = some (.inr v) ∧ b' (v, nI n) = some (.inr v)) : R2 (bP b (x, 0)) (bP b' (x, 0)) (fun a a' => a = a' ∧ I a) := by
  refine r2_P n (fun i s s' => ∃ v, s = (v, nI i) ∧ s' = (v, nI i) ∧ I v) ⟨x, rfl, rfl, h0⟩ ?_ ?_
  · rintro i s s' hi ⟨v, rfl, rfl, hv⟩
    obtain ⟨w, h1, h2, h3⟩ := hs i v hi hv
    rw [h1, h2]
    exact r2_s ⟨w, rfl, rfl, h3⟩
  · rintro s s' ⟨v, rfl, rfl, hv⟩
    rw [(he v).1, (he v).2]
    exact r2_s ⟨rfl, hv⟩
theorem M_after {Sc Sm : pS} (hR : (Rel gG) Sc Sm) (a1 a2 : Int32) : R2 (F11_after Sc a1 a2) (F12_after Sm a1 a2) (fun a b => a = b) := by
  obtain ⟨ns, nt, nl, ng, rd, tn, hV, hW, hT, hB, c4, c5, c6, c7, hE⟩ := Rel_V hR
  have hnl := hW.2.2.1
  have hnt := hW.2.1
  have e2 := hW.2.2.2.2.2.2.2.2.1
  have e66 := hE 66 1 1 rfl
  unfold F11_after F12_after
  simp only [bL_d, wie]
  by_cases h1 : isN a1 nt
  · rw [thr_t hW.2.2.2.2.2.2.2.1 hnt h1, if_neg n10]
    obtain ⟨t, ht, rfl⟩ := h1
    rw [one_t c5 hnt ht, bB_s, bO_1]
    by_cases h2 : F12_isIn a2 0 6 = 0
    · rw [if_pos h2, if_pos h2]; exact r2_s rfl
    · rw [if_neg h2, if_neg h2]
      unfold F10_bestBefore
      simp only [bL_d]
      have hbb : ∀ (x : Option Int32), bB (bB x (u1 fun v => some v)) (fun v => some v) = bB x (u1 fun v => some v) := fun x => by cases x <;> rfl
      rw [hbb]
      refine r2_B (r2_F1 nl (fun _ => True) trivial ?_ ?_) (fun a b h => r2_s h.1)
      · intro i v hi _
        simp only [u2_d]
        rw [c6, e2, if_neg (nI_ge hi (by omega)), if_neg (nI_ge hi (by omega))]
        unfold F10_isToday
        simp only [bL_d, Nat.reduceAdd]
        rw [col2 c6 hnl hi, bB_s, col0 c6 hnl hi, bB_s, col8 c6 hnl hi, col1 c6 hnl hi, col7 c6 hnl hi]
        rw [RE_bk hE (by omega) (by decide), RE_bk hE (by omega) (by decide), RE_bk hE (by omega) (by decide), RE_bk hE (by omega) (by decide), RE_bk hE (by omega) (by decide), e66]
        simp only [lit_I 3296, lit_I 10, lit_I 2, lit_I 8, lit_I 7, lit_I 1, pk_mul, nI_add]
        simp (disch := omega) only [bG_N, nI_clamp, bB_s, gre, Nat.add_zero]
        by_cases q1 : Sm 1 (3296 + 10 * i) = Sm 1 66
        · by_cases q2 : Sm 1 (3296 + 10 * i + 2) = nI t
          · by_cases q3 : Sm 1 (3296 + 10 * i + 8) = 0
            · by_cases q4 : a2 ≤ Sm 1 (3296 + 10 * i + 1)
              · refine ⟨v, ?_, ?_, trivial⟩ <;> simp only [q1, q2, q3, q4, if_true, bB_s, if_neg (show ¬ nI 1 = 0 by decide)]
              · refine ⟨jmax v (Sm 1 (3296 + 10 * i + 7)), ?_, ?_, trivial⟩ <;> simp only [q1, q2, q3, q4, if_true, if_false, bB_s, if_neg (show ¬ nI 1 = 0 by decide)]
            · refine ⟨v, ?_, ?_, trivial⟩ <;> simp only [q1, q2, q3, if_true, if_false, bB_s, if_neg (show ¬ nI 1 = 0 by decide)]
          · refine ⟨v, ?_, ?_, trivial⟩ <;> simp only [q1, q2, if_true, if_false, bB_s]
        · refine ⟨v, ?_, ?_, trivial⟩
          · by_cases q2 : Sm 1 (3296 + 10 * i + 2) = nI t
            · simp only [q1, q2, if_true, if_false, bB_s]
            · simp only [q1, q2, if_true, if_false, bB_s]
          · simp only [q1, if_false]
      · intro v
        simp only [u2_d]
        rw [c6, e2, if_pos (nI_le (Nat.le_refl _) (by omega)), if_pos (nI_le (Nat.le_refl _) (by omega))]
        exact ⟨rfl, rfl⟩
  · rw [thr_f hW.2.2.2.2.2.2.2.1 hnt h1, if_pos rfl, one_f c5 hnt h1, bB_s, bO_0]; exact r2_s rfl

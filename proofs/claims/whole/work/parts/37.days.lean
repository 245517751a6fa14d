variable {gG : Nat → Int32}
/-! the days, a meet anew -/
theorem VR_of {ns nt nl ng rd tn : Nat} {T U : pS} (h : RW 1 1 ns nt nl ng rd tn T U) : VR ns T U := ⟨h.2.1.1, RE_0 h.1, h.2.1.2.2.2.2.2.2.1, h.2.2.2.2.1, h.2.2.2.2.2.1, h.2.2.2.2.2.2⟩
theorem RW_f {ns nt nl ng rd tn : Nat} {T U T' U' : pS} (h : RW 1 1 ns nt nl ng rd tn T U) (hc : fC T T') (hm : fM U U') : RW 1 1 ns nt nl ng rd tn T' U' := RW_fr h (fun k a b c d e => hc k (by unfold scC; omega)) (hm.1 1 (by decide) (by unfold scM; omega))
theorem Rel_f0 {Sc Sm T U : pS} {ns nt nl ng rd tn : Nat} (hR : (Rel gG) Sc Sm) (hW : RW 1 1 ns nt nl ng rd tn T U) (hc : fO Sc T) (hm : fP Sm U) (h1 : T 65 0 = 0) (h2 : T 65 1 = Sc 65 1) (h3 : U 0 3 = 0) : (Rel gG) T U := by
  obtain ⟨_, _, _, _, _, _, nu, la, np, -, hP, -⟩ := id hR
  exact Rel_of (nu := 0) (la := la) hR hW (Past_0 h3 h1 (by rw [h2]; exact hP.2.2.2.2.1) hP.2.1) hc hm
/-- one thrower's elbow mends a day -/
theorem L_mend {ns nt nl ng rd tn t : Nat} {T U : pS} (hW : RW 1 1 ns nt nl ng rd tn T U) (ht : t < nt) : R2 (F11_mend T (some (29 + 2 * t))) (bB (F12_own U (nI t) 1) fun r_12 => bB (F12_own U (nI t) 3) fun r_13 => bB (F12_armFacts U (nI t) 0 0 0 r_12 r_13) fun S_14 => bB (F12_own S_14 (nI t) 1) fun r_15 => bB2 (F12_lawSays S_14 1 26 0 1000) fun r_16 S_17 => F12_gives S_17 (nI t) 1 (F12_greater 0 (r_15 - r_16))) (fun T' U' => RW 1 1 ns nt nl ng rd tn T' U' ∧ fO T T' ∧ fP U U' ∧ T' 65 = T 65 ∧ U' 0 3 = U 0 3 ∧ U' 1 66 = U 1 66) := by
  have ht8 : t < 8 := by have := hW.2.1.2.1; omega
  have hE := hW.1
  unfold F11_mend
  rw [bO_1]
  simp only [bL_d]
  rw [own1 _ ht8, bB_s, own3 _ ht8, bB_s, armF ht8, bB_s, own1 _ ht8, bB_s, af_ne (by decide)]
  have hAV : AV 63 (F0_ask T 63 (29 + 2 * t) (T 1 2)) 0 0 0 (U 1 (5 + 7 * t)) (U 1 (4 + 7 * t)) (U 1 (7 + 7 * t)) (U 1 (6 + 7 * t) / 100) (U 1 0) := by
    have := AV_ask (A := 63) (o := 29 + 2 * t) (T := T) (rd := T 1 2) (by omega)
    rw [RE_t0 hE ht8, RE_t1 hE ht8, RE_t2 hE ht8, RE_t3 hE ht8, hE 0 1 2 rfl] at this
    rw [hE 0 1 2 rfl]
    exact this
  have hfa : fC T (F0_ask T 63 (29 + 2 * t) (T 1 2)) := fun k hk => ask_ne (by unfold scC at hk; omega)
  have e1 : F0_ask T 63 (29 + 2 * t) (T 1 2) (29 + 2 * t) 1 = U 1 (5 + 7 * t) := by rw [ask_ne (by omega)]; exact RE_t1 hE ht8
  generalize F0_ask T 63 (29 + 2 * t) (T 1 2) = T0 at hAV hfa e1 ⊢
  obtain ⟨r, T', U', k1, k2, k3, k4, k5, -⟩ := L_as (w := 2) (VR_fr (VR_of hW) hfa (fM_r U)) (by decide) hAV
  have k1' : F0_tell T0 63 15 2 = some (r, T') := k1
  have k2' : F12_lawSays (af U t 0 0 0 (U 1 (5 + 7 * t)) (U 1 (7 + 7 * t))) 1 26 0 1000 = some (r, U') := k2
  rw [k1', bB2_s, k2', bB2_s, giv1 _ _ ht8, gre, e1]
  have hc := fC_t hfa k4
  have hW2 := RW_f hW hc k5
  refine r2_s ⟨RW_t hW2 ht (f := 1) (by decide) nofun (fun _ => wear_l (hW.2.2.1 t ht).2.1 k3) nofun, fO_u (by omega) (fC_O hc), fP_u (by omega) (fM_P k5), ?_, ?_, ?_⟩
  · rw [sU_ne (by omega)]; exact hc 65 (by unfold scC; omega)
  · rw [sU_ne (by decide)]; exact k5.2 3 (by decide)
  · rw [sU_n (by omega), k5.1 1 (by decide) (by unfold scM; omega)]
theorem M_days {Sc Sm : pS} (hR : (Rel gG) Sc Sm) (a1 : Int32) : R2 (F11_days Sc a1) (F12_days Sm a1) (Ans gG) := by
  obtain ⟨ns, nt, nl, ng, rd, tn, nu, la, np, hW, hP, -⟩ := id hR
  have h2 := hW.2.1
  have hnt := h2.2.1
  obtain ⟨d0, hd0, ed0⟩ := h2.2.2.2.2.2.2.2.2.2.2.2.2.1
  unfold F11_days F12_days
  simp only [wie, bL_d]
  by_cases h1 : F12_isIn a1 1 100 = 0
  · rw [if_pos h1, if_pos h1]; exact r2_A hR
  · rw [if_neg h1, if_neg h1]
    have hn : ∃ n, n ≤ 100 ∧ a1 = nI n := by
      rw [isIn_d] at h1
      by_cases q : 1 ≤ a1 ∧ a1 ≤ 100
      · obtain ⟨j, hj, e⟩ := (in_N (m := 100) (n := 100) rfl (by decide)).mp ⟨Int32.le_trans (by decide) q.1, q.2⟩
        exact ⟨j, by omega, e⟩
      · rw [if_neg q] at h1; exact absurd rfl h1
    obtain ⟨n, hn, rfl⟩ := hn
    rw [hW.1 66 1 1 rfl, ed0, nI_add]
    by_cases h3 : d0 + n ≤ 9999
    · rw [if_pos (xle 9999 (b := 9999) rfl h3 (by decide)), if_pos (xle 9999 (b := 9999) rfl h3 (by decide)), fgC]
      have hW0 : RW 1 1 ns nt nl ng rd tn (sU Sc 65 0 0) Sm := RW_x (j := 0) (w := 0) hW (Or.inl rfl)
      refine r2_B (P := fun (T U : pS) => RW 1 1 ns nt nl ng rd tn T U ∧ fO Sc T ∧ fP Sm U ∧ T 65 = sU Sc 65 0 0 65) (r2_P n (fun j s s' => ∃ (T U : pS), s = (nI j, T) ∧ s' = (nI j, U) ∧ RW 1 1 ns nt nl ng rd tn T U ∧ fO Sc T ∧ fP Sm U ∧ T 65 = sU Sc 65 0 0 65 ∧ U 1 66 = nI (d0 + j)) ?_ ?_ ?_) ?_
      · exact ⟨_, Sm, rfl, rfl, hW0, fO_u (by omega) (fO_r _), fP_r _, rfl, ed0⟩
      · rintro j s s' hj ⟨T, U, rfl, rfl, hRW, hT, hU, h65, h66⟩
        simp only [u2_d]
        rw [if_neg (nI_ge hj (by omega)), if_neg (nI_ge hj (by omega))]
        refine r2_B (P := fun (T' U' : pS) => RW 1 1 ns nt nl ng rd tn T' U' ∧ fO Sc T' ∧ fP Sm U' ∧ T' 65 = sU Sc 65 0 0 65 ∧ U' 1 66 = nI (d0 + j)) (r2_P nt (fun i s s' => ∃ (T' U' : pS), s = (nI i, T') ∧ s' = (nI i, U') ∧ RW 1 1 ns nt nl ng rd tn T' U' ∧ fO Sc T' ∧ fP Sm U' ∧ T' 65 = sU Sc 65 0 0 65 ∧ U' 1 66 = nI (d0 + j)) ?_ ?_ ?_) ?_
        · exact ⟨T, U, rfl, rfl, hRW, hT, hU, h65, h66⟩
        · rintro i s s' hi ⟨T', U', rfl, rfl, hRW', hT', hU', h65', h66'⟩
          simp only [u2_d]
          have e5 : T' 1 5 = nI nt := (hRW'.1 68 1 5 rfl).trans hRW'.2.1.2.2.2.2.2.2.2.1
          rw [e5, hRW'.2.1.2.2.2.2.2.2.2.1, if_neg (nI_ge hi (by omega)), if_neg (nI_ge hi (by omega)), one_t e5 hnt hi, bB_s, nI_1]
          obtain ⟨T2, U2, k1, k2, k3, k4, k5, k6, k7, k8⟩ := L_mend hRW' hi
          have hi8 : i < 8 := by omega
          rw [own1 _ hi8, bB_s, own3 _ hi8, bB_s, armF hi8, bB_s, own1 _ hi8, bB_s] at k2
          rw [own1 _ hi8, bB_s, own3 _ hi8, bB_s, armF hi8, bB_s, own1 _ hi8, bB_s, k1, bB_s]
          cases e : F12_lawSays (af U' i 0 0 0 (U' 1 (5 + 7 * i)) (U' 1 (7 + 7 * i))) 1 26 0 1000 with
          | none => rw [e] at k2; cases k2
          | some q =>
            obtain ⟨r, V⟩ := q
            rw [e, bB2_s] at k2
            rw [bB2_s, k2, bB_s]
            exact r2_s ⟨T2, U2, rfl, rfl, k3, fO_t hT' k4, fP_t hU' k5, k6.trans h65', k8.trans h66'⟩
        · rintro s s' ⟨T', U', rfl, rfl, hRW', hT', hU', h65', h66'⟩
          simp only [u2_d]
          have e5 : T' 1 5 = nI nt := (hRW'.1 68 1 5 rfl).trans hRW'.2.1.2.2.2.2.2.2.2.1
          rw [e5, hRW'.2.1.2.2.2.2.2.2.2.1, if_pos (nI_le (Nat.le_refl _) (by omega)), if_pos (nI_le (Nat.le_refl _) (by omega))]
          exact r2_s ⟨hRW', hT', hU', h65', h66'⟩
        · rintro T' U' ⟨hRW', hT', hU', h65', h66'⟩
          simp only [u1_d]
          rw [hRW'.1 66 1 1 rfl, h66', nI_1, nI_1]
          refine r2_s ⟨_, _, rfl, rfl, RW_1 (j := 66) hRW' rfl (by omega) (Wn_day hRW'.2.1 ⟨d0 + j + 1, by omega, rfl⟩) (Nat.le_refl _) (Nat.le_refl _), fO_u (by omega) hT', fP_u (by omega) hU', ?_, sU_s _ _ _ _⟩
          rw [sU_ne (by decide)]; exact h65'
      · rintro s s' ⟨T, U, rfl, rfl, hRW, hT, hU, h65, h66⟩
        simp only [u2_d]
        rw [if_pos (nI_le (Nat.le_refl _) (by omega)), if_pos (nI_le (Nat.le_refl _) (by omega))]
        exact r2_s ⟨hRW, hT, hU, h65⟩
      · rintro T U ⟨hRW, hT, hU, h65⟩
        simp only [u1_d, fgM]
        exact r2_ans (Rel_f0 hR (RW_y (k := 0) hRW (by decide)) hT (fP_u (by omega) hU) (by rw [h65, sU_s]) (by rw [h65, sU_n (by decide)]) (sU_s _ _ _ _))
    · rw [if_neg (xnl 9999 (b := 9999) rfl (by omega) (by omega)), if_neg (xnl 9999 (b := 9999) rfl (by omega) (by omega))]
      exact r2_A hR
theorem Wn_rd {Sm : pS} {ns nt nl ng rd tn x : Nat} (h : Wn 1 Sm ns nt nl ng rd tn) (hx : x ≤ 6) (hy : tn < nt ∨ x = 0) : Wn 1 (sU Sm 1 0 (nI x)) ns nt nl ng x tn := by
  obtain ⟨h1, h2, h3, h4, h5, h6, h7, h8, h9, h10, h11, h12, h13, h14, h15⟩ := h
  refine ⟨h1, h2, h3, h4, hx, by omega, ?_, ?_, ?_, ?_, sU_s _ _ _ _, ?_, ?_, ?_, ?_⟩ <;> rw [sU_n (by decide)] <;> assumption
theorem Wn_t0 {Sm : pS} {ns nt nl ng rd tn : Nat} (h : Wn 1 Sm ns nt nl ng rd tn) (hy : 0 < nt ∨ rd = 0) : Wn 1 (sU Sm 1 1 (nI 0)) ns nt nl ng rd 0 := by
  obtain ⟨h1, h2, h3, h4, h5, h6, h7, h8, h9, h10, h11, h12, h13, h14, h15⟩ := h
  refine ⟨h1, h2, h3, h4, h5, by omega, ?_, ?_, ?_, ?_, ?_, sU_s _ _ _ _, ?_, ?_, ?_⟩ <;> rw [sU_n (by decide)] <;> assumption
theorem sU_cj (S : pS) {k i i' : Nat} {v w : Int32} (h : i ≠ i') : sU (sU S k i v) k i' w = sU (sU S k i' w) k i v := by
  funext a b
  rw [sU_get, sU_get, sU_get, sU_get]
  by_cases h1 : a = k ∧ b = i'
  · by_cases h2 : a = k ∧ b = i
    · omega
    · rw [if_pos h1, if_neg h2, if_pos h1]
  · rw [if_neg h1, if_neg h1]
theorem M_meet {Sc Sm : pS} (hR : (Rel gG) Sc Sm) : R2 (F11_meet Sc) (F12_meet Sm) (Rel gG) := by
  obtain ⟨ns, nt, nl, ng, rd, tn, nu, la, np, hW, hP, -⟩ := id hR
  have hnt := hW.2.1.2.1
  unfold F11_meet F12_meet F10_beginMeet
  simp only [bL_d, fgC, fgM]
  have hbb : ∀ (x : Option pS), bB (bB x (u1 fun S => some S)) (fun S => some S) = bB x (u1 fun S => some S) := fun x => by cases x <;> rfl
  rw [hbb]
  have hW0 : RW 1 1 ns nt nl ng rd tn (sU Sc 65 0 0) Sm := RW_x (j := 0) (w := 0) hW (Or.inl rfl)
  have hW1 : RW 1 1 ns nt nl ng 0 tn (sU (sU Sc 65 0 0) 1 2 (nI 0)) (sU Sm 1 0 (nI 0)) := RW_1 (j := 0) hW0 rfl (by omega) (Wn_rd hW.2.1 (by decide) (Or.inr rfl)) (Nat.le_refl _) (Nat.le_refl _)
  have hW2 : RW 1 1 ns nt nl ng 0 0 (sU (sU (sU Sc 65 0 0) 1 2 (nI 0)) 1 3 (nI 0)) (sU (sU Sm 1 0 (nI 0)) 1 1 (nI 0)) := RW_1 (j := 1) hW1 rfl (by omega) (Wn_t0 hW1.2.1 (Or.inr rfl)) (Nat.le_refl _) (Nat.le_refl _)
  refine r2_B (P := fun (T U : pS) => RW 1 1 ns nt nl ng 0 0 T U ∧ fO Sc T ∧ fP Sm U ∧ T 65 = sU Sc 65 0 0 65) (r2_P nt (fun i s s' => ∃ (T U : pS), s = (nI i, T) ∧ s' = (nI i, U) ∧ RW 1 1 ns nt nl ng 0 0 T U ∧ fO Sc T ∧ fP Sm U ∧ T 65 = sU Sc 65 0 0 65) ?_ ?_ ?_) ?_
  · refine ⟨_, _, rfl, rfl, hW2, fO_u (by omega) (fO_u (by omega) (fO_u (by omega) (fO_r _))), fP_u (by omega) (fP_u (by omega) (fP_r _)), ?_⟩
    rw [sU_ne (by decide), sU_ne (by decide)]
  · rintro i s s' hi ⟨T, U, rfl, rfl, hRW, hT, hU, h65⟩
    have hi8 : i < 8 := by omega
    simp only [u2_d]
    have e5 : T 1 5 = nI nt := (hRW.1 68 1 5 rfl).trans hRW.2.1.2.2.2.2.2.2.2.1
    rw [e5, hRW.2.1.2.2.2.2.2.2.2.1, if_neg (nI_ge hi (by omega)), if_neg (nI_ge hi (by omega)), if_neg (nge 8 (b := 8) rfl hi8 (by decide)), bG_t (vp_in_nI (by omega) (by omega)), nI_clamp (by omega), giv3 _ _ hi8, bB_s, giv2 _ _ hi8, bB_s, giv4 _ _ hi8, bB_s, nI_1]
    unfold F8_beginMeet
    simp only [bL_d, Nat.reduceAdd]
    rw [sU_cj T (show 2 ≠ 3 by decide)]
    have w1 := RW_t hRW hi (f := 3) (v := 0) (by decide) nofun nofun nofun
    have w2 := RW_t w1 hi (f := 2) (v := 0) (by decide) nofun nofun (fun _ => isN_0 (by decide))
    have w3 := RW_tn w2 hi (nx := 0) (fun no _ _ => Nat.zero_le _)
    refine r2_s ⟨_, _, rfl, rfl, w3, fO_u (by omega) (fO_u (by omega) (fO_u (by omega) hT)), fP_u (by omega) (fP_u (by omega) (fP_u (by omega) hU)), ?_⟩
    rw [sU_ne (by omega), sU_ne (by omega), sU_ne (by omega)]; exact h65
  · rintro s s' ⟨T, U, rfl, rfl, hRW, hT, hU, h65⟩
    simp only [u2_d]
    have e5 : T 1 5 = nI nt := (hRW.1 68 1 5 rfl).trans hRW.2.1.2.2.2.2.2.2.2.1
    rw [e5, hRW.2.1.2.2.2.2.2.2.2.1, if_pos (nI_le (Nat.le_refl _) (by omega)), if_pos (nI_le (Nat.le_refl _) (by omega))]
    exact r2_s ⟨hRW, hT, hU, h65⟩
  · rintro T U ⟨hRW, hT, hU, h65⟩
    simp only [u1_d]
    exact r2_s (Rel_f0 hR (RW_y (k := 0) hRW (by decide)) hT (fP_u (by omega) hU) (by rw [h65, sU_s]) (by rw [h65, sU_n (by decide)]) (sU_s _ _ _ _))

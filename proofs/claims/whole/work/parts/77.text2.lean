variable {gG : Nat → Int32}
section
/-! text(k, thrower) -/
theorem keepLaw_d (S : pS) (k : Nat) : F11_keepLaw S k = (F3_copy S k 51 k 0, F3_copy S k 51) := by
  unfold F11_keepLaw
  rw [bL_d]
theorem M_text {Sc Sm : pS} (hR : (Rel gG) Sc Sm) (a1 a2 : Int32) : R2 (F11_text Sc a1 a2) (F12_text Sm a1 a2) (Ans gG) := by
  obtain ⟨ns, nt, nl, ng, rd, tn, hV, hW, -, -, c4, c5, -⟩ := Rel_V hR
  have hnt := hW.2.1
  obtain ⟨g1, g2, g3, g4, g5, g6⟩ := begin_f Sc
  have hthr : ∀ x, F12_isThrower (sU (sU Sm 0 23 0) 0 25 (-1)) x = F12_isThrower Sm x := fun x => by
    unfold F12_isThrower
    rw [sU_ne (by decide), sU_ne (by decide)]
  have hone : ∃ r2, F10_one (F5_begin Sc 45) 1 a2 = some r2 ∧ ((∃ t, t < nt ∧ a2 = nI t ∧ r2 = some (29 + 2 * t)) ∨ (¬ isN a2 nt ∧ r2 = none)) := by
    have e5 : F5_begin Sc 45 1 5 = nI nt := by rw [g1 1 (by decide) (by decide)]; exact c5
    by_cases h : isN a2 nt
    · obtain ⟨t, ht, rfl⟩ := h
      exact ⟨_, one_t e5 hnt ht, Or.inl ⟨t, ht, rfl, rfl⟩⟩
    · exact ⟨_, one_f e5 hnt h, Or.inr ⟨h, rfl⟩⟩
  obtain ⟨r2, o1, o2⟩ := hone
  -- nothing is read
  have hno : (Rel gG) (sU (F5_begin Sc 45) 46 0 0) (sU (sU (sU Sm 0 23 0) 0 25 (-1)) 0 16 0) := by
    refine Rel_no hR (fun k hk => by rw [sU_ne (by omega)]; exact g1 k (by omega) (by omega)) (fun k a b c d => ?_) (fun j hj => ?_) (sU_s _ _ _ _) (sU_s _ _ _ _) ⟨?_, ?_⟩
    · rw [sU_ne a, sU_ne a, sU_ne a]
    · rw [sU_n (by omega), sU_n (by omega), sU_n (by omega)]
    · rw [sU_ne (by decide), g2, sU_n (by omega), sU_n (by omega), sU_s]
    · rw [sU_ne (by decide), g3, sU_n (by omega), sU_s]
  unfold F11_text F12_text
  simp only [bL_d]
  rw [o1, bB_s]
  have eref : ∀ x, sU (sU (sU (sU (sU Sm 0 23 0) 0 25 (-1)) 0 21 0) 0 17 0) 0 12 x = refS Sm x := fun _ => rfl
  by_cases h : isN a1 4
  · have hin : F12_isIn a1 0 3 = 1 := in_t (m := 3) (n := 3) rfl (by decide) h
    rw [hin, if_neg n10, eref]
    obtain ⟨k, hk, rfl⟩ := h
    rcases (show k = 0 ∨ k = 1 ∨ k = 2 ∨ k = 3 by omega) with rfl | rfl | rfl | rfl
    · obtain ⟨v, T', ⟨p1, U'⟩, U1, a1, a2, a3, a4⟩ := M_law hR (r := 0) (Or.inl rfl)
      have a1' : F5_law (F5_begin Sc 45) 45 0 4 = some (v, T') := a1
      rw [if_pos (show nI 0 = 0 from rfl), a1', bB2_s, if_neg (show ¬ nI 0 = 2 by decide), a2, bB_s, if_neg (show ¬ nI 0 = 2 by decide), a3, bB2_s]
      rcases a4 with ⟨rfl, rfl, ⟨q1, U2⟩, b1, b2, b3⟩ | ⟨rfl, rfl, b1⟩
      · have b1' : F12_putsLaw (sU U' 0 16 0) (nI 0) = some (q1, U2) := b1
        simp only at b2
        rw [if_neg n10, keepLaw_d, bT2_s, if_neg n10, if_neg (show ¬ nI 0 = 2 by decide), if_neg (show ¬ nI 0 = 3 by decide), b1', bB2_s]
        exact r2_s ⟨b2.symm, b3⟩
      · rw [if_pos rfl, if_neg (show ¬ nI 0 = 1 by decide), if_neg (show ¬ nI 0 = 2 by decide), if_neg (show ¬ nI 0 = 3 by decide), if_pos rfl]
        refine r2_s ⟨rfl, ?_⟩
        have e1 : sU U' 0 16 0 0 21 = U' 0 21 := by rw [sU_n (by omega)]
        have e2 : sU (sU U' 0 16 0) 0 23 (U' 0 21) 0 22 = U' 0 22 := by rw [sU_n (by omega), sU_n (by omega)]
        show (Rel gG) _ (sU (sU (sU U' 0 16 0) 0 23 (sU U' 0 16 0 0 21)) 0 25 (sU (sU U' 0 16 0) 0 23 (sU U' 0 16 0 0 21) 0 22))
        rw [e1, e2]
        exact b1
    · obtain ⟨v, T', ⟨p1, U'⟩, U1, a1, a2, a3, a4⟩ := M_law hR (r := 1) (Or.inr (Or.inl rfl))
      have a1' : F5_law (F5_begin Sc 45) 45 1 3 = some (v, T') := a1
      rw [if_neg (show ¬ nI 1 = 0 by decide), if_pos (show nI 1 = 1 from rfl), a1', bB2_s, if_neg (show ¬ nI 1 = 2 by decide), a2, bB_s, if_neg (show ¬ nI 1 = 2 by decide), a3, bB2_s]
      rcases a4 with ⟨rfl, rfl, ⟨q1, U2⟩, b1, b2, b3⟩ | ⟨rfl, rfl, b1⟩
      · have b1' : F12_putsLaw (sU U' 0 16 0) (nI 1) = some (q1, U2) := b1
        simp only at b2
        rw [if_neg n10, keepLaw_d, bT2_s, if_neg n10, if_neg (show ¬ nI 1 = 2 by decide), if_neg (show ¬ nI 1 = 3 by decide), b1', bB2_s]
        exact r2_s ⟨b2.symm, b3⟩
      · rw [if_pos rfl, if_neg (show ¬ nI 1 = 2 by decide), if_neg (show ¬ nI 1 = 3 by decide), if_pos rfl]
        refine r2_s ⟨rfl, ?_⟩
        have e1 : sU U' 0 16 0 0 21 = U' 0 21 := by rw [sU_n (by omega)]
        have e2 : sU (sU U' 0 16 0) 0 23 (U' 0 21) 0 22 = U' 0 22 := by rw [sU_n (by omega), sU_n (by omega)]
        show (Rel gG) _ (sU (sU (sU U' 0 16 0) 0 23 (sU U' 0 16 0 0 21)) 0 25 (sU (sU U' 0 16 0) 0 23 (sU U' 0 16 0 0 21) 0 22))
        rw [e1, e2]
        exact b1
    · rw [if_neg (show ¬ nI 2 = 0 by decide), if_neg (show ¬ nI 2 = 1 by decide), if_pos (show nI 2 = 2 from rfl), if_pos (show nI 2 = 2 from rfl), hthr]
      rcases o2 with ⟨t, ht, rfl, rfl⟩ | ⟨hn, rfl⟩
      · rw [bO_1, thr_t hW.2.2.2.2.2.2.2.1 hnt ⟨t, ht, rfl⟩, if_neg n10, g1 1 (by decide) (by decide), c4]
        obtain ⟨v, T', ⟨p1, U'⟩, U1, a1, a2, a3, a4⟩ := M_plan hR hW ht
        rw [a1, bB2_s, a2, bB_s, if_pos (show nI 2 = 2 from rfl), a3, bB2_s]
        rcases a4 with ⟨rfl, rfl, ⟨q1, U2⟩, b1, b2, b3⟩ | ⟨rfl, rfl, b1⟩
        · simp only at b2
          rw [if_neg n10, if_neg n10, if_pos (show nI 2 = 2 from rfl), b1, bB2_s]
          exact r2_s ⟨b2.symm, b3⟩
        · rw [if_pos rfl, if_neg (show ¬ nI 2 = 3 by decide), if_pos rfl]
          refine r2_s ⟨rfl, ?_⟩
          have e1 : sU U' 0 16 0 0 21 = U' 0 21 := by rw [sU_n (by omega)]
          have e2 : sU (sU U' 0 16 0) 0 23 (U' 0 21) 0 22 = U' 0 22 := by rw [sU_n (by omega), sU_n (by omega)]
          show (Rel gG) _ (sU (sU (sU U' 0 16 0) 0 23 (sU U' 0 16 0 0 21)) 0 25 (sU (sU U' 0 16 0) 0 23 (sU U' 0 16 0 0 21) 0 22))
          rw [e1, e2]
          exact b1
      · rw [bO_0, thr_f hW.2.2.2.2.2.2.2.1 hnt hn, if_pos rfl, if_neg (show ¬ nI 2 = 3 by decide)]
        exact r2_s ⟨rfl, hno⟩
    · obtain ⟨v, T', ⟨p1, U'⟩, U1, a1, a2, a3, a4⟩ := M_law hR (r := 3) (Or.inr (Or.inr rfl))
      have a1' : F5_law (F5_begin Sc 45) 45 2 2 = some (v, T') := a1
      rw [if_neg (show ¬ nI 3 = 0 by decide), if_neg (show ¬ nI 3 = 1 by decide), if_neg (show ¬ nI 3 = 2 by decide), if_pos (show nI 3 = 3 from rfl), a1', bB2_s, if_neg (show ¬ nI 3 = 2 by decide), a2, bB_s, if_neg (show ¬ nI 3 = 2 by decide), a3, bB2_s]
      rcases a4 with ⟨rfl, rfl, ⟨q1, U2⟩, b1, b2, b3⟩ | ⟨rfl, rfl, b1⟩
      · have b1' : F12_putsLaw (sU U' 0 16 0) 2 = some (q1, U2) := b1
        simp only at b2
        rw [if_neg n10, keepLaw_d, bT2_s, if_neg n10, if_neg (show ¬ nI 3 = 2 by decide), if_pos (show nI 3 = 3 from rfl), b1', bB2_s]
        exact r2_s ⟨b2.symm, b3⟩
      · rw [if_pos rfl, if_pos rfl]
        refine r2_s ⟨rfl, ?_⟩
        have e1 : sU U' 0 16 0 0 21 = U' 0 21 := by rw [sU_n (by omega)]
        have e2 : sU (sU U' 0 16 0) 0 23 (U' 0 21) 0 22 = U' 0 22 := by rw [sU_n (by omega), sU_n (by omega)]
        show (Rel gG) _ (sU (sU (sU U' 0 16 0) 0 23 (sU U' 0 16 0 0 21)) 0 25 (sU (sU U' 0 16 0) 0 23 (sU U' 0 16 0 0 21) 0 22))
        rw [e1, e2]
        exact b1
  · have hin : F12_isIn a1 0 3 = 0 := in_f (m := 3) (n := 3) rfl (by decide) h
    have hne : ∀ x : Nat, x < 4 → ¬ a1 = nI x := fun x hx e => h ⟨x, hx, e⟩
    rw [hin, if_pos rfl, if_neg (show ¬ a1 = 0 from hne 0 (by decide)), if_neg (show ¬ a1 = 1 from hne 1 (by decide)), if_neg (show ¬ a1 = 2 from hne 2 (by decide)), if_neg (show ¬ a1 = 3 from hne 3 (by decide))]
    exact r2_s ⟨rfl, hno⟩
end

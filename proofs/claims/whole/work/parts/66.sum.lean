section
/-! sums, side by side -/
theorem tmq {t x : Nat} (ht : t < 400) (hx : x < 400) : nI t = nI x ↔ t = x := nI_eq (by omega) (by omega)
theorem isl {t : Nat} (ht : t < 400) : F12_isIn (nI t) 41 59 = if 41 ≤ t ∧ t ≤ 59 then 1 else 0 := by
  rw [isIn_d]
  have e1 : (41 : Int32) ≤ nI t ↔ 41 ≤ t := nI_leI (a := 41) (by decide) (by omega)
  have e2 : nI t ≤ (59 : Int32) ↔ t ≤ 59 := nI_leI (b := 59) (by omega) (by decide)
  by_cases h : 41 ≤ t ∧ t ≤ 59
  · rw [if_pos h, if_pos ⟨e1.mpr h.1, e2.mpr h.2⟩]
  · rw [if_neg h, if_neg (fun q => h ⟨e1.mp q.1, e2.mp q.2⟩)]
theorem P_ty {b : Nat → Nat} {n r m : Nat} {K V P A : Nat → Nat} {j st : Nat} {T U : pS} (h : PL b n r m K V P A j st T U) : T 46 1 = nI (K j) ∧ T 45 1 = 0 ∧ U 0 18 = nI (tmN r (K j)) ∧ j < m := ⟨h.2.2.1.2.2.2.2.1, h.1, h.2.2.2.2.2.2.1, h.2.2.1.2.2.1⟩
theorem P_yes {b : Nat → Nat} {n r m : Nat} {K V P A : Nat → Nat} {j st x : Nat} {T U T' : pS} (h : PL b n r m K V P A j st T U) (hk : K j = x) (hn : F6_next T 46 = some T') : F5_taken T 45 (nI x) = some (1, T') := by
  unfold F5_taken
  rw [if_pos (P_ty h).2.1, show 45 + 1 = 46 from rfl, (P_ty h).1, hk, if_pos rfl, hn, bB_s]
theorem P_no {b : Nat → Nat} {n r m : Nat} {K V P A : Nat → Nat} (hr : r = 0 ∨ r = 1 ∨ r = 3) (hK : Toks b n r m K V P A) {j st x : Nat} {T U : pS} (h : PL b n r m K V P A j st T U) (hk : K j ≠ x) (hx : x < 400) : F5_taken T 45 (nI x) = some (0, T) := by
  have := (tkG hK (P_ty h).2.2.2).2.2.2.2
  unfold F5_taken
  rw [if_pos (P_ty h).2.1, show 45 + 1 = 46 from rfl, (P_ty h).1, if_neg (fun q => hk (nI_inj q (by omega) (by omega)))]
theorem fa_b {r : Nat} : 2 < faN r ∧ faN r < 400 := by
  unfold faN
  split
  · decide
  · split <;> decide
theorem P_unit {b : Nat → Nat} {n r m : Nat} {K V P A : Nat → Nat} (hr : r = 0 ∨ r = 1 ∨ r = 3) (hK : Toks b n r m K V P A) {j st : Nat} {T U : pS} (h : PL b n r m K V P A j st T U) (hst : st ≤ j) :
    (∃ T' U', F5_operand T 45 = some T' ∧ F12_unit U = some (1, U') ∧ PL b n r m K V P A (j + 1) (st + 1) T' U' ∧ GD j st (j + 1) (st + 1) T T' U U' ∧ frU U U' ∧ kS T' st ≤ 1 ∧ j + 1 < m) ∨ ∃ T' U', F5_operand T 45 = some T' ∧ F12_unit U = some (0, U') ∧ frC T T' ∧ frU U U' ∧ BD n m K V P (faN r) T' (U' 0 21) (U' 0 22) := by
  obtain ⟨hT, h1, hU, hj⟩ := P_ty h
  obtain ⟨tf, tk, tv, tl, tm⟩ := tkF hr hK hj
  have tkk := (tkG hK hj).2.2.2.2
  obtain ⟨t1, t2, t3, t4, -⟩ := tmF tf
  have hfa := fa_b (r := r)
  have h6 : T 45 6 = nI (faN r) := h.2.1
  unfold F5_operand F12_unit
  simp only [bL_d, Nat.reduceAdd]
  rw [hT, h6, hU, isl t4]
  have go : ∀ (c num : Nat) (s v : Int32), K j ≠ 2 → c ≤ 1 → SR (lix r) c num (nI (c + 16 * num)) s v → ∃ T' U', (bB (F3_put T 51 (nI c) (nI num)) fun S => bB (F6_next S 46) fun S' => some S') = some T' ∧ (bB (F12_lay U s v) fun S => bB (F12_next0 S) fun S' => some ((1 : Int32), S')) = some (1, U') ∧ PL b n r m K V P A (j + 1) (st + 1) T' U' ∧ GD j st (j + 1) (st + 1) T T' U U' ∧ frU U U' ∧ kS T' st ≤ 1 ∧ j + 1 < m := by
    intro c num s v h2 hc hs
    have hj1 : j + 1 < m := by
      by_cases z : j + 1 = m
      · exact absurd (tl.mpr z) h2
      · omega
    obtain ⟨T1, U1, a1, a2, a3, a4, a5, a8⟩ := P_put h (show st < 400 by omega) (by omega) hs
    obtain ⟨T2, U2, b1, b2, b3, b4, b5, b6, b7⟩ := P_next hr hK a3 h2
    refine ⟨T2, U2, by rw [a1, bB_s, b1, bB_s], by rw [a2, bB_s, b2, bB_s], b3, GD_t a4 b4, frU_t a5 b5, ?_, hj1⟩
    unfold kS at a8 ⊢
    rw [b6, a8]; exact hc
  by_cases q1 : K j = 1
  · have hv : T 46 2 = nI (V j) := h.2.2.1.2.2.2.2.2.1 q1
    have hv2 : U 0 20 = nI (V j) := h.2.2.2.2.2.2.2.2.1 q1
    have e2 : tmN r (K j) = 2 := t1.mp q1
    rw [if_pos (show nI (K j) = 1 by rw [q1]; rfl), hv, hv2, if_pos (show nI (tmN r (K j)) = 2 by rw [e2]; rfl), e2, if_neg (show ¬ (41 ≤ 2 ∧ 2 ≤ 59) by omega), if_pos rfl]
    exact Or.inl (go 0 (V j) 0 _ (by omega) (by decide) ⟨rfl, tv q1, Or.inl ⟨rfl, rfl, rfl⟩⟩)
  · rw [if_neg (show ¬ nI (K j) = 1 from fun q => q1 (nI_inj (b := 1) q (by omega) (by decide))), if_neg (show ¬ nI (tmN r (K j)) = 2 from fun q => q1 (t1.mpr (nI_inj (b := 2) q (by omega) (by decide))))]
    by_cases q2 : K j < faN r
    · rw [if_pos (nI_lt q2 (by omega)), if_neg (t3 q2), if_pos rfl]
      obtain ⟨U', a1, a2, a3, a4⟩ := P_fail (x := 1) h (by omega) (by decide) (by decide)
      have a1' : F12_bad U 1 = (0, U') := a1
      rw [a1', bT2_s]
      exact Or.inr ⟨_, U', rfl, rfl, a3, a2, a4⟩
    · have t2 := t2 (by omega)
      rw [if_neg (show ¬ nI (K j) < nI (faN r) from nI_nlt (by omega) (by omega)), if_pos (show 41 ≤ tmN r (K j) ∧ tmN r (K j) ≤ 59 from ⟨t2.1, t2.2.1⟩), if_neg n10, pk_sub (by omega), if_neg n10, show (40 : Int32) = nI 40 from rfl, pk_sub (by omega)]
      exact Or.inl (go 1 (K j - faN r) _ _ (by omega) (by decide) ⟨rfl, by omega, Or.inr (Or.inl ⟨rfl, t2.2.2.2, by congr 1; omega⟩)⟩)
theorem nfN_lt (k : Nat) : nfN k ≤ 9 := by
  unfold nfN
  split
  · decide
  · split <;> decide
/-- a product's loop -/
theorem P_prod {b : Nat → Nat} {n r m : Nat} {K V P A : Nat → Nat} (hr : r = 0 ∨ r = 1 ∨ r = 3) (hK : Toks b n r m K V P A) (w : Int32) : ∀ (e j st i : Nat) (T U : pS), m - j ≤ e → PL b n r m K V P A j st T U → st ≤ j → i + 1 ≤ j →
    (∃ i' j' st' T' U', CSm w (nI i) T = CSm w (nI i') T' ∧ RPd U = some (1, U') ∧ PL b n r m K V P A j' st' T' U' ∧ K j' ≠ 42 ∧ K j' ≠ 47 ∧ i' + 1 ≤ j' ∧ st' + j ≤ st + j' ∧ GD j st j' st' T T' U U' ∧ frU U U' ∧ ∀ a s1 c, TY T a st c (false :: s1) → a ≤ st → s1.length + 2 ≤ c → TY T' a st' c (false :: s1)) ∨
    ∃ T' U', CSm w (nI i) T = some T' ∧ RPd U = some (0, U') ∧ frC T T' ∧ frU U U' ∧ BD n m K V P (faN r) T' (U' 0 21) (U' 0 22) := by
  intro e
  induction e with
  | zero => intro j st i T U he h; have := (P_ty h).2.2.2; omega
  | succ e ih =>
    intro j st i T U he h hst hi
    obtain ⟨hT, h1, hU, hj⟩ := P_ty h
    obtain ⟨tf, tk, tv, tl, tm⟩ := tkF hr hK hj
    obtain ⟨-, -, -, t4, t142, t147, -⟩ := tmF tf
    have e142 : nI (tmN r (K j)) = 142 ↔ K j = 42 := (tmq t4 (x := 142) (by decide)).trans t142
    have e147 : nI (tmN r (K j)) = 147 ↔ K j = 47 := (tmq t4 (x := 147) (by decide)).trans t147
    have hi4 : ¬ (400 : Int32) ≤ nI i := nge 400 (b := 400) rfl (by omega) (by decide)
    -- what a round gives, and the rest of the loop
    have good : ∀ (j2 st2 : Nat) (T3 U3 : pS), j < j2 → st2 + j ≤ st + j2 → GD j st j2 st2 T T3 U U3 → frU U U3 → PL b n r m K V P A j2 st2 T3 U3 → bSum (w, nI i, T) = some (.inl (w, nI (i + 1), T3)) → bPro U = some (.inl U3) → (∀ a s1 c, TY T a st c (false :: s1) → a ≤ st → s1.length + 2 ≤ c → TY T3 a st2 c (false :: s1)) →
        (∃ i' j' st' T' U', CSm w (nI i) T = CSm w (nI i') T' ∧ RPd U = some (1, U') ∧ PL b n r m K V P A j' st' T' U' ∧ K j' ≠ 42 ∧ K j' ≠ 47 ∧ i' + 1 ≤ j' ∧ st' + j ≤ st + j' ∧ GD j st j' st' T T' U U' ∧ frU U U' ∧ ∀ a s1 c, TY T a st c (false :: s1) → a ≤ st → s1.length + 2 ≤ c → TY T' a st' c (false :: s1)) ∨
        ∃ T' U', CSm w (nI i) T = some T' ∧ RPd U = some (0, U') ∧ frC T T' ∧ frU U U' ∧ BD n m K V P (faN r) T' (U' 0 21) (U' 0 22) := by
      intro j2 st2 T3 U3 hj2 hst2 hG hF hP hs hp hTY
      have hge := hG.2.1
      rcases ih j2 st2 (i + 1) T3 U3 (by omega) hP (by omega) (by omega) with ⟨i', j', st', T', U', d1, d2, d3, d4, d5, d6, d6', d7, d8, d9⟩ | ⟨T', U', d1, d2, d3, d4, d5⟩
      · exact Or.inl ⟨i', j', st', T', U', (CSm_u hs).trans d1, (RPd_u hp).trans d2, d3, d4, d5, d6, by omega, GD_t hG d7, frU_t hF d8, fun a s1 c ht ha hc => d9 a s1 c (hTY a s1 c ht ha hc) (by omega) hc⟩
      · exact Or.inr ⟨T', U', (CSm_u hs).trans d1, (RPd_u hp).trans d2, frC_t (frL_C hG.2.2.1) d3, frU_t hF d4, d5⟩
    have bad : ∀ (T3 U2 : pS), bSum (w, nI i, T) = some (.inl (w, nI (i + 1), T3)) → RPd U = some (0, U2) → frC T T3 → frU U U2 → BD n m K V P (faN r) T3 (U2 0 21) (U2 0 22) → (∃ T' U', CSm w (nI i) T = some T' ∧ RPd U = some (0, U') ∧ frC T T' ∧ frU U U' ∧ BD n m K V P (faN r) T' (U' 0 21) (U' 0 22)) := fun T3 U2 hs hp hf hu hb => ⟨T3, U2, (CSm_u hs).trans (CSm_f (by rw [hb.1]; exact hb.2.2.1)), hp, hf, hu, hb⟩
    by_cases q42 : K j = 42
    · obtain ⟨T1, U1, a1, a2, a3, a4, a5, a6, a7⟩ := P_next hr hK h (by omega)
      have y : F5_taken T 45 42 = some (1, T1) := P_yes h q42 a1
      rcases P_unit hr hK a3 (by omega) with ⟨T2, U2, b1, b2, b3, b4, b5, b6, b7⟩ | ⟨T2, U2, b1, b2, b3, b4, b5⟩
      · obtain ⟨T3, U3, c1, c2, c3, c4, c5, c8⟩ := P_put (c := 4) (num := 0) (s := 25) (v := 0) b3 (by omega) (by decide) ⟨rfl, by decide, Or.inr (Or.inr (Or.inr ⟨by decide, by decide, by decide, rfl⟩))⟩
        have c1' : F3_put T2 51 4 0 = some T3 := c1
        refine good (j + 1 + 1) (st + 1 + 1) T3 U3 (by omega) (by omega) (GD_t a4 (GD_t b4 c4)) (frU_t a5 (frU_t b5 c5)) c3 ?_ ?_ ?_
        · unfold bSum
          simp only [u3_d, bL_d, Nat.reduceAdd]
          rw [if_neg hi4, if_pos h1, y, bB2_s, if_neg n10, b1, bB_s, c1', bB_s, nI_1]
        · unfold bPro
          simp only [u1_d, bL_d]
          rw [hU, if_pos (e142.mpr q42), if_neg (fun q => by have := e147.mp q; omega), a2, bB_s, if_pos trivial, b2, bB2_s, if_neg n10, c2, bB_s]
        · intro a s1 c ht ha hc
          have h2 : TY T2 a (st + 1) c (false :: false :: s1) := TY_1 (TY_f ht (fun q hq => by rw [b4.2.2.2.2 q hq, a6])) ha (fun s hs => by
            unfold ty1
            rw [if_pos b6, if_pos (by simp only [List.length_append, List.length_cons]; omega)]
            rfl)
          have h3 : TY T3 a (st + 1) c (false :: false :: s1) := TY_f h2 c4.2.2.2.2
          refine TY_1 h3 (by omega) (fun s hs => ?_)
          rw [c8]; rfl
      · obtain ⟨T3, c1, c2, c3⟩ := B_put (a := 4) (c := 0) b5
        have c1' : F3_put T2 51 4 0 = some T3 := c1
        refine Or.inr (bad T3 U2 ?_ (RPd_0 (U' := U2) ?_) (frC_t (frL_C a4.2.2.1) (frC_t b3 c3)) (frU_t a5 b4) c2)
        · unfold bSum
          simp only [u3_d, bL_d, Nat.reduceAdd]
          rw [if_neg hi4, if_pos h1, y, bB2_s, if_neg n10, b1, bB_s, c1', bB_s, nI_1]
        · unfold bPro
          simp only [u1_d, bL_d]
          rw [hU, if_pos (e142.mpr q42), if_neg (fun q => by have := e147.mp q; omega), a2, bB_s, if_pos trivial, b2, bB2_s, if_pos rfl]
    · have no42 : F5_taken T 45 42 = some (0, T) := P_no hr hK h q42 (by decide)
      by_cases q47 : K j = 47
      · obtain ⟨T1, U1, a1, a2, a3, a4, a5, a6, a7⟩ := P_next hr hK h (by omega)
        have y : F5_taken T 45 47 = some (1, T1) := P_yes h q47 a1
        obtain ⟨hT1, h11, hU1, hj1⟩ := P_ty a3
        obtain ⟨tf1, tk1, tv1, tl1, -⟩ := tkF hr hK hj1
        obtain ⟨s1, -, -, s4, -⟩ := tmF tf1
        have hst4 : st < 400 := by omega
        have hkk := (tkG hK hj1).2.2.2.2
        by_cases q1 : K (j + 1) = 1
        · have hv : T1 46 2 = nI (V (j + 1)) := a3.2.2.1.2.2.2.2.2.1 q1
          have hv2 : U1 0 20 = nI (V (j + 1)) := a3.2.2.2.2.2.2.2.2.1 q1
          have hV := tv1 q1
          have e2 : nI (tmN r (K (j + 1))) = 2 := by rw [s1.mp q1]; rfl
          by_cases q0 : V (j + 1) = 0
          · obtain ⟨U2, b1, b2, b3, b4⟩ := P_fail (x := 2) a3 (by omega) (by decide) (by decide)
            have b1' : F12_bad U1 2 = (0, U2) := b1
            have hnum : F5_number T1 45 1 9999 = some (1, F5_fail T1 45 2) := by
              unfold F5_number
              simp only [bL_d, Nat.reduceAdd]
              rw [hT1, if_pos (show nI (K (j + 1)) = 1 by rw [q1]; rfl), hv, q0, if_pos (by decide)]
            obtain ⟨T3, c1, c2, c3⟩ := B_put (a := 5) (c := 1) b4
            have c1' : F3_put (F5_fail T1 45 2) 51 5 1 = some T3 := c1
            refine Or.inr (bad T3 U2 ?_ (RPd_b2 (U' := U1) ?_ b1') (frC_t (frL_C a4.2.2.1) (frC_t b3 c3)) (frU_t a5 b2) c2)
            · unfold bSum
              simp only [u3_d, bL_d, Nat.reduceAdd]
              rw [if_neg hi4, if_pos h1, no42, bB2_s, if_pos rfl, y, bB2_s, if_neg n10, hnum, bB2_s, c1', bB_s, nI_1]
            · unfold bPro
              simp only [u1_d, bL_d]
              rw [hU, if_neg (fun q => q42 (e142.mp q)), if_pos (e147.mpr q47), if_pos (e147.mpr q47), a2, bB_s, if_neg n10, hU1, if_pos e2, hv2, q0, if_pos nI_0]
          · obtain ⟨T2, U2, b1, b2, b3, b4, b5, b6, b7⟩ := P_next hr hK a3 (by omega)
            have hnum : F5_number T1 45 1 9999 = some (nI (V (j + 1)), T2) := by
              unfold F5_number
              simp only [bL_d, Nat.reduceAdd]
              rw [hT1, if_pos (show nI (K (j + 1)) = 1 by rw [q1]; rfl), hv, if_neg (show ¬ nI (V (j + 1)) < 1 from nI_nlt (b := 1) (by omega) (by omega)), if_pos (show nI (V (j + 1)) ≤ 9999 from nI_le (b := 9999) hV (by decide)), b1, bB_s]
            obtain ⟨T3, U3, c1, c2, c3, c4, c5, c8⟩ := P_put (c := 5) (num := V (j + 1)) (s := 26) (v := nI (V (j + 1))) b3 hst4 (by decide) ⟨rfl, hV, Or.inr (Or.inr (Or.inl ⟨rfl, by omega, rfl, rfl⟩))⟩
            have c1' : F3_put T2 51 5 (nI (V (j + 1))) = some T3 := c1
            refine good (j + 1 + 1) (st + 1) T3 U3 (by omega) (by omega) (GD_t a4 (GD_t b4 c4)) (frU_t a5 (frU_t b5 c5)) c3 ?_ ?_ ?_
            · unfold bSum
              simp only [u3_d, bL_d, Nat.reduceAdd]
              rw [if_neg hi4, if_pos h1, no42, bB2_s, if_pos rfl, y, bB2_s, if_neg n10, hnum, bB2_s, c1', bB_s, nI_1]
            · unfold bPro
              simp only [u1_d, bL_d]
              rw [hU, if_neg (fun q => q42 (e142.mp q)), if_pos (e147.mpr q47), if_pos (e147.mpr q47), a2, bB_s, if_neg n10, hU1, if_pos e2, hv2, if_neg (nI_ne0 (by omega) (by omega)), b2, bB_s, c2, bB_s]
            · intro a s1 c ht ha hc
              have h3 : TY T3 a st c (false :: s1) := TY_f ht (fun q hq => by rw [c4.2.2.2.2 q (by omega), b6, a6])
              refine TY_1 h3 ha (fun s hs => ?_)
              rw [c8]; rfl
        · obtain ⟨U2, b1, b2, b3, b4⟩ := P_fail (x := 1) a3 (by omega) (by decide) (by decide)
          have b1' : F12_bad U1 1 = (0, U2) := b1
          have hnum : F5_number T1 45 1 9999 = some (1, F5_fail T1 45 1) := by
            unfold F5_number
            simp only [bL_d, Nat.reduceAdd]
            rw [hT1, if_neg (show ¬ nI (K (j + 1)) = 1 from fun q => q1 (nI_inj (b := 1) q (by omega) (by decide)))]
          obtain ⟨T3, c1, c2, c3⟩ := B_put (a := 5) (c := 1) b4
          have c1' : F3_put (F5_fail T1 45 1) 51 5 1 = some T3 := c1
          refine Or.inr (bad T3 U2 ?_ (RPd_b1 (U' := U1) ?_ b1') (frC_t (frL_C a4.2.2.1) (frC_t b3 c3)) (frU_t a5 b2) c2)
          · unfold bSum
            simp only [u3_d, bL_d, Nat.reduceAdd]
            rw [if_neg hi4, if_pos h1, no42, bB2_s, if_pos rfl, y, bB2_s, if_neg n10, hnum, bB2_s, c1', bB_s, nI_1]
          · unfold bPro
            simp only [u1_d, bL_d]
            rw [hU, if_neg (fun q => q42 (e142.mp q)), if_pos (e147.mpr q47), if_pos (e147.mpr q47), a2, bB_s, if_neg n10, hU1, if_neg (show ¬ nI (tmN r (K (j + 1))) = 2 from fun q => q1 (s1.mpr (nI_inj (b := 2) q (by omega) (by decide))))]
      · refine Or.inl ⟨i, j, st, T, U, rfl, RPd_1 ?_, h, q42, q47, hi, by omega, GD_r _ _ _ _, frU_r U, fun a s1 c ht ha hc => ht⟩
        unfold bPro
        simp only [u1_d, bL_d]
        rw [hU, if_neg (fun q => q42 (e142.mp q)), if_neg (fun q => q47 (e147.mp q))]
end

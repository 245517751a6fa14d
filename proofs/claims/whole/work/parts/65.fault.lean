section
/-! the loops of a sum, by name -/
noncomputable def bSum : Int32 × Int32 × pS → Option ((Int32 × Int32 × pS) ⊕ (pS ⊕ pS)) := u3 fun (l1_4 : Int32) (l2_5 : Int32) (S_6 : pS) =>
    if 400 ≤ l2_5 then
      some (.inr (.inl S_6))
    else
      if (S_6 45 1) = 0 then
        bB2 (F5_taken S_6 45 42) fun r_8 S_9 =>
        bL (fun (l1_10 : Int32) (S_11 : pS) =>
          bL (l2_5 + 1) fun l2_12 =>
          some (.inl (l1_10, l2_12, S_11))) fun j127 =>
        if r_8 = 0 then
          bB2 (F5_taken S_9 45 47) fun r_13 S_14 =>
          if r_13 = 0 then
            bL (fun (S_15 : pS) =>
              bB2 (F5_taken S_15 45 43) fun r_16 S_17 =>
              bL (fun (t_18 : Int32) (S_19 : pS) =>
                if t_18 = (-1) then
                  some (.inr (.inr S_19))
                else
                  bB (F5_operand S_19 45) fun S_20 =>
                  j127 t_18 S_20) fun j116 =>
              if r_16 = 0 then
                bB2 (F5_taken S_17 45 45) fun r_22 S_23 =>
                if r_22 = 0 then
                  j116 (-1) S_23
                else
                  j116 3 S_23
              else
                j116 2 S_17) fun j89 =>
            if l1_4 = (-1) then
              j89 S_14
            else
              bB (F3_put S_14 (45 + 6) l1_4 0) fun S_26 =>
              j89 S_26
          else
            bB2 (F5_number S_14 45 1 9999) fun r_28 S_29 =>
            bB (F3_put S_29 (45 + 6) 5 r_28) fun S_30 =>
            j127 l1_4 S_30
        else
          bB (F5_operand S_9 45) fun S_32 =>
          bB (F3_put S_32 (45 + 6) 4 0) fun S_33 =>
          j127 l1_4 S_33
      else
        some (.inr (.inl S_6))
noncomputable def bPro : pS → Option (pS ⊕ (pS ⊕ pS ⊕ pS ⊕ pS)) := u1 fun (S_11 : pS) =>
      bL (fun (_ : Unit) =>
        bL (fun (t_13 : Int32) =>
          bB (F12_next0 S_11) fun S_14 =>
          bL (fun (S_15 : pS) =>
            some (.inl S_15)) fun j112 =>
          if t_13 = 0 then
            bB2 (F12_unit S_14) fun r_16 S_17 =>
            if r_16 = 0 then
              some (.inr (.inr (.inr (.inr S_17))))
            else
              bB (F12_lay S_17 25 0) fun S_18 =>
              j112 S_18
          else
            bL (S_14 0 20) fun l2_20 =>
            if (S_14 0 18) = 2 then
              if l2_20 = 0 then
                some (.inr (.inr (.inr (.inl S_14))))
              else
                bB (F12_next0 S_14) fun S_21 =>
                bB (F12_lay S_21 26 l2_20) fun S_22 =>
                j112 S_22
            else
              some (.inr (.inr (.inl S_14)))) fun j44 =>
        if (S_11 0 18) = 147 then
          j44 1
        else
          j44 0) fun j29 =>
      if (S_11 0 18) = 142 then
        j29 ()
      else
        if (S_11 0 18) = 147 then
          j29 ()
        else
          some (.inr (.inl S_11))
noncomputable def bSmu : pS → Option (pS ⊕ (pS ⊕ pS)) := u1 fun (S_5 : pS) =>
      bL (fun (_ : Unit) =>
        bL (fun (t_7 : Int32) =>
          bB (F12_next0 S_5) fun S_8 =>
          bB2 (F12_product S_8) fun r_9 S_10 =>
          if r_9 = 0 then
            some (.inr (.inr S_10))
          else
            bB (F12_lay S_10 t_7 0) fun S_11 =>
            some (.inl S_11)) fun j46 =>
        if (S_5 0 18) = 143 then
          j46 23
        else
          j46 24) fun j29 =>
      if (S_5 0 18) = 143 then
        j29 ()
      else
        if (S_5 0 18) = 145 then
          j29 ()
        else
          some (.inr (.inl S_5))
noncomputable def CSm (w i : Int32) (T : pS) : Option pS := bB (bP bSum (w, i, T)) (Sum.elim (u1 fun S => some S) (u1 fun S => some S))
noncomputable def RPd (U : pS) : Option (Int32 × pS) := bB (bP bPro U) (Sum.elim (u1 fun S => some ((1 : Int32), S)) (Sum.elim (u1 fun S => bT2 (F12_bad S 1) fun r S' => some ((r &&& 1), S')) (Sum.elim (u1 fun S => bT2 (F12_bad S 2) fun r S' => some ((r &&& 1), S')) (u1 fun S => some ((0 : Int32), S)))))
noncomputable def RSm (U : pS) : Option (Int32 × pS) := bB (bP bSmu U) (Sum.elim (u1 fun S => some ((1 : Int32), S)) (u1 fun S => some ((0 : Int32), S)))
theorem sum_d (T : pS) : F5_sum T 45 = bB (F5_operand T 45) fun S => CSm (-1) 0 S := by
  unfold F5_sum CSm bSum
  rfl
theorem product_d (U : pS) : F12_product U = bB2 (F12_unit U) fun r S => if r = 0 then some ((0 : Int32), S) else RPd S := by
  unfold F12_product RPd bPro
  rfl
theorem sumUp_d (U : pS) : F12_sumUp U = bB2 (F12_product U) fun r S => if r = 0 then some ((0 : Int32), S) else RSm S := by
  unfold F12_sumUp RSm bSmu
  rfl
theorem CSm_f {w i : Int32} {T : pS} (h : ¬ T 45 1 = 0) : CSm w i T = some T := by
  unfold CSm
  rw [bP_r (r := (Sum.inl T : pS ⊕ pS)) (by
    unfold bSum
    rw [u3_d]
    by_cases q : 400 ≤ i
    · rw [if_pos q]
    · rw [if_neg q, if_neg h])]
  rfl
theorem CSm_u {w i : Int32} {T : pS} {w' i' : Int32} {T' : pS} (h : bSum (w, i, T) = some (.inl (w', i', T'))) : CSm w i T = CSm w' i' T' := by
  unfold CSm
  rw [bP_u h]
theorem CSm_r {w i : Int32} {T T' : pS} (h : bSum (w, i, T) = some (.inr (.inr T'))) : CSm w i T = some T' := by
  unfold CSm
  rw [bP_r h]
  rfl
theorem RPd_u {U U' : pS} (h : bPro U = some (.inl U')) : RPd U = RPd U' := by
  unfold RPd
  rw [bP_u h]
theorem RPd_1 {U U' : pS} (h : bPro U = some (.inr (.inl U'))) : RPd U = some (1, U') := by
  unfold RPd
  rw [bP_r h]
  rfl
theorem RPd_0 {U U' : pS} (h : bPro U = some (.inr (.inr (.inr (.inr U'))))) : RPd U = some (0, U') := by
  unfold RPd
  rw [bP_r h]
  rfl
theorem RPd_b1 {U U' U'' : pS} (h : bPro U = some (.inr (.inr (.inl U')))) (hb : F12_bad U' 1 = (0, U'')) : RPd U = some (0, U'') := by
  unfold RPd
  rw [bP_r h, bB_s]
  show bT2 (F12_bad U' 1) (fun r S' => some ((r &&& 1), S')) = _
  rw [hb, bT2_s]; rfl
theorem RPd_b2 {U U' U'' : pS} (h : bPro U = some (.inr (.inr (.inr (.inl U'))))) (hb : F12_bad U' 2 = (0, U'')) : RPd U = some (0, U'') := by
  unfold RPd
  rw [bP_r h, bB_s]
  show bT2 (F12_bad U' 2) (fun r S' => some ((r &&& 1), S')) = _
  rw [hb, bT2_s]; rfl
theorem RSm_u {U U' : pS} (h : bSmu U = some (.inl U')) : RSm U = RSm U' := by
  unfold RSm
  rw [bP_u h]
theorem RSm_1 {U U' : pS} (h : bSmu U = some (.inr (.inl U'))) : RSm U = some (1, U') := by
  unfold RSm
  rw [bP_r h]
  rfl
theorem RSm_0 {U U' : pS} (h : bSmu U = some (.inr (.inr U'))) : RSm U = some (0, U') := by
  unfold RSm
  rw [bP_r h]
  rfl
/-! behind a fault the class reads on, and nothing of it counts -/
theorem tkG {b : Nat → Nat} {n r m : Nat} {K V P A : Nat → Nat} (hK : Toks b n r m K V P A) {j : Nat} (hj : j < m) : isK (K j) ∧ (K j = 2 ↔ j + 1 = m) ∧ m ≤ 401 ∧ (K j = 1 → V j ≤ 9999) ∧ K j < 273 := by
  obtain ⟨hn, hb, hm1, hmn, hA0, hTk, hK2, hqA⟩ := hK
  have h := Tok_k (hTk j hj)
  refine ⟨h.1, hK2 j hj, by omega, h.2.2.2.2.2.1, ?_⟩
  have := h.1
  unfold isK at this
  omega
theorem B_next {b : Nat → Nat} {n r m : Nat} {K V P A : Nat → Nat} (hK : Toks b n r m K V P A) {fa j : Nat} {T : pS} {f p : Int32} (h : BD n m K V P fa T f p) (hc : CT n m K V P j T) (hk : K j ≠ 2) : ∃ T', F6_next T 46 = some T' ∧ BD n m K V P fa T' f p ∧ frC T T' := by
  have hj := (tkG hK hc.2.2.1).2.1
  have hj1 : j + 1 < m := by
    have := hc.2.2.1
    by_cases z : j + 1 = m
    · exact absurd (hj.mpr z) hk
    · omega
  obtain ⟨T', e1, e2, e3, e4⟩ := L_nextC hc hj1
  obtain ⟨h1, h2, h3, h4, h5, h6, h7⟩ := h
  exact ⟨T', e1, ⟨by rw [e3 45 (by decide)]; exact h1, by rw [e3 45 (by decide)]; exact h2, h3, by rw [e3 45 (by decide)]; exact h4, ⟨_, e2⟩, by rw [e3 51 (by decide)]; exact h6, by rw [e3 51 (by decide)]; exact h7⟩, fun k hk => e3 k (by omega)⟩
theorem B_fail {n m : Nat} {K V P : Nat → Nat} {fa : Nat} {T : pS} {f p x : Int32} (h : BD n m K V P fa T f p) : F5_fail T 45 x = T := by
  unfold F5_fail
  rw [if_neg (by rw [h.1]; exact h.2.2.1)]
theorem B_taken {n m : Nat} {K V P : Nat → Nat} {fa : Nat} {T : pS} {f p x : Int32} (h : BD n m K V P fa T f p) : F5_taken T 45 x = some (0, T) := by
  unfold F5_taken
  rw [if_neg (by rw [h.1]; exact h.2.2.1)]
theorem B_take {b : Nat → Nat} {n r m : Nat} {K V P A : Nat → Nat} (hK : Toks b n r m K V P A) {fa x : Nat} {T : pS} {f p : Int32} (h : BD n m K V P fa T f p) (hx : x ≠ 2) (hx4 : x < 400) : ∃ T', F5_take T 45 (nI x) = some T' ∧ BD n m K V P fa T' f p ∧ frC T T' := by
  obtain ⟨j, hc⟩ := h.2.2.2.2.1
  unfold F5_take
  simp only [bL_d, Nat.reduceAdd]
  rw [hc.2.2.2.2.1]
  have hk := (tkG hK hc.2.2.1).2.2.2.2
  by_cases q : nI (K j) = nI x
  · have q' := nI_inj q (by omega) (by omega)
    obtain ⟨T', e1, e2, e3⟩ := B_next hK h hc (by omega)
    rw [if_pos q, e1, bB_s]
    exact ⟨T', rfl, e2, e3⟩
  · rw [if_neg q, B_fail h]
    exact ⟨T, rfl, h, frC_r T⟩
theorem B_put {n m : Nat} {K V P : Nat → Nat} {fa : Nat} {T : pS} {f p a c : Int32} (h : BD n m K V P fa T f p) : ∃ T', F3_put T 51 a c = some T' ∧ BD n m K V P fa T' f p ∧ frC T T' := by
  obtain ⟨h1, h2, h3, h4, ⟨j, h5⟩, ⟨st, h6, h6'⟩, h7⟩ := id h
  unfold F3_put
  simp only [bL_d, Nat.reduceAdd]
  rw [h6']
  by_cases q : st = 400
  · subst q
    rw [if_pos (by decide)]
    exact ⟨T, rfl, h, frC_r T⟩
  · rw [if_neg (nge 400 (b := 400) rfl (by omega) (by decide)), bG_N (by omega) (by decide), sU_n (by omega), h6', nI_1]
    refine ⟨_, rfl, ⟨?_, ?_, h3, ?_, ⟨j, ?_⟩, ⟨st + 1, by omega, sU_s _ _ _ _⟩, ?_⟩, fun k hk => by rw [sU_ne (by omega), sU_ne (by omega)]⟩
    · rw [sU_n (by omega), sU_n (by omega)]; exact h1
    · rw [sU_n (by omega), sU_n (by omega)]; exact h2
    · rw [sU_n (by omega), sU_n (by omega)]; exact h4
    · unfold CT at h5 ⊢
      rw [sU_ne (k' := 46) (by decide), sU_ne (k' := 46) (by decide), sU_ne (k' := 48) (by decide), sU_ne (k' := 48) (by decide), sU_ne (k' := 49) (by decide), sU_ne (k' := 49) (by decide), sU_ne (k' := 50) (by decide), sU_ne (k' := 50) (by decide)]
      exact h5
    · rw [sU_n (by omega), sU_n (by omega)]; exact h7
theorem B_number {b : Nat → Nat} {n r m : Nat} {K V P A : Nat → Nat} (hK : Toks b n r m K V P A) {fa : Nat} {T : pS} {f p a c : Int32} (h : BD n m K V P fa T f p) : ∃ v T', F5_number T 45 a c = some (v, T') ∧ BD n m K V P fa T' f p ∧ frC T T' := by
  obtain ⟨j, hc⟩ := h.2.2.2.2.1
  unfold F5_number
  simp only [bL_d, Nat.reduceAdd]
  rw [hc.2.2.2.2.1]
  have hk := (tkG hK hc.2.2.1).2.2.2.2
  simp only [B_fail h]
  by_cases q : nI (K j) = 1
  · have q' := nI_inj (b := 1) q (by omega) (by omega)
    obtain ⟨T', e1, e2, e3⟩ := B_next hK h hc (by omega)
    rw [if_pos q]
    by_cases q1 : T 46 2 < a
    · rw [if_pos q1]; exact ⟨_, T, rfl, h, frC_r T⟩
    · rw [if_neg q1]
      by_cases q2 : T 46 2 ≤ c
      · rw [if_pos q2, e1, bB_s]; exact ⟨_, T', rfl, e2, e3⟩
      · rw [if_neg q2]; exact ⟨_, T, rfl, h, frC_r T⟩
  · rw [if_neg q]; exact ⟨_, T, rfl, h, frC_r T⟩
theorem B_c2 {n m : Nat} {K V P : Nat → Nat} {fa j : Nat} {T T' : pS} {f p : Int32} (h : BD n m K V P fa T f p) (hc : CT n m K V P j T) {a c : Int32} (e : F3_put T 51 a c = some T') : CT n m K V P j T' := by
  unfold F3_put at e
  simp only [bL_d, Nat.reduceAdd] at e
  by_cases q : 400 ≤ T 51 1
  · rw [if_pos q] at e; cases e; exact hc
  · rw [if_neg q] at e
    obtain ⟨-, e⟩ := bG_e e
    cases e
    unfold CT at hc ⊢
    rw [sU_ne (k' := 46) (by decide), sU_ne (k' := 46) (by decide), sU_ne (k' := 48) (by decide), sU_ne (k' := 48) (by decide), sU_ne (k' := 49) (by decide), sU_ne (k' := 49) (by decide), sU_ne (k' := 50) (by decide), sU_ne (k' := 50) (by decide)]
    exact hc
theorem B_operand {b : Nat → Nat} {n r m : Nat} {K V P A : Nat → Nat} (hK : Toks b n r m K V P A) {fa : Nat} {T : pS} {f p : Int32} (hfa : 2 < fa ∧ fa < 400) (h : BD n m K V P fa T f p) : ∃ T', F5_operand T 45 = some T' ∧ BD n m K V P fa T' f p ∧ frC T T' := by
  obtain ⟨j, hc⟩ := h.2.2.2.2.1
  unfold F5_operand
  simp only [bL_d, Nat.reduceAdd]
  rw [hc.2.2.2.2.1, h.2.2.2.1]
  have hk := (tkG hK hc.2.2.1).2.2.2.2
  have go : ∀ a c : Int32, K j ≠ 2 → ∃ T', (bB (F3_put T 51 a c) fun S => bB (F6_next S 46) fun S' => some S') = some T' ∧ BD n m K V P fa T' f p ∧ frC T T' := by
    intro a c h2
    obtain ⟨T1, e1, e2, e3⟩ := B_put (a := a) (c := c) h
    obtain ⟨T2, g1, g2, g3⟩ := B_next hK e2 (B_c2 h hc e1) h2
    rw [e1, bB_s, g1, bB_s]
    exact ⟨T2, rfl, g2, frC_t e3 g3⟩
  by_cases q : nI (K j) = 1
  · have q' := nI_inj (b := 1) q (by omega) (by omega)
    rw [if_pos q]
    exact go _ _ (by omega)
  · rw [if_neg q]
    by_cases q1 : K j < fa
    · rw [if_pos (nI_lt q1 (by omega)), B_fail h]
      exact ⟨T, rfl, h, frC_r T⟩
    · rw [if_neg (nI_nlt (by omega) (by omega))]
      exact go _ _ (by omega)
theorem B_sum {b : Nat → Nat} {n r m : Nat} {K V P A : Nat → Nat} (hK : Toks b n r m K V P A) {fa : Nat} {T : pS} {f p : Int32} (hfa : 2 < fa ∧ fa < 400) (h : BD n m K V P fa T f p) : ∃ T', F5_sum T 45 = some T' ∧ BD n m K V P fa T' f p ∧ frC T T' := by
  obtain ⟨T', e1, e2, e3⟩ := B_operand hK hfa h
  rw [sum_d, e1, bB_s, CSm_f (by rw [e2.1]; exact e2.2.2.1)]
  exact ⟨T', rfl, e2, e3⟩
theorem B_comparing {b : Nat → Nat} {n r m : Nat} {K V P A : Nat → Nat} (hK : Toks b n r m K V P A) {fa : Nat} {T : pS} {f p : Int32} (h : BD n m K V P fa T f p) : ∃ v T', F5_comparing T 45 = some (v, T') ∧ BD n m K V P fa T' f p ∧ frC T T' := by
  unfold F5_comparing
  simp only [bL_d]
  obtain ⟨T1, a1, a2, a3⟩ := B_take (x := 60) hK h (by decide) (by decide)
  obtain ⟨T2, b1, b2, b3⟩ := B_take (x := 61) hK h (by decide) (by decide)
  obtain ⟨T3, c1, c2, c3⟩ := B_take (x := 62) hK h (by decide) (by decide)
  have a1' : F5_take T 45 60 = some T1 := a1
  have b1' : F5_take T 45 61 = some T2 := b1
  have c1' : F5_take T 45 62 = some T3 := c1
  rw [a1', b1', c1']
  simp only [bB_s]
  by_cases q : T (45 + 1) 1 = 60
  · rw [if_pos q, if_pos trivial]; exact ⟨_, T1, rfl, a2, a3⟩
  · rw [if_neg q]
    by_cases q2 : T (45 + 1) 1 = 61
    · rw [if_pos q2, if_neg (by decide), if_pos trivial]; exact ⟨_, T2, rfl, b2, b3⟩
    · rw [if_neg q2, if_neg (by decide), if_neg (by decide)]; exact ⟨_, T3, rfl, c2, c3⟩
theorem T5_e (d : Nat) : (T5_single (d + 1)).1 = B5_single ((T5_single d).2.2) ((T5_single d).1) ∧ (T5_single (d + 1)).2.1 = B5_allOf ((T5_single d).1) ∧ (T5_single (d + 1)).2.2 = B5_anyOf ((T5_single d).2.1) := by
  rw [T5_single]
  exact ⟨rfl, rfl, rfl⟩
theorem T12t_e (d : Nat) : (T12_oneTest (d + 1)).1 = B12_oneTest ((T12_oneTest d).2.2) ((T12_oneTest d).1) ∧ (T12_oneTest (d + 1)).2.1 = B12_every ((T12_oneTest d).1) ∧ (T12_oneTest (d + 1)).2.2 = B12_any ((T12_oneTest d).2.1) := by
  rw [T12_oneTest]
  exact ⟨rfl, rfl, rfl⟩
/-- single, behind a fault; e: how deep it may still go -/
theorem B_single {b : Nat → Nat} {n r m : Nat} {K V P A : Nat → Nat} (hK : Toks b n r m K V P A) {fa : Nat} {f p : Int32} (hfa : 2 < fa ∧ fa < 400) : ∀ (e o d : Nat) (T : pS), o + e = 8 → 3 * e + 1 ≤ d → BD n m K V P fa T f p → ∃ T', (T5_single d).1 T 45 (nI o) = some T' ∧ BD n m K V P fa T' f p ∧ frC T T' := by
  intro e
  induction e with
  | zero =>
    intro o d T ho hd h
    obtain ⟨d, rfl⟩ : ∃ x, d = x + 1 := ⟨d - 1, by omega⟩
    rw [(T5_e d).1]
    unfold B5_single
    simp only [bL_d]
    obtain ⟨T1, a1, a2, a3⟩ := B_sum hK hfa h
    obtain ⟨v, T2, b1, b2, b3⟩ := B_comparing hK a2
    obtain ⟨T3, c1, c2, c3⟩ := B_sum hK hfa b2
    obtain ⟨T4, d1, d2, d3⟩ := B_put (a := v) (c := 0) c2
    rw [if_neg (show ¬ nI o < 8 from nI_nlt (b := 8) (by omega) (by omega)), B_fail h, a1, bB_s, b1, bB2_s, c1, bB_s]
    by_cases q : T (45 + 1) 1 = 259
    · rw [if_pos q]; exact ⟨T, rfl, h, frC_r T⟩
    · rw [if_neg q]
      by_cases q2 : T (45 + 1) 1 = 40
      · rw [if_pos q2]; exact ⟨T, rfl, h, frC_r T⟩
      · rw [if_neg q2]
        have d1' : F3_put T3 (45 + 6) v 0 = some T4 := d1
        rw [d1', bB_s]
        exact ⟨T4, rfl, d2, frC_t a3 (frC_t b3 (frC_t c3 d3))⟩
  | succ e ih =>
    intro o d T ho hd h
    obtain ⟨d, rfl⟩ : ∃ x, d = x + 3 := ⟨d - 3, by omega⟩
    rw [(T5_e (d + 2)).1]
    unfold B5_single
    simp only [bL_d]
    rw [if_pos (show nI o < 8 from nI_lt (b := 8) (by omega) (by decide)), B_taken h, bB2_s, if_pos rfl]
    obtain ⟨T1, a1, a2, a3⟩ := B_take (x := 40) hK h (by decide) (by decide)
    have a1' : F5_take T 45 40 = some T1 := a1
    rw [a1', bB_s, (T5_e (d + 1)).2.2]
    unfold B5_anyOf
    rw [(T5_e d).2.1]
    unfold B5_allOf
    obtain ⟨T2, b1, b2, b3⟩ := ih (o + 1) d T1 (by omega) (by omega) a2
    simp only [bL_d]
    rw [nI_1, b1, bB_s, bP_r (r := T2) (by rw [u2_d, if_neg (by decide), B_taken b2, bB2_s, if_pos rfl]), bB_s, u1_d, bB_s, bP_r (r := T2) (by rw [u2_d, if_neg (by decide), B_taken b2, bB2_s, if_pos rfl]), bB_s, u1_d, bB_s]
    obtain ⟨T3, c1, c2, c3⟩ := B_take (x := 41) hK b2 (by decide) (by decide)
    have c1' : F5_take T2 45 41 = some T3 := c1
    rw [c1', bB_s]
    obtain ⟨S1, s1, s2, s3⟩ := B_sum hK hfa h
    obtain ⟨v, S2, t1, t2, t3⟩ := B_comparing hK s2
    obtain ⟨S3, w1, w2, w3⟩ := B_sum hK hfa t2
    obtain ⟨S4, x1, x2, x3⟩ := B_put (a := v) (c := 0) w2
    have x1' : F3_put S3 (45 + 6) v 0 = some S4 := x1
    have hT3 : frC T T3 := frC_t a3 (frC_t b3 c3)
    rw [s1, bB_s, t1, bB2_s, w1, bB_s, x1', bB_s]
    by_cases q : T (45 + 1) 1 = 259
    · rw [if_pos q]; exact ⟨T3, rfl, c2, hT3⟩
    · rw [if_neg q]
      by_cases q2 : T (45 + 1) 1 = 40
      · rw [if_pos q2]; exact ⟨T3, rfl, c2, hT3⟩
      · rw [if_neg q2]
        exact ⟨S4, rfl, x2, frC_t s3 (frC_t t3 (frC_t w3 x3))⟩
end

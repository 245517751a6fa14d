section
/-! what holds when: all of it -/
theorem OUT_w {b : Nat → Nat} {n r m : Nat} {K V P A : Nat → Nat} {j st c c' : Nat} {t : Bool} {T U T' : pS} {p : Int32 × pS} (h : OUT b n r m K V P A j st c t T U T' p) (hc : c ≤ c') : OUT b n r m K V P A j st c' t T U T' p := by
  refine ⟨h.1, h.2.1, h.2.2.imp (fun ⟨p1, j', st', a, b, d, e⟩ => ⟨p1, j', st', a, b, d, fun s hs => e s (by omega)⟩) id⟩
theorem P_anyOf {b : Nat → Nat} {n r m : Nat} {K V P A : Nat → Nat} (hr : r = 0 ∨ r = 1 ∨ r = 3) (hK : Toks b n r m K V P A) {o c D : Nat} (hc : c + 2 ≤ 32) (hS : ∀ (d d' j st : Nat) (T U : pS), D ≤ d → D ≤ d' → PL b n r m K V P A j st T U → st ≤ j → U 0 24 = nI o → ∃ T' p, (T5_single d).1 T 45 (nI o) = some T' ∧ (T12_oneTest d').1 U = some p ∧ OUT b n r m K V P A j st c true T U T' p) :
    ∀ (d d' j st : Nat) (T U : pS), D + 2 ≤ d → D + 2 ≤ d' → PL b n r m K V P A j st T U → st ≤ j → U 0 24 = nI o → ∃ T' p, (T5_single d).2.2 T 45 (nI o) = some T' ∧ (T12_oneTest d').2.2 U = some p ∧ OUT b n r m K V P A j st (c + 2) true T U T' p := by
  intro d d' j st T U hd hd' h hst h24
  obtain ⟨d, rfl⟩ : ∃ x, d = x + 2 := ⟨d - 2, by omega⟩
  obtain ⟨d', rfl⟩ : ∃ x, d' = x + 2 := ⟨d' - 2, by omega⟩
  rw [(T5_e (d + 1)).2.2, anyOf_d, (T12t_e (d' + 1)).2.2, any_d]
  refine P_link hr hK (rc := (T5_single (d + 1)).2.1) (rc' := (T12_oneTest (d' + 1)).2.1) (c := c + 1) (x := 257) (y := 4) (k := 11) (by omega) (Or.inr ⟨rfl, rfl, rfl⟩) ?_ j st T U h hst h24
  intro j st T U h hst h24
  rw [(T5_e d).2.1, allOf_d, (T12t_e d').2.1, every_d]
  exact P_link hr hK (rc := (T5_single d).1) (rc' := (T12_oneTest d').1) (c := c) (x := 258) (y := 5) (k := 10) (by omega) (Or.inl ⟨rfl, rfl, rfl⟩) (fun j st T U h hst h24 => hS d d' j st T U (by omega) (by omega) h hst h24) j st T U h hst h24
theorem P_single {b : Nat → Nat} {n r m : Nat} {K V P A : Nat → Nat} (hr : r = 0 ∨ r = 1 ∨ r = 3) (hK : Toks b n r m K V P A) : ∀ (e o d d' j st : Nat) (T U : pS), o + e = 8 → 3 * e + 1 ≤ d → 3 * e + 1 ≤ d' → PL b n r m K V P A j st T U → st ≤ j → U 0 24 = nI o → ∃ T' p, (T5_single d).1 T 45 (nI o) = some T' ∧ (T12_oneTest d').1 U = some p ∧ OUT b n r m K V P A j st (4 + 2 * e) true T U T' p := by
  intro e
  induction e with
  | zero =>
    intro o d d' j st T U ho hd hd' h hst h24
    obtain ⟨d, rfl⟩ : ∃ x, d = x + 1 := ⟨d - 1, by omega⟩
    obtain ⟨d', rfl⟩ : ∃ x, d' = x + 1 := ⟨d' - 1, by omega⟩
    obtain ⟨hT, h1, hU, hj⟩ := P_ty h
    obtain ⟨tf, tk, tv, tl, tm⟩ := tkF hr hK hj
    obtain ⟨-, -, -, t4, -, -, -, -, t6, t140, -⟩ := tmF tf
    have e6 : nI (tmN r (K j)) = 6 ↔ K j = 259 := (tmq t4 (x := 6) (by decide)).trans t6
    have e140 : nI (tmN r (K j)) = 140 ↔ K j = 40 := (tmq t4 (x := 140) (by decide)).trans t140
    have tkk := (tkG hK hj).2.2.2.2
    have c259 : nI (K j) = 259 ↔ K j = 259 := nI_eq (b := 259) (by omega) (by decide)
    have c40 : nI (K j) = 40 ↔ K j = 40 := nI_eq (b := 40) (by omega) (by decide)
    have ho8 : o = 8 := by omega
    subst ho8
    obtain ⟨U', a1, a2, a3, a4⟩ := P_fail (x := 3) h (show st ≤ 400 by omega) (by decide) (by decide)
    have a1' : F12_bad U 3 = (0, U') := a1
    have hop : F12_opens U = some (0, U') := by
      unfold F12_opens
      rw [h24, if_pos (by decide), a1', bT2_s]; rfl
    rw [(T5_e d).1, (T12t_e d').1]
    unfold B5_single B12_oneTest
    rw [bL_d, show 45 + 1 = 46 from rfl, hT, hU]
    by_cases q1 : K j = 259
    · rw [if_pos (c259.mpr q1), if_pos (e6.mpr q1), if_neg (show ¬ nI 8 < 8 by decide), bL_d, hop, bB2_s, if_pos rfl]
      exact ⟨_, (0, U'), rfl, rfl, a3, a2, Or.inr ⟨rfl, a4⟩⟩
    · rw [if_neg (fun z => q1 (c259.mp z)), if_neg (fun z => q1 (e6.mp z))]
      by_cases q2 : K j = 40
      · rw [if_pos (c40.mpr q2), if_pos (e140.mpr q2), if_neg (show ¬ nI 8 < 8 by decide), bL_d, hop, bB2_s, if_pos rfl]
        exact ⟨_, (0, U'), rfl, rfl, a3, a2, Or.inr ⟨rfl, a4⟩⟩
      · rw [if_neg (fun z => q2 (c40.mp z)), if_neg (fun z => q2 (e140.mp z))]
        exact P_cmp hr hK h hst
  | succ e ih =>
    intro o d d' j st T U ho hd hd' h hst h24
    obtain ⟨d, rfl⟩ : ∃ x, d = x + 1 := ⟨d - 1, by omega⟩
    obtain ⟨d', rfl⟩ : ∃ x, d' = x + 1 := ⟨d' - 1, by omega⟩
    obtain ⟨hT, h1, hU, hj⟩ := P_ty h
    obtain ⟨tf, tk, tv, tl, tm⟩ := tkF hr hK hj
    obtain ⟨-, -, -, t4, -, -, -, -, t6, t140, -⟩ := tmF tf
    have e6 : nI (tmN r (K j)) = 6 ↔ K j = 259 := (tmq t4 (x := 6) (by decide)).trans t6
    have e140 : nI (tmN r (K j)) = 140 ↔ K j = 40 := (tmq t4 (x := 140) (by decide)).trans t140
    have tkk := (tkG hK hj).2.2.2.2
    have c259 : nI (K j) = 259 ↔ K j = 259 := nI_eq (b := 259) (by omega) (by decide)
    have c40 : nI (K j) = 40 ↔ K j = 40 := nI_eq (b := 40) (by omega) (by decide)
    have ho8 : nI o < 8 := nI_lt (b := 8) (by omega) (by decide)
    rw [(T5_e d).1, (T12t_e d').1]
    unfold B5_single B12_oneTest
    rw [bL_d, show 45 + 1 = 46 from rfl, hT, hU]
    have hopen : K j ≠ 2 → ∃ T1 U1, F6_next T 46 = some T1 ∧ F12_opens U = some (1, U1) ∧ PL b n r m K V P A (j + 1) st T1 U1 ∧ j ≤ j + 1 ∧ frL T T1 ∧ U1 0 24 = nI (o + 1) ∧ frU U U1 ∧ T1 56 = T 56 := by
      intro hk
      obtain ⟨T1, U1, a1, a2, a3, a4, a5, a6, a7⟩ := P_next hr hK (PL_24 (v := nI (o + 1)) h) hk
      refine ⟨T1, U1, a1, ?_, a3, by omega, a4.2.2.1, a4.2.2.2.1.trans (sU_s _ _ _ _), frU_t (frU_24 U _) a5, a6⟩
      unfold F12_opens
      simp only [bL_d]
      rw [h24, if_neg (show ¬ nI o = 8 from fun z => by have := nI_inj (b := 8) z (by omega) (by decide); omega), nI_1, a2, bB_s]
    have h24' : ∀ U' : pS, U' 0 24 = nI (o + 1) → U' 0 24 - 1 = nI o := fun U' e => by rw [e, nI_pred]
    by_cases q1 : K j = 259
    · rw [if_pos (c259.mpr q1), if_pos (e6.mpr q1), if_pos ho8]
      obtain ⟨T1, U1, a1, a2, a3, a4, a5, a6, a7, a8⟩ := hopen (by omega)
      have y : F5_taken T 45 259 = some (1, T1) := P_yes h q1 a1
      obtain ⟨T2, ⟨p2, U2⟩, b1, b2, b3, b4, b5⟩ := ih (o + 1) d d' (j + 1) st T1 U1 (by omega) (by omega) (by omega) a3 (by omega) a6
      simp only at b3 b4 b5
      rw [y, bB2_s, if_neg n10, nI_1, b1, bB_s, a2, bB2_s, if_neg n10, b2, bB2_s]
      rcases b5 with ⟨rfl, j2, st2, c1, c2, c3, c4⟩ | ⟨rfl, c1⟩
      · have hj2 := (P_ty c1).2.2.2
        have c31 := c3.1
        have c32 := c3.2.1
        obtain ⟨T3, U3, d1, d2, d3, d4, d5, d8⟩ := P_put (c := 9) (num := 0) (s := 30) (v := 0) (PL_24 (v := nI o) c1) (by omega) (by decide) ⟨rfl, by decide, Or.inr (Or.inr (Or.inr ⟨by decide, by decide, by decide, rfl⟩))⟩
        have d1' : F3_put T2 51 9 0 = some T3 := d1
        have d1'' : F3_put T2 (45 + 6) 9 0 = some T3 := d1
        rw [if_neg n10, d1'', bB_s, bL_d, h24' U2 (c3.2.2.2.1.trans a6), d2, bB_s]
        refine ⟨T3, (1, U3), rfl, rfl, frC_t (frL_C a5) (frC_t b3 (frL_C d4.2.2.1)), frU_t a7 (frU_t b4 (frU_t (frU_24 U2 _) d5)), Or.inl ⟨rfl, j2, st2 + 1, d3, by omega, ⟨by omega, by omega, frL_t a5 (frL_t c3.2.2.1 d4.2.2.1), ?_, fun q hq => ?_⟩, ?_⟩⟩
        · show U3 0 24 = U 0 24
          rw [d4.2.2.2.1, sU_s, h24]
        · rw [d4.2.2.2.2 q (by omega), c3.2.2.2.2 q hq, a8]
        · refine TY_1 (TY_f (fun s hs => c4 s (by omega)) d4.2.2.2.2) (by omega) (fun s hs => ?_)
          rw [d8]; rfl
      · obtain ⟨T3, d1, d2, d3⟩ := B_put (a := 9) (c := 0) c1
        have d1'' : F3_put T2 (45 + 6) 9 0 = some T3 := d1
        rw [if_pos rfl, d1'', bB_s]
        exact ⟨T3, (0, U2), rfl, rfl, frC_t (frL_C a5) (frC_t b3 d3), frU_t a7 b4, Or.inr ⟨rfl, d2⟩⟩
    · rw [if_neg (fun z => q1 (c259.mp z)), if_neg (fun z => q1 (e6.mp z))]
      by_cases q2 : K j = 40
      · rw [if_pos (c40.mpr q2), if_pos (e140.mpr q2), if_pos ho8]
        obtain ⟨T1, U1, a1, a2, a3, a4, a5, a6, a7, a8⟩ := hopen (by omega)
        have no : F5_taken T 45 259 = some (0, T) := P_no hr hK h q1 (by decide)
        have tk40 : F5_take T 45 40 = some T1 := by
          unfold F5_take
          rw [show 45 + 1 = 46 from rfl, hT, if_pos (c40.mpr q2), a1, bB_s]
        obtain ⟨T2, ⟨p2, U2⟩, b1, b2, b3, b4, b5⟩ := P_anyOf hr hK (o := o + 1) (c := 4 + 2 * e) (D := 3 * e + 1) (by omega) (fun d d' j st T U hd hd' h hst h24 => ih (o + 1) d d' j st T U (by omega) hd hd' h hst h24) d d' (j + 1) st T1 U1 (by omega) (by omega) a3 (by omega) a6
        simp only at b3 b4 b5
        rw [no, bB2_s, if_pos rfl, tk40, bB_s, nI_1, b1, bB_s, a2, bB2_s, if_neg n10, b2, bB2_s]
        rcases b5 with ⟨rfl, j2, st2, c1, c2, c3, c4⟩ | ⟨rfl, c1⟩
        · have hj2 := (P_ty c1).2.2.2
          have c31 := c3.1
          have c32 := c3.2.1
          obtain ⟨tf2, -⟩ := tkF hr hK hj2
          obtain ⟨-, -, -, -, -, -, -, -, -, -, t141, -⟩ := tmF tf2
          rw [if_neg n10]
          rcases P_need hr hK (x := 41) (y := 141) c1 (by omega) (by decide) (by decide) (by decide) t141 with ⟨T3, U3, d1, d2, d3, d4, d5, d6⟩ | ⟨T3, U3, d1, d2, d3, d4, d5⟩
          · have d1' : F5_take T2 45 41 = some T3 := d1
            have d2' : F12_need U2 141 = some (1, U3) := d2
            rw [d1', bB_s, d2', bB2_s, if_neg n10, bL_d, h24' U3 (d4.2.2.2.1.trans (c3.2.2.2.1.trans a6))]
            refine ⟨T3, (1, sU U3 0 24 (nI o)), rfl, rfl, frC_t (frL_C a5) (frC_t b3 (frL_C d4.2.2.1)), frU_t a7 (frU_t b4 (frU_t d5 (frU_24 U3 _))), Or.inl ⟨rfl, j2 + 1, st2, PL_24 d3, by omega, ⟨by omega, by omega, frL_t a5 (frL_t c3.2.2.1 d4.2.2.1), ?_, fun q hq => ?_⟩, ?_⟩⟩
            · show sU U3 0 24 (nI o) 0 24 = U 0 24
              rw [sU_s, h24]
            · rw [d6, c3.2.2.2.2 q hq, a8]
            · exact TY_f (fun s hs => c4 s (by omega)) (fun q hq => by rw [d6])
          · have d1' : F5_take T2 45 41 = some T3 := d1
            have d2' : F12_need U2 141 = some (0, U3) := d2
            rw [d1', bB_s, d2', bB2_s, if_pos rfl]
            exact ⟨T3, (0, U3), rfl, rfl, frC_t (frL_C a5) (frC_t b3 d3), frU_t a7 (frU_t b4 d4), Or.inr ⟨rfl, d5⟩⟩
        · obtain ⟨T3, d1, d2, d3⟩ := B_take (x := 41) hK c1 (by decide) (by decide)
          have d1' : F5_take T2 45 41 = some T3 := d1
          rw [if_pos rfl, d1', bB_s]
          exact ⟨T3, (0, U2), rfl, rfl, frC_t (frL_C a5) (frC_t b3 d3), frU_t a7 b4, Or.inr ⟨rfl, d2⟩⟩
      · rw [if_neg (fun z => q2 (c40.mp z)), if_neg (fun z => q2 (e140.mp z))]
        obtain ⟨T', p, g1, g2, g3⟩ := P_cmp hr hK h hst
        exact ⟨T', p, g1, g2, OUT_w g3 (by omega)⟩
theorem P_any0 {b : Nat → Nat} {n r m : Nat} {K V P A : Nat → Nat} (hr : r = 0 ∨ r = 1 ∨ r = 3) (hK : Toks b n r m K V P A) {j st : Nat} {T U : pS} (h : PL b n r m K V P A j st T U) (hst : st ≤ j) (h24 : U 0 24 = nI 0) : ∃ T' p, F5_anyOf T 45 0 = some T' ∧ F12_any U = some p ∧ OUT b n r m K V P A j st 22 true T U T' p :=
  P_anyOf hr hK (o := 0) (c := 20) (D := 25) (by decide) (fun d d' j st T U hd hd' h hst h24 => P_single hr hK 8 0 d d' j st T U rfl hd hd' h hst h24) 40 40 j st T U (by decide) (by decide) h hst h24
theorem B_any {b : Nat → Nat} {n r m : Nat} {K V P A : Nat → Nat} (hK : Toks b n r m K V P A) {fa : Nat} {T : pS} {f p : Int32} (hfa : 2 < fa ∧ fa < 400) (h : BD n m K V P fa T f p) : ∃ T', F5_anyOf T 45 0 = some T' ∧ BD n m K V P fa T' f p ∧ frC T T' := by
  obtain ⟨T', e1, e2, e3⟩ := B_single hK hfa 8 0 38 T rfl (by decide) h
  have e1' : (T5_single 38).1 T 45 0 = some T' := e1
  refine ⟨T', ?_, e2, e3⟩
  unfold F5_anyOf
  rw [(T5_e 39).2.2, anyOf_d, (T5_e 38).2.1, allOf_d, e1', bB_s, lCh_f e2, bB_s, lCh_f e2]
end

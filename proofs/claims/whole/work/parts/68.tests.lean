section
/-! what holds when, side by side -/
noncomputable def lCh (rc : pS → Nat → Int32 → Option pS) (x k o i : Int32) (T : pS) : Option pS :=
  bB (bP (u2 fun (l2_3 : Int32) (S_4 : pS) =>
    if 400 ≤ l2_3 then
      some (.inr S_4)
    else
      bB2 (F5_taken S_4 45 x) fun r_6 S_7 =>
      if r_6 = 0 then
        some (.inr S_7)
      else
        bB (rc S_7 45 o) fun S_8 =>
        bB (F3_put S_8 (45 + 6) k 0) fun S_9 =>
        bL (l2_3 + 1) fun l2_10 =>
        some (.inl (l2_10, S_9))) (i, T)) (u1 fun (S : pS) => some S)
noncomputable def lMh (rc : pS → Option (Int32 × pS)) (y l : Int32) (U : pS) : Option (Int32 × pS) :=
  bB (bP (u1 fun (S_5 : pS) =>
      if (S_5 0 18) = y then
        bB (F12_next0 S_5) fun S_7 =>
        bB2 (rc S_7) fun r_8 S_9 =>
        if r_8 = 0 then
          some (.inr (.inr S_9))
        else
          bB (F12_lay S_9 l 0) fun S_10 =>
          some (.inl S_10)
      else
        some (.inr (.inl S_5))) U) (Sum.elim (u1 fun (S_3 : pS) => some ((1 : Int32), S_3)) (u1 fun (S_4 : pS) => some ((0 : Int32), S_4)))
theorem allOf_d (rc : pS → Nat → Int32 → Option pS) (T : pS) (o : Int32) : B5_allOf rc T 45 o = bB (rc T 45 o) fun S => lCh rc 258 10 o 0 S := by
  unfold B5_allOf lCh
  rfl
theorem anyOf_d (rc : pS → Nat → Int32 → Option pS) (T : pS) (o : Int32) : B5_anyOf rc T 45 o = bB (rc T 45 o) fun S => lCh rc 257 11 o 0 S := by
  unfold B5_anyOf lCh
  rfl
theorem every_d (rc : pS → Option (Int32 × pS)) (U : pS) : B12_every rc U = bB2 (rc U) fun r S => if r = 0 then some ((0 : Int32), S) else lMh rc 5 31 S := by
  unfold B12_every lMh
  rfl
theorem any_d (rc : pS → Option (Int32 × pS)) (U : pS) : B12_any rc U = bB2 (rc U) fun r S => if r = 0 then some ((0 : Int32), S) else lMh rc 4 32 S := by
  unfold B12_any lMh
  rfl
theorem lCh_f {n m : Nat} {K V P : Nat → Nat} {rc : pS → Nat → Int32 → Option pS} {x k o i : Int32} {fa : Nat} {T : pS} {f p : Int32} (h : BD n m K V P fa T f p) : lCh rc x k o i T = some T := by
  unfold lCh
  rw [bP_r (r := T) (by
    rw [u2_d]
    by_cases q : 400 ≤ i
    · rw [if_pos q]
    · rw [if_neg q, B_taken h, bB2_s, if_pos rfl])]
  rfl
theorem P_chain {b : Nat → Nat} {n r m : Nat} {K V P A : Nat → Nat} (hr : r = 0 ∨ r = 1 ∨ r = 3) (hK : Toks b n r m K V P A) {rc : pS → Nat → Int32 → Option pS} {rc' : pS → Option (Int32 × pS)} {o c x y k : Nat} (hxy : (x = 258 ∧ y = 5 ∧ k = 10) ∨ (x = 257 ∧ y = 4 ∧ k = 11)) (hH : ∀ (j st : Nat) (T U : pS), PL b n r m K V P A j st T U → st ≤ j → U 0 24 = nI o → ∃ T' p, rc T 45 (nI o) = some T' ∧ rc' U = some p ∧ OUT b n r m K V P A j st c true T U T' p) :
    ∀ (e j st i : Nat) (T U : pS), m - j ≤ e → PL b n r m K V P A j st T U → st ≤ j → i + 1 ≤ j → U 0 24 = nI o → ∃ T' p, lCh rc (nI x) (nI k) (nI o) (nI i) T = some T' ∧ lMh rc' (nI y) (nI (21 + k)) U = some p ∧ frC T T' ∧ frU U p.2 ∧ ((p.1 = 1 ∧ ∃ j' st', PL b n r m K V P A j' st' T' p.2 ∧ st' + j ≤ st + j' ∧ GD j st j' st' T T' U p.2 ∧ ∀ a s1 cc, TY T a st cc (true :: s1) → a ≤ st → s1.length + 1 + c ≤ cc → TY T' a st' cc (true :: s1)) ∨ (p.1 = 0 ∧ BD n m K V P (faN r) T' (p.2 0 21) (p.2 0 22))) := by
  intro e
  induction e with
  | zero => intro j st i T U he h; have := (P_ty h).2.2.2; omega
  | succ e ih =>
    intro j st i T U he h hst hi h24
    obtain ⟨hT, h1, hU, hj⟩ := P_ty h
    obtain ⟨tf, tk, tv, tl, tm⟩ := tkF hr hK hj
    obtain ⟨-, -, -, t4, -, -, -, -, -, -, -, -, -, -, t5, t4', -⟩ := tmF tf
    have ey : nI (tmN r (K j)) = nI y ↔ K j = x := by
      rcases hxy with ⟨rfl, rfl, -⟩ | ⟨rfl, rfl, -⟩
      · exact (tmq t4 (x := 5) (by decide)).trans t5
      · exact (tmq t4 (x := 4) (by decide)).trans t4'
    have hi4 : ¬ (400 : Int32) ≤ nI i := nge 400 (b := 400) rfl (by omega) (by decide)
    by_cases q : K j = x
    · obtain ⟨T1, U1, a1, a2, a3, a4, a5, a6, a7⟩ := P_next hr hK h (by omega)
      have yy := P_yes h q a1
      obtain ⟨T2, p, b1, b2, b3, b4, b5⟩ := hH (j + 1) st T1 U1 a3 (by omega) (a4.2.2.2.1.trans h24)
      rcases b5 with ⟨p1, j2, st2, c1, c2, c3, c4⟩ | ⟨p1, c1⟩
      · have hj2 := (P_ty c1).2.2.2
        have hc31 := c3.1
        have hc32 := c3.2.1
        obtain ⟨T3, U3, d1, d2, d3, d4, d5, d8⟩ := P_put (c := k) (num := 0) (s := nI (21 + k)) (v := 0) c1 (by omega) (by omega) ⟨rfl, by decide, Or.inr (Or.inr (Or.inr ⟨by omega, by omega, by omega, rfl⟩))⟩
        have hG : GD j st j2 (st2 + 1) T T3 U U3 := GD_t a4 (GD_t c3 d4)
        obtain ⟨T4, p4, g1, g2, g3, g4, g5⟩ := ih j2 (st2 + 1) (i + 1) T3 U3 (by omega) d3 (by omega) (by omega) (hG.2.2.2.1.trans h24)
        refine ⟨T4, p4, ?_, ?_, frC_t (frL_C hG.2.2.1) g3, frU_t a5 (frU_t b4 (frU_t d5 g4)), ?_⟩
        · rw [← g1]
          unfold lCh
          rw [bP_u (t := (nI (i + 1), T3)) (by
            rw [u2_d, if_neg hi4, yy, bB2_s, if_neg n10, b1, bB_s, show (0 : Int32) = nI 0 from rfl, show 45 + 6 = 51 from rfl, d1, bB_s, bL_d, nI_1])]
        · rw [← g2]
          unfold lMh
          rw [bP_u (t := U3) (by
            rw [u1_d, hU, if_pos (ey.mpr q), a2, bB_s, b2]
            obtain ⟨p_1, p_2⟩ := p
            simp only at p1 d2
            rw [bB2_s, p1, if_neg n10, d2, bB_s])]
        · rcases g5 with ⟨q1, j3, st3, q2, q3, q4, q5⟩ | q1
          · refine Or.inl ⟨q1, j3, st3, q2, by omega, GD_t hG q4, fun a s1 cc hty ha hc => ?_⟩
            refine q5 a s1 cc ?_ (by omega) hc
            have h2 : TY T2 a st2 cc (true :: true :: s1) := TY_2 (TY_f hty (fun q hq => by rw [c3.2.2.2.2 q hq, a6])) ha (by omega) c4 (by rw [List.length_cons]; omega)
            refine TY_1 (TY_f h2 d4.2.2.2.2) (by omega) (fun s hs => ?_)
            rw [d8]
            rcases hxy with ⟨-, -, rfl⟩ | ⟨-, -, rfl⟩ <;> rfl
          · exact Or.inr q1
      · obtain ⟨T3, d1, d2, d3⟩ := B_put (a := nI k) (c := 0) c1
        refine ⟨T3, (0, p.2), ?_, ?_, frC_t (frL_C a4.2.2.1) (frC_t b3 d3), frU_t a5 b4, Or.inr ⟨rfl, d2⟩⟩
        · rw [← lCh_f (rc := rc) (x := nI x) (k := nI k) (o := nI o) (i := nI (i + 1)) d2]
          unfold lCh
          rw [bP_u (t := (nI (i + 1), T3)) (by
            rw [u2_d, if_neg hi4, yy, bB2_s, if_neg n10, b1, bB_s, show 45 + 6 = 51 from rfl, d1, bB_s, bL_d, nI_1])]
        · unfold lMh
          rw [bP_r (r := (Sum.inr p.2 : pS ⊕ pS)) (by
            rw [u1_d, hU, if_pos (ey.mpr q), a2, bB_s, b2]
            obtain ⟨p_1, p_2⟩ := p
            simp only at p1
            rw [bB2_s, p1, if_pos rfl])]
          rfl
    · have no : F5_taken T 45 (nI x) = some (0, T) := P_no hr hK h q (by omega)
      refine ⟨T, (1, U), ?_, ?_, frC_r T, frU_r U, Or.inl ⟨rfl, j, st, h, by omega, GD_r _ _ _ _, fun a s1 cc hty _ _ => hty⟩⟩
      · unfold lCh
        rw [bP_r (r := T) (by rw [u2_d, if_neg hi4, no, bB2_s, if_pos rfl])]
        rfl
      · unfold lMh
        rw [bP_r (r := (Sum.inl U : pS ⊕ pS)) (by rw [u1_d, hU, if_neg (fun z => q (ey.mp z))])]
        rfl
theorem TY_pos {T : pS} {a a' c : Nat} {t : Bool} (h : TY T a a' c [t]) (hc : c ≤ 32) : a < a' := by
  by_cases q : a < a'
  · exact q
  · have := h [] (by simpa using hc)
    rw [show a' - a = 0 by omega] at this
    cases this
theorem P_link {b : Nat → Nat} {n r m : Nat} {K V P A : Nat → Nat} (hr : r = 0 ∨ r = 1 ∨ r = 3) (hK : Toks b n r m K V P A) {rc : pS → Nat → Int32 → Option pS} {rc' : pS → Option (Int32 × pS)} {o c x y k : Nat} (hc : c ≤ 32) (hxy : (x = 258 ∧ y = 5 ∧ k = 10) ∨ (x = 257 ∧ y = 4 ∧ k = 11)) (hH : ∀ (j st : Nat) (T U : pS), PL b n r m K V P A j st T U → st ≤ j → U 0 24 = nI o → ∃ T' p, rc T 45 (nI o) = some T' ∧ rc' U = some p ∧ OUT b n r m K V P A j st c true T U T' p) :
    ∀ (j st : Nat) (T U : pS), PL b n r m K V P A j st T U → st ≤ j → U 0 24 = nI o → ∃ T' p, (bB (rc T 45 (nI o)) fun S => lCh rc (nI x) (nI k) (nI o) 0 S) = some T' ∧ (bB2 (rc' U) fun rr S => if rr = 0 then some ((0 : Int32), S) else lMh rc' (nI y) (nI (21 + k)) S) = some p ∧ OUT b n r m K V P A j st (c + 1) true T U T' p := by
  intro j st T U h hst h24
  obtain ⟨T1, ⟨p1, U1⟩, a1, a2, a3, a4, a5⟩ := hH j st T U h hst h24
  simp only at a3 a4 a5
  rw [a1, bB_s, a2, bB2_s]
  rcases a5 with ⟨rfl, j1, st1, b1, b2, b3, b4⟩ | ⟨rfl, b1⟩
  · rw [if_neg n10]
    have hp := TY_pos b4 hc
    have h31 := b3.1
    obtain ⟨T2, p2, c1, c2, c3, c4, c5⟩ := P_chain hr hK hxy hH (m - j1) j1 st1 0 T1 U1 (Nat.le_refl _) b1 (by omega) (by omega) (b3.2.2.2.1.trans h24)
    have c1' : lCh rc (nI x) (nI k) (nI o) 0 T1 = some T2 := c1
    refine ⟨T2, p2, c1', c2, frC_t a3 c3, frU_t a4 c4, ?_⟩
    rcases c5 with ⟨q1, j2, st2, q2, q3, q4, q5⟩ | q1
    · refine Or.inl ⟨q1, j2, st2, q2, by omega, GD_t b3 q4, ?_⟩
      exact q5 st [] (c + 1) (fun s hs => b4 s (by omega)) (by omega) (by simp only [List.length_nil]; omega)
    · exact Or.inr q1
  · rw [if_pos rfl, lCh_f b1]
    exact ⟨T1, (0, U1), rfl, rfl, a3, a4, Or.inr ⟨rfl, b1⟩⟩
theorem PL_24 {b : Nat → Nat} {n r m : Nat} {K V P A : Nat → Nat} {j st : Nat} {T U : pS} {v : Int32} (h : PL b n r m K V P A j st T U) : PL b n r m K V P A j st T (sU U 0 24 v) := by
  obtain ⟨h1, h2, h3, h4, h5, h6, h7, h8, h9, h10, h11, h12, h13⟩ := h
  have e : ∀ x, x ≠ 24 → sU U 0 24 v 0 x = U 0 x := fun x hx => by rw [sU_n (by omega)]
  exact ⟨h1, h2, h3, ⟨(e 16 (by decide)).trans h4.1, h4.2.1, fun j hj => by rw [sU_ne (by decide)]; exact h4.2.2 j hj⟩, (e 12 (by decide)).trans h5, (e 17 (by decide)).trans h6, (e 18 (by decide)).trans h7, (e 19 (by decide)).trans h8, fun z => (e 20 (by decide)).trans (h9 z), h10, (e 14 (by decide)).trans h11, h12, fun q hq => by rw [sU_ne (by decide)]; exact h13 q hq⟩
theorem frU_24 (U : pS) (v : Int32) : frU U (sU U 0 24 v) := ⟨fun k a b => sU_ne a, fun j hj => by rw [sU_n (by omega)]⟩
theorem P_need {b : Nat → Nat} {n r m : Nat} {K V P A : Nat → Nat} (hr : r = 0 ∨ r = 1 ∨ r = 3) (hK : Toks b n r m K V P A) {j st x y : Nat} {T U : pS} (h : PL b n r m K V P A j st T U) (hst : st ≤ 400) (hx : x ≠ 2) (hx4 : x < 400) (hy : y < 400) (hxy : tmN r (K j) = y ↔ K j = x) :
    (∃ T' U', F5_take T 45 (nI x) = some T' ∧ F12_need U (nI y) = some (1, U') ∧ PL b n r m K V P A (j + 1) st T' U' ∧ GD j st (j + 1) st T T' U U' ∧ frU U U' ∧ T' 56 = T 56) ∨ ∃ T' U', F5_take T 45 (nI x) = some T' ∧ F12_need U (nI y) = some (0, U') ∧ frC T T' ∧ frU U U' ∧ BD n m K V P (faN r) T' (U' 0 21) (U' 0 22) := by
  obtain ⟨hT, h1, hU, hj⟩ := P_ty h
  obtain ⟨tf, tk, tv, tl, tm⟩ := tkF hr hK hj
  have t4 := (tmF tf).2.2.2.1
  have tkk := (tkG hK hj).2.2.2.2
  unfold F5_take F12_need
  simp only [bL_d, Nat.reduceAdd]
  rw [hT, hU]
  by_cases q : K j = x
  · obtain ⟨T1, U1, a1, a2, a3, a4, a5, a6, a7⟩ := P_next hr hK h (by omega)
    rw [if_pos (by rw [q]), if_pos (by rw [hxy.mpr q]), a1, a2, bB_s, bB_s]
    exact Or.inl ⟨T1, U1, rfl, rfl, a3, a4, a5, a6⟩
  · obtain ⟨U', a1, a2, a3, a4⟩ := P_fail (x := 1) h hst (by decide) (by decide)
    have a1' : F12_bad U 1 = (0, U') := a1
    rw [if_neg (fun z => q (nI_inj z (by omega) (by omega))), if_neg (fun z => q (hxy.mp (nI_inj z (by omega) (by omega)))), a1', bT2_s]
    exact Or.inr ⟨_, U', rfl, rfl, a3, a2, a4⟩
/-- a comparison -/
theorem P_cmp {b : Nat → Nat} {n r m : Nat} {K V P A : Nat → Nat} (hr : r = 0 ∨ r = 1 ∨ r = 3) (hK : Toks b n r m K V P A) {j st : Nat} {T U : pS} (h : PL b n r m K V P A j st T U) (hst : st ≤ j) : ∃ T' p, (bB (F5_sum T 45) fun S_11 => bB2 (F5_comparing S_11 45) fun r_12 S_13 => bB (F5_sum S_13 45) fun S_14 => bB (F3_put S_14 51 r_12 0) fun S_15 => some S_15) = some T' ∧
    (bB2 (F12_sumUp U) fun r_1 S_2 => if r_1 = 0 then some ((0 : Int32), S_2) else bL (fun (t_3 : Int32) => if t_3 = (-1) then bT2 (F12_bad S_2 1) fun r_9 S_10 => some ((r_9 &&& 1), S_10) else bB (F12_next0 S_2) fun S_4 => bB2 (F12_sumUp S_4) fun r_5 S_6 => if r_5 = 0 then some ((0 : Int32), S_6) else bB (F12_lay S_6 t_3 0) fun S_7 => some ((1 : Int32), S_7)) fun j147 => if (S_2 0 18) = 160 then j147 27 else if (S_2 0 18) = 161 then j147 28 else if (S_2 0 18) = 162 then j147 29 else j147 (-1)) = some p ∧ OUT b n r m K V P A j st 4 true T U T' p := by
  obtain ⟨T1, ⟨p1, U1⟩, a1, a2, a3, a4, a5⟩ := P_sum hr hK h hst
  simp only at a3 a4 a5
  rw [a1, bB_s, a2, bB2_s]
  rcases a5 with ⟨rfl, j1, st1, b1, b2, b3, b4⟩ | ⟨rfl, b1⟩
  · rw [if_neg n10]
    simp only [bL_d]
    obtain ⟨hT, h1, hU, hj⟩ := P_ty b1
    obtain ⟨tf, tk, tv, tl, tm⟩ := tkF hr hK hj
    obtain ⟨-, -, -, t4, -, -, -, -, -, -, -, t160, t161, t162, -⟩ := tmF tf
    have e160 : nI (tmN r (K j1)) = 160 ↔ K j1 = 60 := (tmq t4 (x := 160) (by decide)).trans t160
    have e161 : nI (tmN r (K j1)) = 161 ↔ K j1 = 61 := (tmq t4 (x := 161) (by decide)).trans t161
    have e162 : nI (tmN r (K j1)) = 162 ↔ K j1 = 62 := (tmq t4 (x := 162) (by decide)).trans t162
    have tkk := (tkG hK hj).2.2.2.2
    have c60 : nI (K j1) = 60 ↔ K j1 = 60 := nI_eq (b := 60) (by omega) (by decide)
    have c61 : nI (K j1) = 61 ↔ K j1 = 61 := nI_eq (b := 61) (by omega) (by decide)
    have c62 : nI (K j1) = 62 ↔ K j1 = 62 := nI_eq (b := 62) (by omega) (by decide)
    rw [hU]
    have h31 := b3.1
    have h32 := b3.2.1
    -- the kind c of the comparison
    have go : ∀ c : Nat, (c = 6 ∨ c = 7 ∨ c = 8) → K j1 ≠ 2 → (∀ T2, F6_next T1 46 = some T2 → F5_comparing T1 45 = some (nI c, T2)) → ∃ T' p, (bB2 (F5_comparing T1 45) fun r_12 S_13 => bB (F5_sum S_13 45) fun S_14 => bB (F3_put S_14 51 r_12 0) fun S_15 => some S_15) = some T' ∧ (bB (F12_next0 U1) fun S_4 => bB2 (F12_sumUp S_4) fun r_5 S_6 => if r_5 = 0 then some ((0 : Int32), S_6) else bB (F12_lay S_6 (nI (21 + c)) 0) fun S_7 => some ((1 : Int32), S_7)) = some p ∧ OUT b n r m K V P A j st 4 true T U T' p := by
      intro c hc hk hcmp
      obtain ⟨T2, U2, d1, d2, d3, d4, d5, d6, d7⟩ := P_next hr hK b1 hk
      obtain ⟨T3, ⟨p3, U3⟩, f1, f2, f3, f4, f5⟩ := P_sum hr hK d3 (by omega)
      simp only at f3 f4 f5
      rw [hcmp T2 d1, bB2_s, f1, bB_s, d2, bB_s, f2, bB2_s]
      rcases f5 with ⟨rfl, j3, st3, g1, g2, g3, g4⟩ | ⟨rfl, g1⟩
      · have hj3 := (P_ty g1).2.2.2
        have g31 := g3.1
        have g32 := g3.2.1
        obtain ⟨T4, U4, k1, k2, k3, k4, k5, k8⟩ := P_put (c := c) (num := 0) (s := nI (21 + c)) (v := 0) g1 (by omega) (by omega) ⟨rfl, by decide, Or.inr (Or.inr (Or.inr ⟨by omega, by omega, by omega, rfl⟩))⟩
        have k1' : F3_put T3 51 (nI c) 0 = some T4 := k1
        rw [if_neg n10, k1', bB_s, k2, bB_s]
        have hG := GD_t b3 (GD_t d4 (GD_t g3 k4))
        refine ⟨T4, (1, U4), rfl, rfl, frL_C hG.2.2.1, frU_t a4 (frU_t d5 (frU_t f4 k5)), Or.inl ⟨rfl, j3, st3 + 1, k3, by omega, hG, ?_⟩⟩
        have y1 : TY T3 st st1 4 [false] := TY_f (fun s hs => b4 s (by omega)) (fun q hq => by rw [g3.2.2.2.2 q hq, d6])
        have y2 : TY T3 st st3 4 [false, false] := TY_2 y1 (by omega) (by omega) g4 (by decide)
        refine TY_1 (TY_f y2 k4.2.2.2.2) (by omega) (fun s hs => ?_)
        rw [k8]
        rcases hc with rfl | rfl | rfl <;> rfl
      · obtain ⟨T4, k1, k2, k3⟩ := B_put (a := nI c) (c := 0) g1
        rw [if_pos rfl, k1, bB_s]
        exact ⟨T4, (0, U3), rfl, rfl, frC_t a3 (frC_t (frL_C d4.2.2.1) (frC_t f3 k3)), frU_t a4 (frU_t d5 f4), Or.inr ⟨rfl, k2⟩⟩
    have hcm : F5_comparing T1 45 = if nI (K j1) = 60 then (bB (F5_take T1 45 60) fun S => some (6, S)) else if nI (K j1) = 61 then (bB (F5_take T1 45 61) fun S => some (7, S)) else bB (F5_take T1 45 62) fun S => some (8, S) := by
      unfold F5_comparing
      simp only [bL_d, Nat.reduceAdd]
      rw [hT, if_pos trivial, if_neg (show ¬ (7 : Int32) = 6 by decide), if_pos trivial, if_neg (show ¬ (8 : Int32) = 6 by decide), if_neg (show ¬ (8 : Int32) = 7 by decide)]
    have htk : ∀ x : Nat, K j1 = x → ∀ T2, F6_next T1 46 = some T2 → F5_take T1 45 (nI x) = some T2 := by
      intro x hx T2 hn
      unfold F5_take
      rw [show 45 + 1 = 46 from rfl, hT, if_pos (by rw [hx]), hn, bB_s]
    by_cases q60 : K j1 = 60
    · rw [if_pos (e160.mpr q60), if_neg (by decide)]
      exact go 6 (by omega) (by omega) (fun T2 hn => by
        rw [hcm, if_pos (c60.mpr q60), show (60 : Int32) = nI 60 from rfl, htk 60 q60 T2 hn, bB_s]; rfl)
    · by_cases q61 : K j1 = 61
      · rw [if_neg (fun z => q60 (e160.mp z)), if_pos (e161.mpr q61), if_neg (by decide)]
        exact go 7 (by omega) (by omega) (fun T2 hn => by
          rw [hcm, if_neg (fun z => q60 (c60.mp z)), if_pos (c61.mpr q61), show (61 : Int32) = nI 61 from rfl, htk 61 q61 T2 hn, bB_s]; rfl)
      · by_cases q62 : K j1 = 62
        · rw [if_neg (fun z => q60 (e160.mp z)), if_neg (fun z => q61 (e161.mp z)), if_pos (e162.mpr q62), if_neg (by decide)]
          exact go 8 (by omega) (by omega) (fun T2 hn => by
            rw [hcm, if_neg (fun z => q60 (c60.mp z)), if_neg (fun z => q61 (c61.mp z)), show (62 : Int32) = nI 62 from rfl, htk 62 q62 T2 hn, bB_s]; rfl)
        · rw [if_neg (fun z => q60 (e160.mp z)), if_neg (fun z => q61 (e161.mp z)), if_neg (fun z => q62 (e162.mp z)), if_pos trivial]
          obtain ⟨U2, d1, d2, d3, d4⟩ := P_fail (x := 1) b1 (show st1 ≤ 400 by omega) (by decide) (by decide)
          have d1' : F12_bad U1 1 = (0, U2) := d1
          have ht : F5_take T1 45 62 = some (F5_fail T1 45 1) := by
            unfold F5_take
            rw [show 45 + 1 = 46 from rfl, hT, if_neg (fun z => q62 (c62.mp z)), bL_d]
          rw [hcm, if_neg (fun z => q60 (c60.mp z)), if_neg (fun z => q61 (c61.mp z)), ht, bB_s, bB2_s, d1', bT2_s]
          obtain ⟨T3, f1, f2, f3⟩ := B_sum hK fa_b d4
          obtain ⟨T4, k1, k2, k3⟩ := B_put (a := 8) (c := 0) f2
          have f1' : F5_sum (F5_fail T1 45 1) 45 = some T3 := f1
          rw [f1', bB_s, k1, bB_s]
          exact ⟨T4, (0, U2), rfl, rfl, frC_t a3 (frC_t d3 (frC_t f3 k3)), frU_t a4 d2, Or.inr ⟨rfl, k2⟩⟩
  · rw [if_pos rfl]
    obtain ⟨v, T2, d1, d2, d3⟩ := B_comparing hK b1
    obtain ⟨T3, f1, f2, f3⟩ := B_sum hK fa_b d2
    obtain ⟨T4, k1, k2, k3⟩ := B_put (a := v) (c := 0) f2
    rw [d1, bB2_s, f1, bB_s, k1, bB_s]
    exact ⟨T4, (0, U1), rfl, rfl, frC_t a3 (frC_t d3 (frC_t f3 k3)), a4, Or.inr ⟨rfl, k2⟩⟩
end

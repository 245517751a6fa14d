section
/-! a sum, side by side -/
noncomputable def tSum (i : Int32) (S : pS) : Option ((Int32 × Int32 × pS) ⊕ (pS ⊕ pS)) :=
  bB2 (F5_taken S 45 43) fun r_16 S_17 =>
    bL (fun (t_18 : Int32) (S_19 : pS) =>
      if t_18 = (-1) then
        some (.inr (.inr S_19))
      else
        bB (F5_operand S_19 45) fun S_20 =>
        bL (i + 1) fun l2_12 =>
        some (.inl (t_18, l2_12, S_20))) fun j116 =>
    if r_16 = 0 then
      bB2 (F5_taken S_17 45 45) fun r_22 S_23 =>
      if r_22 = 0 then
        j116 (-1) S_23
      else
        j116 3 S_23
    else
      j116 2 S_17
theorem bSum_t {w i : Int32} {T : pS} (hi : ¬ 400 ≤ i) (h1 : T 45 1 = 0) (h42 : F5_taken T 45 42 = some (0, T)) (h47 : F5_taken T 45 47 = some (0, T)) : bSum (w, i, T) = if w = -1 then tSum i T else bB (F3_put T 51 w 0) fun S => tSum i S := by
  unfold bSum tSum
  simp only [u3_d, bL_d, Nat.reduceAdd]
  rw [if_neg hi, if_pos h1, h42, bB2_s, if_pos rfl, h47, bB2_s, if_pos rfl]
theorem tSum_p {i : Int32} {T T2 T3 : pS} (h : F5_taken T 45 43 = some (1, T2)) (h2 : F5_operand T2 45 = some T3) : tSum i T = some (.inl (2, i + 1, T3)) := by
  unfold tSum
  simp only [bL_d]
  rw [h, bB2_s, if_neg n10, if_neg (by decide), h2, bB_s]
theorem tSum_m {i : Int32} {T T2 T3 : pS} (h0 : F5_taken T 45 43 = some (0, T)) (h : F5_taken T 45 45 = some (1, T2)) (h2 : F5_operand T2 45 = some T3) : tSum i T = some (.inl (3, i + 1, T3)) := by
  unfold tSum
  simp only [bL_d]
  rw [h0, bB2_s, if_pos rfl, h, bB2_s, if_neg n10, if_neg (by decide), h2, bB_s]
theorem tSum_n {i : Int32} {T : pS} (h0 : F5_taken T 45 43 = some (0, T)) (h : F5_taken T 45 45 = some (0, T)) : tSum i T = some (.inr (.inr T)) := by
  unfold tSum
  simp only [bL_d]
  rw [h0, bB2_s, if_pos rfl, h, bB2_s, if_pos rfl, if_pos trivial]
theorem RSm_f (U : pS) : (fun S => RSm S) = RSm := rfl
def SO (b : Nat → Nat) (n r m : Nat) (K V P A : Nat → Nat) (j st pd : Nat) (T U T' : pS) (p : Int32 × pS) : Prop := frC T T' ∧ frU U p.2 ∧ ((p.1 = 1 ∧ ∃ j' st', PL b n r m K V P A j' st' T' p.2 ∧ st' + j ≤ st + pd + j' ∧ GD j st j' st' T T' U p.2 ∧ ∀ a s1 c, TY T a st c (if pd = 0 then false :: s1 else false :: false :: s1) → a ≤ st → s1.length + 3 ≤ c → TY T' a st' c (false :: s1)) ∨ (p.1 = 0 ∧ BD n m K V P (faN r) T' (p.2 0 21) (p.2 0 22)))
/-- where nothing waits any more: a sign, or the end of the sum -/
theorem P_tail {b : Nat → Nat} {n r m : Nat} {K V P A : Nat → Nat} (hr : r = 0 ∨ r = 1 ∨ r = 3) (hK : Toks b n r m K V P A) (e : Nat) (ih : ∀ (j st i wn : Nat) (T U : pS), m - j ≤ e → PL b n r m K V P A j st T U → (wn = 2 ∨ wn = 3) → st + 1 ≤ j → i + 1 ≤ j → K j ≠ 42 → K j ≠ 47 → ∃ T' p, CSm (nI wn) (nI i) T = some T' ∧ bB (F12_lay U (nI (21 + wn)) 0) RSm = some p ∧ SO b n r m K V P A j st 1 T U T' p)
    {j st i : Nat} {w : Int32} {T0 T U : pS} (he : m - j ≤ e + 1) (h : PL b n r m K V P A j st T U) (hst : st ≤ j) (hi : i + 1 ≤ j) (ht : bSum (w, nI i, T0) = tSum (nI i) T) :
    ∃ T' p, CSm w (nI i) T0 = some T' ∧ RSm U = some p ∧ SO b n r m K V P A j st 0 T U T' p := by
  obtain ⟨hT, h1, hU, hj⟩ := P_ty h
  obtain ⟨tf, tk, tv, tl, tm⟩ := tkF hr hK hj
  obtain ⟨-, -, -, t4, -, -, t143, t145, -⟩ := tmF tf
  have e143 : nI (tmN r (K j)) = 143 ↔ K j = 43 := (tmq t4 (x := 143) (by decide)).trans t143
  have e145 : nI (tmN r (K j)) = 145 ↔ K j = 45 := (tmq t4 (x := 145) (by decide)).trans t145
  have go : ∀ wn : Nat, (wn = 2 ∨ wn = 3) → K j ≠ 2 → (∀ T2 T3, F6_next T 46 = some T2 → F5_operand T2 45 = some T3 → tSum (nI i) T = some (.inl (nI wn, nI (i + 1), T3))) → (∀ U2, F12_next0 U = some U2 → bSmu U = bB2 (F12_product U2) fun r S => if r = 0 then some (.inr (.inr S)) else bB (F12_lay S (nI (21 + wn)) 0) fun S => some (.inl S)) →
      ∃ T' p, CSm w (nI i) T0 = some T' ∧ RSm U = some p ∧ SO b n r m K V P A j st 0 T U T' p := by
    intro wn hw hk hts hbs
    obtain ⟨T1, U1, a1, a2, a3, a4, a5, a6, a7⟩ := P_next hr hK h hk
    have hb := hbs U1 a2
    rcases P_unit hr hK a3 (by omega) with ⟨T2, U2, b1, b2, b3, b4, b5, b6, b7⟩ | ⟨T2, U2, b1, b2, b3, b4, b5⟩
    · have hs := (CSm_u (ht.trans (hts T1 T2 a1 b1)))
      have hst2 := b4.2.1
      rcases P_prod hr hK (nI wn) (m - (j + 1 + 1)) (j + 1 + 1) (st + 1) (i + 1) T2 U2 (Nat.le_refl _) b3 (by omega) (by omega) with ⟨i', j', st', T', U', d1, d2, d3, d4, d5, d6, d6', d7, d8, d9⟩ | ⟨T', U', d1, d2, d3, d4, d5⟩
      · have hp : F12_product U1 = some (1, U') := by rw [product_d, b2, bB2_s, if_neg n10, d2]
        have hjj := d7.1
        obtain ⟨T3, p, g1, g2, g3, g4, g5⟩ := ih j' st' i' wn T' U' (by omega) d3 hw (by omega) d6 d4 d5
        obtain ⟨U5, l1, l2⟩ := bB_e g2
        have hU5 : bSmu U = some (.inl U5) := by rw [hb, hp, bB2_s, if_neg n10, l1, bB_s]
        have hG : GD j st j' st' T T' U U' := by
          have := GD_t (GD_t a4 b4) d7
          exact ⟨this.1, this.2.1, this.2.2.1, this.2.2.2.1, this.2.2.2.2⟩
        refine ⟨T3, p, hs.trans (d1.trans g1), (RSm_u hU5).trans l2, frC_t (frL_C hG.2.2.1) g3, frU_t (frU_t a5 (frU_t b5 d8)) g4, ?_⟩
        rcases g5 with ⟨p1, j3, st3, q1, q2, q3, q4⟩ | q
        · refine Or.inl ⟨p1, j3, st3, q1, by omega, GD_t hG q3, fun a s1 c hty ha hc => ?_⟩
          rw [if_pos rfl] at hty
          refine q4 a s1 c ?_ (by have := hG.2.1; omega) hc
          rw [if_neg (by decide)]
          refine d9 a (false :: s1) c ?_ (by omega) (by rw [List.length_cons]; omega)
          refine TY_1 (TY_f hty (fun q hq => by rw [b4.2.2.2.2 q hq, a6])) ha (fun s hs => ?_)
          unfold ty1
          rw [if_pos b6, if_pos (by simp only [List.length_append, List.length_cons]; omega)]
          rfl
        · exact Or.inr q
      · have hp : F12_product U1 = some (0, U') := by rw [product_d, b2, bB2_s, if_neg n10, d2]
        have hU5 : bSmu U = some (.inr (.inr U')) := by rw [hb, hp, bB2_s, if_pos rfl]
        exact ⟨T', (0, U'), hs.trans d1, RSm_0 hU5, frC_t (frL_C a4.2.2.1) (frC_t (frL_C b4.2.2.1) d3), frU_t a5 (frU_t b5 d4), Or.inr ⟨rfl, d5⟩⟩
    · have hs := (CSm_u (ht.trans (hts T1 T2 a1 b1)))
      have hp : F12_product U1 = some (0, U2) := by rw [product_d, b2, bB2_s, if_pos rfl]
      have hU5 : bSmu U = some (.inr (.inr U2)) := by rw [hb, hp, bB2_s, if_pos rfl]
      exact ⟨T2, (0, U2), hs.trans (CSm_f (by rw [b5.1]; exact b5.2.2.1)), RSm_0 hU5, frC_t (frL_C a4.2.2.1) b3, frU_t a5 b4, Or.inr ⟨rfl, b5⟩⟩
  by_cases q43 : K j = 43
  · refine go 2 (Or.inl rfl) (by omega) (fun T2 T3 g1 g2 => ?_) (fun U2 g => ?_)
    · have y : F5_taken T 45 43 = some (1, T2) := P_yes h q43 g1
      rw [tSum_p y g2, nI_1]; rfl
    · unfold bSmu
      simp only [u1_d, bL_d]
      rw [hU, if_pos (e143.mpr q43), if_pos (e143.mpr q43), g, bB_s]
      rfl
  · have no43 : F5_taken T 45 43 = some (0, T) := P_no hr hK h q43 (by decide)
    by_cases q45 : K j = 45
    · refine go 3 (Or.inr rfl) (by omega) (fun T2 T3 g1 g2 => ?_) (fun U2 g => ?_)
      · have y : F5_taken T 45 45 = some (1, T2) := P_yes h q45 g1
        rw [tSum_m no43 y g2, nI_1]; rfl
      · unfold bSmu
        simp only [u1_d, bL_d]
        rw [hU, if_neg (fun q => q43 (e143.mp q)), if_pos (e145.mpr q45), if_neg (fun q => q43 (e143.mp q)), g, bB_s]
        rfl
    · have no45 : F5_taken T 45 45 = some (0, T) := P_no hr hK h q45 (by decide)
      refine ⟨T, (1, U), CSm_r (ht.trans (tSum_n no43 no45)), RSm_1 ?_, frC_r T, frU_r U, Or.inl ⟨rfl, j, st, h, by omega, GD_r _ _ _ _, fun a s1 c hty _ _ => hty⟩⟩
      unfold bSmu
      simp only [u1_d, bL_d]
      rw [hU, if_neg (fun q => q43 (e143.mp q)), if_neg (fun q => q45 (e145.mp q))]
theorem P_srun {b : Nat → Nat} {n r m : Nat} {K V P A : Nat → Nat} (hr : r = 0 ∨ r = 1 ∨ r = 3) (hK : Toks b n r m K V P A) : ∀ (e j st i wn : Nat) (T U : pS), m - j ≤ e → PL b n r m K V P A j st T U → (wn = 2 ∨ wn = 3) → st + 1 ≤ j → i + 1 ≤ j → K j ≠ 42 → K j ≠ 47 → ∃ T' p, CSm (nI wn) (nI i) T = some T' ∧ bB (F12_lay U (nI (21 + wn)) 0) RSm = some p ∧ SO b n r m K V P A j st 1 T U T' p := by
  intro e
  induction e with
  | zero => intro j st i wn T U he h; have := (P_ty h).2.2.2; omega
  | succ e ih =>
    intro j st i wn T U he h hw hst hi q42 q47
    obtain ⟨hT, h1, hU, hj⟩ := P_ty h
    obtain ⟨tf, tk, tv, tl, tm⟩ := tkF hr hK hj
    have no42 : F5_taken T 45 42 = some (0, T) := P_no hr hK h q42 (by decide)
    have no47 : F5_taken T 45 47 = some (0, T) := P_no hr hK h q47 (by decide)
    obtain ⟨T1, U1, c1, c2, c3, c4, c5, c8⟩ := P_put (c := wn) (num := 0) (s := nI (21 + wn)) (v := 0) h (by omega) (by omega) ⟨rfl, by decide, Or.inr (Or.inr (Or.inr ⟨by omega, by omega, by omega, rfl⟩))⟩
    have hwm : ¬ nI wn = -1 := by rcases hw with rfl | rfl <;> decide
    have ht : bSum (nI wn, nI i, T) = tSum (nI i) T1 := by
      rw [bSum_t (nge 400 (b := 400) rfl (by omega) (by decide)) h1 no42 no47, if_neg hwm, show (0 : Int32) = nI 0 from rfl, c1, bB_s]
    obtain ⟨T', p, g1, g2, g3, g4, g5⟩ := P_tail hr hK e ih he c3 (by omega) hi ht
    refine ⟨T', p, g1, by rw [c2, bB_s]; exact g2, frC_t (frL_C c4.2.2.1) g3, frU_t c5 g4, ?_⟩
    rcases g5 with ⟨p1, j3, st3, q1, q2, q3, q4⟩ | q
    · refine Or.inl ⟨p1, j3, st3, q1, by omega, GD_t c4 q3, fun a s1 c hty ha hc => ?_⟩
      rw [if_neg (by decide)] at hty
      refine q4 a s1 c ?_ (by omega) hc
      rw [if_pos rfl]
      refine TY_1 (TY_f hty c4.2.2.2.2) ha (fun s hs => ?_)
      rw [c8]
      rcases hw with rfl | rfl <;> rfl
    · exact Or.inr q
theorem P_sum {b : Nat → Nat} {n r m : Nat} {K V P A : Nat → Nat} (hr : r = 0 ∨ r = 1 ∨ r = 3) (hK : Toks b n r m K V P A) {j st : Nat} {T U : pS} (h : PL b n r m K V P A j st T U) (hst : st ≤ j) : ∃ T' p, F5_sum T 45 = some T' ∧ F12_sumUp U = some p ∧ OUT b n r m K V P A j st 3 false T U T' p := by
  rcases P_unit hr hK h hst with ⟨T2, U2, b1, b2, b3, b4, b5, b6, b7⟩ | ⟨T2, U2, b1, b2, b3, b4, b5⟩
  · rcases P_prod hr hK (-1) (m - (j + 1)) (j + 1) (st + 1) 0 T2 U2 (Nat.le_refl _) b3 (by omega) (by omega) with ⟨i', j', st', T', U', d1, d2, d3, d4, d5, d6, d6', d7, d8, d9⟩ | ⟨T', U', d1, d2, d3, d4, d5⟩
    · have hp : F12_product U = some (1, U') := by rw [product_d, b2, bB2_s, if_neg n10, d2]
      obtain ⟨hT, h1, hU, hj⟩ := P_ty d3
      have hm4 := (tkF hr hK hj).2.2.2.2
      have ht : bSum (-1, nI i', T') = tSum (nI i') T' := by
        rw [bSum_t (nge 400 (b := 400) rfl (by omega) (by decide)) h1 (P_no hr hK d3 d4 (by decide)) (P_no hr hK d3 d5 (by decide)), if_pos rfl]
      obtain ⟨T3, p, g1, g2, g3, g4, g5⟩ := P_tail hr hK (m - j') (P_srun hr hK (m - j')) (by omega) d3 (by omega) d6 ht
      refine ⟨T3, p, ?_, ?_, frC_t (frL_C b4.2.2.1) (frC_t (frL_C d7.2.2.1) g3), frU_t b5 (frU_t d8 g4), ?_⟩
      · rw [sum_d, b1, bB_s, show (0 : Int32) = nI 0 from rfl, d1]; exact g1
      · rw [sumUp_d, hp, bB2_s, if_neg n10]; exact g2
      · rcases g5 with ⟨p1, j3, st3, q1, q2, q3, q4⟩ | q
        · have hb4 := b4.2.1
          have hd7 := d7.2.1
          refine Or.inl ⟨p1, j3, st3, q1, by omega, GD_t b4 (GD_t d7 q3), ?_⟩
          refine q4 st [] 3 ?_ (by omega) (by simp)
          rw [if_pos rfl]
          refine d9 st [] 3 ?_ (by omega) (by simp)
          refine TY_1 (TY_0 T2 st 3) (Nat.le_refl _) (fun s hs => ?_)
          unfold ty1
          rw [if_pos b6, List.nil_append, if_pos (show s.length < 32 by omega)]
          rfl
        · exact Or.inr q
    · refine ⟨T', (0, U'), ?_, ?_, frC_t (frL_C b4.2.2.1) d3, frU_t b5 d4, Or.inr ⟨rfl, d5⟩⟩
      · rw [sum_d, b1, bB_s]; exact d1
      · rw [sumUp_d, product_d, b2, bB2_s, if_neg n10, d2, bB2_s, if_pos rfl]
  · refine ⟨T2, (0, U2), ?_, ?_, b3, b4, Or.inr ⟨rfl, b5⟩⟩
    · rw [sum_d, b1, bB_s, CSm_f (by rw [b5.1]; exact b5.2.2.1)]
    · rw [sumUp_d, product_d, b2, bB2_s, if_pos rfl, bB2_s, if_pos rfl]
end

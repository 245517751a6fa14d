section
/-! the lines of a law, side by side -/
def frW (U U' : pS) : Prop := (∀ k', k' ≠ 0 → k' ≠ 4 → k' ≠ 5 → U' k' = U k') ∧ ∀ j, (j < 12 ∨ j = 12 ∨ j = 15 ∨ j = 16 ∨ j = 23 ∨ 25 ≤ j) → U' 0 j = U 0 j
theorem frW_r (U : pS) : frW U U := ⟨fun _ _ _ _ => rfl, fun _ _ => rfl⟩
theorem frW_t {U U' U'' : pS} (h : frW U U') (h' : frW U' U'') : frW U U'' := ⟨fun k a b c => (h'.1 k a b c).trans (h.1 k a b c), fun j hj => (h'.2 j hj).trans (h.2 j hj)⟩
theorem frU_W {U U' : pS} (h : frU U U') : frW U U' := ⟨fun k a _ c => h.1 k a c, fun j hj => h.2 j (by omega)⟩
theorem frW_4 (U : pS) (j : Nat) (v : Int32) : frW U (sU U 4 j v) := ⟨fun k a b c => sU_ne b, fun j hj => by rw [sU_n (by omega)]⟩
theorem frW_13 (U : pS) (v : Int32) : frW U (sU U 0 13 v) := ⟨fun k a b c => sU_ne a, fun j hj => by rw [sU_n (by omega)]⟩
theorem frC_5 {T : pS} {k j : Nat} {v : Int32} (h : 45 ≤ k ∧ k ≤ 58) : frC T (sU T k j v) := fun k' hk' => sU_ne (by omega)
theorem PL_fr {b : Nat → Nat} {n r m : Nat} {K V P A : Nat → Nat} {j st : Nat} {T U T' U' : pS} (h : PL b n r m K V P A j st T U) (hT : ∀ k', (k' = 45 ∨ k' = 46 ∨ k' = 48 ∨ k' = 49 ∨ k' = 50 ∨ k' = 56) → T' k' = T k') (h51 : T' 51 1 = T 51 1) (hln : ∃ ln, ln ≤ 16 ∧ T' 51 0 = nI ln) (hU : ∀ x, x ≠ 13 → U' 0 x = U 0 x) (h5 : U' 5 = U 5) (h7 : U' 7 = U 7) : PL b n r m K V P A j st T' U' := by
  obtain ⟨h1, h2, h3, h4, h5', h6, h7', h8, h9, h10, h11, h12, h13⟩ := h
  refine ⟨by rw [hT 45 (by omega)]; exact h1, by rw [hT 45 (by omega)]; exact h2, ?_, ⟨(hU 16 (by decide)).trans h4.1, h4.2.1, fun j hj => by rw [h7]; exact h4.2.2 j hj⟩, (hU 12 (by decide)).trans h5', (hU 17 (by decide)).trans h6, (hU 18 (by decide)).trans h7', (hU 19 (by decide)).trans h8, fun z => (hU 20 (by decide)).trans (h9 z), h51.trans h10, (hU 14 (by decide)).trans h11, hln, fun q hq => ?_⟩
  · unfold CT at h3 ⊢
    rw [hT 46 (by omega), hT 48 (by omega), hT 49 (by omega), hT 50 (by omega)]
    exact h3
  · have := h13 q hq
    unfold kS nS at this ⊢
    rw [hT 56 (by omega), h5]
    exact this
def lnOK (r i st : Nat) (T U : pS) : Prop := ∃ wd fr md tt, wd < 8 ∧ T 52 i = nI wd ∧ U 4 (4 * i + 3) = nI (wbN (lix r) + wd) ∧ T 53 i = nI fr ∧ U 4 (4 * i) = nI fr ∧ T 54 i = nI md ∧ U 4 (4 * i + 1) = nI md ∧ T 55 i = nI tt ∧ U 4 (4 * i + 2) = nI tt ∧ fr ≤ md ∧ md ≤ tt ∧ tt ≤ st ∧ tyN (kS T) fr (md - fr) [] = some [false] ∧ (md < tt → tyN (kS T) md (tt - md) [] = some [true])
theorem lnOK_f {r i st st' : Nat} {T U T' U' : pS} (h : lnOK r i st T U) (hst : st ≤ st') (hT : T' 52 i = T 52 i ∧ T' 53 i = T 53 i ∧ T' 54 i = T 54 i ∧ T' 55 i = T 55 i) (hU : ∀ x, x < 4 → U' 4 (4 * i + x) = U 4 (4 * i + x)) (h56 : ∀ q, q < st → T' 56 q = T 56 q) : lnOK r i st' T' U' := by
  obtain ⟨wd, fr, md, tt, a1, a2, a3, a4, a5, a6, a7, a8, a9, a10, a11, a12, a13, a14⟩ := h
  have e : ∀ q, q < st → kS T' q = kS T q := fun q hq => by unfold kS; rw [h56 q hq]
  refine ⟨wd, fr, md, tt, a1, hT.1.trans a2, (hU 3 (by decide)).trans a3, hT.2.1.trans a4, (hU 0 (by decide)).trans a5, hT.2.2.1.trans a6, (hU 1 (by decide)).trans a7, hT.2.2.2.trans a8, (hU 2 (by decide)).trans a9, a10, a11, by omega, ?_, fun z => ?_⟩
  · rw [tyN_c (md - fr) fr [] (fun q h1 h2 => e q (by omega))]; exact a13
  · rw [tyN_c (tt - md) md [] (fun q h1 h2 => e q (by omega))]; exact a14 z
theorem B_when {n m : Nat} {K V P : Nat → Nat} {fa : Nat} {T : pS} {f p : Int32} (h : BD n m K V P fa T f p) : ∃ T', F3_beginWhen T 51 = some T' ∧ BD n m K V P fa T' f p ∧ frC T T' := by
  obtain ⟨h1, h2, h3, h4, ⟨j, h5⟩, h6, ⟨ln, h7, h7'⟩⟩ := id h
  unfold F3_beginWhen
  simp only [bL_d, Nat.reduceAdd]
  rw [h7']
  by_cases q : ln = 16
  · subst q
    rw [if_pos (by decide)]; exact ⟨T, rfl, h, frC_r T⟩
  · rw [if_neg (nge 16 (b := 16) rfl (by omega) (by decide)), bG_N (by omega) (by decide)]
    refine ⟨_, rfl, ⟨by rw [sU_ne (by decide)]; exact h1, by rw [sU_ne (by decide)]; exact h2, h3, by rw [sU_ne (by decide)]; exact h4, ⟨j, ?_⟩, by rw [sU_ne (by decide)]; exact h6, ⟨ln, h7, by rw [sU_ne (by decide)]; exact h7'⟩⟩, frC_5 (by omega)⟩
    unfold CT at h5 ⊢
    rw [sU_ne (k' := 46) (by decide), sU_ne (k' := 48) (by decide), sU_ne (k' := 49) (by decide), sU_ne (k' := 50) (by decide)]
    exact h5
theorem B_endLine {n m : Nat} {K V P : Nat → Nat} {fa : Nat} {T : pS} {f p : Int32} (h : BD n m K V P fa T f p) : ∃ T', F3_endLine T 51 = some T' ∧ BD n m K V P fa T' f p ∧ frC T T' := by
  obtain ⟨h1, h2, h3, h4, ⟨j, h5⟩, ⟨st, h6, h6'⟩, ⟨ln, h7, h7'⟩⟩ := id h
  unfold F3_endLine
  simp only [bL_d, Nat.reduceAdd]
  rw [h7']
  by_cases q : ln = 16
  · subst q
    rw [if_pos (by decide)]; exact ⟨T, rfl, h, frC_r T⟩
  · rw [if_neg (nge 16 (b := 16) rfl (by omega) (by decide)), bG_N (by omega) (by decide)]
    refine ⟨_, rfl, ⟨by rw [sU_ne (by decide), sU_ne (by decide)]; exact h1, by rw [sU_ne (by decide), sU_ne (by decide)]; exact h2, h3, by rw [sU_ne (by decide), sU_ne (by decide)]; exact h4, ⟨j, ?_⟩, ⟨st, h6, by rw [sU_n (by omega), sU_n (by omega)]; exact h6'⟩, ⟨ln + 1, by omega, by rw [sU_s, sU_n (by omega), h7', nI_1]⟩⟩, frC_t (frC_5 (by omega)) (frC_5 (by omega))⟩
    unfold CT at h5 ⊢
    rw [sU_ne (k' := 46) (by decide), sU_ne (k' := 46) (by decide), sU_ne (k' := 48) (by decide), sU_ne (k' := 48) (by decide), sU_ne (k' := 49) (by decide), sU_ne (k' := 49) (by decide), sU_ne (k' := 50) (by decide), sU_ne (k' := 50) (by decide)]
    exact h5
/-- one line, from its keyword on -/
theorem P_line {b : Nat → Nat} {n r m : Nat} {K V P A : Nat → Nat} (hr : r = 0 ∨ r = 1 ∨ r = 3) (hK : Toks b n r m K V P A) {j st nl : Nat} {T U : pS} (h : PL b n r m K V P A j st T U) (hst : st ≤ j) (hk0 : 260 ≤ K j) (hk1 : K j < faN r) (hnl : nl < 16) (e51 : T 51 0 = nI nl) (e13 : U 0 13 = nI nl) (hln : ∀ i, i < nl → lnOK r i st T U) :
    ∃ T' p, (bB (F6_next T 46) fun S_12 => bB (F3_beginLine S_12 51 (nI (K j) - 260)) fun S_13 => bB (F5_sum S_13 45) fun S_14 => bB (F3_beginWhen S_14 51) fun S_15 => bB2 (F5_taken S_15 45 256) fun r_16 S_17 => if r_16 = 0 then (bB (F5_take S_17 45 59) fun S_19 => bB (F3_endLine S_19 51) fun S_20 => some S_20) else bB (F5_anyOf S_17 45 0) fun S_21 => bB (F5_take S_21 45 59) fun S_19 => bB (F3_endLine S_19 51) fun S_20 => some S_20) = some T' ∧ F12_aLine U = some p ∧ frC T T' ∧ frW U p.2 ∧
      ((p.1 = 1 ∧ p.2 0 13 = nI nl ∧ ∃ j' st', PL b n r m K V P A j' st' T' p.2 ∧ j < j' ∧ st ≤ st' ∧ st' + j ≤ st + j' ∧ T' 51 0 = nI (nl + 1) ∧ T' 45 2 = T 45 2 ∧ ∀ i, i < nl + 1 → lnOK r i st' T' p.2) ∨ (p.1 = 0 ∧ BD n m K V P (faN r) T' (p.2 0 21) (p.2 0 22))) := by
  obtain ⟨hT, h1, hU, hj⟩ := P_ty h
  obtain ⟨tf, tk, tv, tl, tm⟩ := tkF hr hK hj
  obtain ⟨-, -, -, t4, -, -, -, -, -, -, -, -, -, -, -, -, -, -, -, t20, twb⟩ := tmF tf
  have t20' := t20.mpr ⟨hk0, hk1⟩
  obtain ⟨twb1, twb2⟩ := twb hk0 hk1
  have hwb : wbN (lix r) ≤ 27 := by unfold wbN; split <;> (try split) <;> omega
  -- the reference up to its first sum
  have hin : F12_isIn (nI (tmN r (K j))) 20 28 = 1 := by
    rw [isIn_d, if_pos ⟨nI_le (a := 20) t20'.1 (by omega), nI_le (b := 28) t20'.2 (by decide)⟩]
  have hP0 : PL b n r m K V P A j st T (sU (sU U 0 24 0) 4 (4 * nl + 3) (nI (tmN r (K j)))) := PL_fr (PL_24 (v := 0) h) (fun _ _ => rfl) rfl ⟨nl, by omega, e51⟩ (fun x _ => by rw [sU_ne (by decide)]) (by rw [sU_ne (by decide)]) (by rw [sU_ne (by decide)])
  obtain ⟨T1, U1, a1, a2, a3, a4, a5, a6, a7⟩ := P_next hr hK hP0 (by omega)
  have e51' : T1 51 0 = nI nl := a4.2.2.1.2.1.trans e51
  have e13' : U1 0 13 = nI nl := (a5.2 13 (by omega)).trans (by rw [sU_n (by omega), sU_n (by omega)]; exact e13)
  have s11 : T1 51 1 = nI st := a3.2.2.2.2.2.2.2.2.2.1
  have s14 : U1 0 14 = nI st := a3.2.2.2.2.2.2.2.2.2.2.1
  have hbl : F3_beginLine T1 51 (nI (K j) - 260) = some (sU (sU T1 52 nl (nI (K j - 260))) 53 nl (nI st)) := by
    unfold F3_beginLine
    simp only [bL_d, Nat.reduceAdd]
    rw [e51', if_neg (nge 16 (b := 16) rfl hnl (by decide)), bG_N hnl (by decide), sU_n (by omega), sU_n (by omega), e51', bG_N hnl (by decide), nI_clamp (by omega), s11, show (260 : Int32) = nI 260 from rfl, pk_sub hk0]
  have hP1 : PL b n r m K V P A (j + 1) st (sU (sU T1 52 nl (nI (K j - 260))) 53 nl (nI st)) (sU U1 4 (4 * nl) (nI st)) := PL_fr a3 (fun k' hk' => by rw [sU_ne (by omega), sU_ne (by omega)]) (by rw [sU_ne (by decide), sU_ne (by decide)]) ⟨nl, by omega, by rw [sU_ne (by decide), sU_ne (by decide)]; exact e51'⟩ (fun x _ => by rw [sU_ne (by decide)]) (by rw [sU_ne (by decide)]) (by rw [sU_ne (by decide)])
  obtain ⟨T2, ⟨p2, U2⟩, b1, b2, b3, b4, b5⟩ := P_sum hr hK hP1 (by omega)
  simp only at b3 b4 b5
  have hAL : F12_aLine U = bB2 (F12_sumUp (sU U1 4 (4 * nl) (nI st))) fun r_5 S_6 => if r_5 = 0 then some ((0 : Int32), S_6) else bG (vp_in ((4 * (S_6 0 13)) + 1) 64) <| bL (sU S_6 4 (((4 * (S_6 0 13)) + 1).toNatClampNeg) (S_6 0 14)) fun S_7 => bL (fun (S_8 : pS) => bG (vp_in ((4 * (S_8 0 13)) + 2) 64) <| bL (sU S_8 4 (((4 * (S_8 0 13)) + 2).toNatClampNeg) (S_8 0 14)) fun S_9 => bB2 (F12_need S_9 159) fun r_10 S_11 => some ((r_10 &&& 1), S_11)) fun j123 => if (S_7 0 18) = 3 then bB (F12_next0 S_7) fun S_12 => bB2 (F12_any S_12) fun r_13 S_14 => if r_13 = 0 then some ((0 : Int32), S_14) else j123 S_14 else j123 S_7 := by
    unfold F12_aLine
    rw [hU, hin, if_neg n10, e13, if_neg (show ¬ nI nl = 16 from fun z => by have := nI_inj (b := 16) z (by omega) (by decide); omega), bL_d, sU_n (show ¬ (0 = 0 ∧ 13 = 24) by omega), e13, sU_n (show ¬ (0 = 0 ∧ 18 = 24) by omega), hU, show (4 : Int32) = nI 4 from rfl, pk_mul, show (3 : Int32) = nI 3 from rfl, nI_add, bG_N (by omega) (by decide), nI_clamp (by omega), bL_d, a2, bB_s, e13', pk_mul, bG_N (by omega) (by decide), nI_clamp (by omega), s14, bL_d]
  have hfC0 : frC T (sU (sU T1 52 nl (nI (K j - 260))) 53 nl (nI st)) := frC_t (frL_C a4.2.2.1) (frC_t (frC_5 (by omega)) (frC_5 (by omega)))
  have hfW0 : frW U (sU U1 4 (4 * nl) (nI st)) := frW_t (frU_W (frU_24 U 0)) (frW_t (frW_4 _ _ _) (frW_t (frU_W a5) (frW_4 _ _ _)))
  rw [hAL, a1, bB_s, hbl, bB_s, b1, bB_s, b2, bB2_s]
  rcases b5 with ⟨rfl, j2, st2, c1, c2, c3, c4⟩ | ⟨rfl, c1⟩
  · have c31 := c3.1
    have c32 := c3.2.1
    have e51b : T2 51 0 = nI nl := c3.2.2.1.2.1.trans (by rw [sU_ne (by decide), sU_ne (by decide)]; exact e51')
    have e13b : U2 0 13 = nI nl := (b4.2 13 (by omega)).trans (by rw [sU_ne (by decide)]; exact e13')
    have s11b : T2 51 1 = nI st2 := c1.2.2.2.2.2.2.2.2.2.1
    have s14b : U2 0 14 = nI st2 := c1.2.2.2.2.2.2.2.2.2.2.1
    obtain ⟨hT2, h12, hU2, hj2⟩ := P_ty c1
    obtain ⟨tf2, -, -, tl2, tm2⟩ := tkF hr hK hj2
    obtain ⟨-, -, -, t42, -, -, -, -, -, -, -, -, -, -, -, -, t3, t159, -⟩ := tmF tf2
    have e3 : nI (tmN r (K j2)) = 3 ↔ K j2 = 256 := (tmq t42 (x := 3) (by decide)).trans t3
    have hbw : F3_beginWhen T2 51 = some (sU T2 54 nl (nI st2)) := by
      unfold F3_beginWhen
      simp only [bL_d, Nat.reduceAdd]
      rw [e51b, if_neg (nge 16 (b := 16) rfl hnl (by decide)), bG_N hnl (by decide), nI_clamp (by omega), s11b]
    have hP2 : PL b n r m K V P A j2 st2 (sU T2 54 nl (nI st2)) (sU U2 4 (4 * nl + 1) (nI st2)) := PL_fr c1 (fun k' hk' => by rw [sU_ne (by omega)]) (by rw [sU_ne (by decide)]) ⟨nl, by omega, by rw [sU_ne (by decide)]; exact e51b⟩ (fun x _ => by rw [sU_ne (by decide)]) (by rw [sU_ne (by decide)]) (by rw [sU_ne (by decide)])
    have u18 : sU U2 4 (4 * nl + 1) (nI st2) 0 18 = nI (tmN r (K j2)) := by rw [sU_ne (by decide)]; exact hU2
    rw [if_neg n10, e13b, show (4 : Int32) = nI 4 from rfl, pk_mul, show (1 : Int32) = nI 1 from rfl, nI_add, bG_N (by omega) (by decide), nI_clamp (by omega), s14b, bL_d, bL_d, u18, hbw, bB_s]
    -- the end of the line
    have hend : ∀ (j3 st3 : Nat) (T3 U3 : pS), PL b n r m K V P A j3 st3 T3 U3 → j2 ≤ j3 → st2 ≤ st3 → st3 + j2 ≤ st2 + j3 → frL (sU T2 54 nl (nI st2)) T3 → (∀ q, q < st2 → T3 56 q = T2 56 q) → frU (sU U2 4 (4 * nl + 1) (nI st2)) U3 → (st2 < st3 → tyN (kS T3) st2 (st3 - st2) [] = some [true]) → (st2 = st3 ∨ st2 < st3) →
        ∃ T' p, (bB (F5_take T3 45 59) fun S_19 => bB (F3_endLine S_19 51) fun S_20 => some S_20) = some T' ∧ (bG (vp_in ((nI 4 * (U3 0 13)) + 2) 64) <| bL (sU U3 4 (((nI 4 * (U3 0 13)) + 2).toNatClampNeg) (U3 0 14)) fun S_9 => bB2 (F12_need S_9 159) fun r_10 S_11 => some ((r_10 &&& nI 1), S_11)) = some p ∧ frC T T' ∧ frW U p.2 ∧
      ((p.1 = 1 ∧ p.2 0 13 = nI nl ∧ ∃ j' st', PL b n r m K V P A j' st' T' p.2 ∧ j < j' ∧ st ≤ st' ∧ st' + j ≤ st + j' ∧ T' 51 0 = nI (nl + 1) ∧ T' 45 2 = T 45 2 ∧ ∀ i, i < nl + 1 → lnOK r i st' T' p.2) ∨ (p.1 = 0 ∧ BD n m K V P (faN r) T' (p.2 0 21) (p.2 0 22))) := by
      intro j3 st3 T3 U3 hP3 hj23 hst23 hst3 hL3 h563 hF3 hty3 hor
      have e51c : T3 51 0 = nI nl := hL3.2.1.trans (by rw [sU_ne (by decide)]; exact e51b)
      have e13c : U3 0 13 = nI nl := (hF3.2 13 (by omega)).trans (by rw [sU_ne (by decide)]; exact e13b)
      have s11c : T3 51 1 = nI st3 := hP3.2.2.2.2.2.2.2.2.2.1
      have s14c : U3 0 14 = nI st3 := hP3.2.2.2.2.2.2.2.2.2.2.1
      have hj3 := (P_ty hP3).2.2.2
      obtain ⟨tf3, -, -, -, tm3⟩ := tkF hr hK hj3
      obtain ⟨-, -, -, -, -, -, -, -, -, -, -, -, -, -, -, -, -, t159, -⟩ := tmF tf3
      have hP4 : PL b n r m K V P A j3 st3 T3 (sU U3 4 (4 * nl + 2) (nI st3)) := PL_fr hP3 (fun _ _ => rfl) rfl ⟨nl, by omega, e51c⟩ (fun x _ => by rw [sU_ne (by decide)]) (by rw [sU_ne (by decide)]) (by rw [sU_ne (by decide)])
      have hC : frC T T3 := frC_t hfC0 (frC_t b3 (frC_t (frC_5 (by omega)) (frL_C hL3)))
      have hW : frW U (sU U3 4 (4 * nl + 2) (nI st3)) := frW_t hfW0 (frW_t (frU_W b4) (frW_t (frW_4 _ _ _) (frW_t (frU_W hF3) (frW_4 _ _ _))))
      rw [e13c, pk_mul, show (2 : Int32) = nI 2 from rfl, nI_add, bG_N (by omega) (by decide), nI_clamp (by omega), s14c, bL_d]
      rcases P_need hr hK (x := 59) (y := 159) hP4 (by omega) (by decide) (by decide) (by decide) t159 with ⟨T4, U4, d1, d2, d3, d4, d5, d6⟩ | ⟨T4, U4, d1, d2, d3, d4, d5⟩
      · have d1' : F5_take T3 45 59 = some T4 := d1
        have d2' : F12_need (sU U3 4 (4 * nl + 2) (nI st3)) 159 = some (1, U4) := d2
        have e51d : T4 51 0 = nI nl := d4.2.2.1.2.1.trans e51c
        have s11d : T4 51 1 = nI st3 := d3.2.2.2.2.2.2.2.2.2.1
        have hel : F3_endLine T4 51 = some (sU (sU T4 55 nl (nI st3)) 51 0 (nI (nl + 1))) := by
          unfold F3_endLine
          simp only [bL_d, Nat.reduceAdd]
          rw [e51d, if_neg (nge 16 (b := 16) rfl hnl (by decide)), bG_N hnl (by decide), nI_clamp (by omega), s11d, sU_n (by omega), e51d, nI_1]
        rw [d1', bB_s, hel, bB_s, d2', bB2_s]
        have q56 : ∀ q, q < st2 → sU (sU T4 55 nl (nI st3)) 51 0 (nI (nl + 1)) 56 q = T2 56 q := fun q hq => by
          rw [sU_ne (by decide), sU_ne (by decide), d6]; exact h563 q hq
        have q56c : sU (sU T4 55 nl (nI st3)) 51 0 (nI (nl + 1)) 56 = T3 56 := by rw [sU_ne (by decide), sU_ne (by decide), d6]
        have g5 : ∀ k', (k' = 52 ∨ k' = 53 ∨ k' = 54) → sU (sU T4 55 nl (nI st3)) 51 0 (nI (nl + 1)) k' = sU T2 54 nl (nI st2) k' := fun k' hk' => by
          rw [sU_ne (by omega), sU_ne (by omega), d4.2.2.1.1 k' (by omega) (by omega) (by omega) (by omega), hL3.1 k' (by omega) (by omega) (by omega) (by omega)]
        have g5b : ∀ k', (k' = 52 ∨ k' = 53) → T2 k' = sU (sU T1 52 nl (nI (K j - 260))) 53 nl (nI st) k' := fun k' hk' => c3.2.2.1.1 k' (by omega) (by omega) (by omega) (by omega)
        have g55 : T4 55 = T 55 := by
          rw [d4.2.2.1.1 55 (by omega) (by omega) (by omega) (by omega), hL3.1 55 (by omega) (by omega) (by omega) (by omega), sU_ne (by decide), c3.2.2.1.1 55 (by omega) (by omega) (by omega) (by omega), sU_ne (by decide), sU_ne (by decide), a4.2.2.1.1 55 (by omega) (by omega) (by omega) (by omega)]
        have g54 : T2 54 = T 54 := by
          rw [c3.2.2.1.1 54 (by omega) (by omega) (by omega) (by omega), sU_ne (by decide), sU_ne (by decide), a4.2.2.1.1 54 (by omega) (by omega) (by omega) (by omega)]
        have g52 : T1 52 = T 52 := a4.2.2.1.1 52 (by omega) (by omega) (by omega) (by omega)
        have g53 : T1 53 = T 53 := a4.2.2.1.1 53 (by omega) (by omega) (by omega) (by omega)
        have u4 : U4 4 = sU U3 4 (4 * nl + 2) (nI st3) 4 := d5.1 4 (by decide) (by decide)
        have u4b : U3 4 = sU U2 4 (4 * nl + 1) (nI st2) 4 := hF3.1 4 (by decide) (by decide)
        have u4c : U2 4 = sU U1 4 (4 * nl) (nI st) 4 := b4.1 4 (by decide) (by decide)
        have u4d : U1 4 = sU (sU U 0 24 0) 4 (4 * nl + 3) (nI (tmN r (K j))) 4 := a5.1 4 (by decide) (by decide)
        have uu : ∀ x, U4 4 x = if x = 4 * nl + 2 then nI st3 else if x = 4 * nl + 1 then nI st2 else if x = 4 * nl then nI st else if x = 4 * nl + 3 then nI (tmN r (K j)) else U 4 x := by
          intro x
          rw [u4, sU_get]
          by_cases z1 : x = 4 * nl + 2
          · rw [if_pos ⟨rfl, z1⟩, if_pos z1]
          · rw [if_neg (fun q => z1 q.2), if_neg z1, u4b, sU_get]
            by_cases z2 : x = 4 * nl + 1
            · rw [if_pos ⟨rfl, z2⟩, if_pos z2]
            · rw [if_neg (fun q => z2 q.2), if_neg z2, u4c, sU_get]
              by_cases z3 : x = 4 * nl
              · rw [if_pos ⟨rfl, z3⟩, if_pos z3]
              · rw [if_neg (fun q => z3 q.2), if_neg z3, u4d, sU_get]
                by_cases z4 : x = 4 * nl + 3
                · rw [if_pos ⟨rfl, z4⟩, if_pos z4]
                · rw [if_neg (fun q => z4 q.2), if_neg z4, sU_ne (by decide)]
        refine ⟨_, (1, U4), rfl, rfl, frC_t hC (frC_t (frL_C d4.2.2.1) (frC_t (frC_5 (by omega)) (frC_5 (by omega)))), frW_t hW (frU_W d5), Or.inl ⟨rfl, ?_, j3 + 1, st3, ?_, by omega, by omega, by omega, sU_s _ _ _ _, ?_, fun i hi => ?_⟩⟩
        · show U4 0 13 = nI nl
          rw [d5.2 13 (by omega), sU_ne (by decide)]; exact e13c
        · exact PL_fr d3 (fun k' hk' => by rw [sU_ne (by omega), sU_ne (by omega)]) (by rw [sU_n (by omega), sU_ne (by decide)]) ⟨nl + 1, by omega, sU_s _ _ _ _⟩ (fun x _ => rfl) rfl rfl
        · rw [sU_ne (by decide), sU_ne (by decide), d4.2.2.1.2.2.2.2.2, hL3.2.2.2.2.2, sU_ne (by decide), c3.2.2.1.2.2.2.2.2, sU_ne (by decide), sU_ne (by decide), a4.2.2.1.2.2.2.2.2]
        · show lnOK r i st3 _ U4
          by_cases z : i < nl
          · refine lnOK_f (hln i z) (by omega) ⟨?_, ?_, ?_, ?_⟩ (fun x hx => ?_) (fun q hq => ?_)
            · rw [g5 52 (by omega), sU_ne (by decide), g5b 52 (by omega), sU_ne (by decide), sU_n (by omega), g52]
            · rw [g5 53 (by omega), sU_ne (by decide), g5b 53 (by omega), sU_n (by omega), sU_ne (by decide), g53]
            · rw [g5 54 (by omega), sU_n (by omega), g54]
            · rw [sU_ne (by decide), sU_n (by omega), g55]
            · rw [uu, if_neg (by omega), if_neg (by omega), if_neg (by omega), if_neg (by omega)]
            · rw [q56 q (by omega), c3.2.2.2.2 q hq, sU_ne (by decide), sU_ne (by decide), a6]
          · have zi : i = nl := by omega
            subst zi
            refine ⟨K j - 260, st, st2, st3, twb2, ?_, ?_, ?_, ?_, ?_, ?_, ?_, ?_, by omega, by omega, Nat.le_refl _, ?_, fun z => ?_⟩
            · rw [g5 52 (by omega), sU_ne (by decide), g5b 52 (by omega), sU_ne (by decide), sU_s]
            · rw [uu, if_neg (by omega), if_neg (by omega), if_neg (by omega), if_pos rfl, twb1]
            · rw [g5 53 (by omega), sU_ne (by decide), g5b 53 (by omega), sU_s]
            · rw [uu, if_neg (by omega), if_neg (by omega), if_pos rfl]
            · rw [g5 54 (by omega), sU_s]
            · rw [uu, if_neg (by omega), if_pos rfl]
            · rw [sU_ne (by decide), sU_s]
            · rw [uu, if_pos rfl]
            · refine Eq.trans ?_ (c4 [] (by decide))
              refine tyN_c _ _ _ (fun q h1 h2 => ?_)
              unfold kS
              rw [q56 q (by omega)]
            · rw [← hty3 z]
              refine tyN_c _ _ _ (fun q h1 h2 => ?_)
              unfold kS
              rw [q56c]
      · have d1' : F5_take T3 45 59 = some T4 := d1
        have d2' : F12_need (sU U3 4 (4 * nl + 2) (nI st3)) 159 = some (0, U4) := d2
        obtain ⟨T5, k1, k2, k3⟩ := B_endLine d5
        rw [d1', bB_s, k1, bB_s, d2', bB2_s]
        exact ⟨T5, (0, U4), rfl, rfl, frC_t hC (frC_t d3 k3), frW_t hW (frU_W d4), Or.inr ⟨rfl, k2⟩⟩
    by_cases q256 : K j2 = 256
    · obtain ⟨T3, U3, d1, d2, d3, d4, d5, d6, d7⟩ := P_next hr hK hP2 (by omega)
      have y : F5_taken (sU T2 54 nl (nI st2)) 45 256 = some (1, T3) := P_yes hP2 q256 d1
      have h24 : U3 0 24 = nI 0 := by
        rw [d4.2.2.2.1, sU_ne (by decide), c3.2.2.2.1, sU_ne (by decide), a4.2.2.2.1, sU_ne (by decide), sU_s]; rfl
      obtain ⟨T4, ⟨p4, U4⟩, f1, f2, f3, f4, f5⟩ := P_any0 hr hK d3 (by omega) h24
      simp only at f3 f4 f5
      rw [y, bB2_s, if_neg n10, f1, bB_s, if_pos (e3.mpr q256), d2, bB_s, f2, bB2_s]
      rcases f5 with ⟨rfl, j4, st4, g1, g2, g3, g4⟩ | ⟨rfl, g1⟩
      · rw [if_neg n10]
        have g31 := g3.1
        have g32 := g3.2.1
        have hps := TY_pos g4 (by decide)
        exact hend j4 st4 T4 U4 g1 (by omega) (by omega) (by omega) (frL_t d4.2.2.1 g3.2.2.1) (fun q hq => by rw [g3.2.2.2.2 q hq, d6, sU_ne (by decide)]) (frU_t d5 f4) (fun _ => g4 [] (by decide)) (Or.inr hps)
      · obtain ⟨T5, k1, k2, k3⟩ := B_take (x := 59) hK g1 (by decide) (by decide)
        obtain ⟨T6, l1, l2, l3⟩ := B_endLine k2
        have k1' : F5_take T4 45 59 = some T5 := k1
        rw [if_pos rfl, k1', bB_s, l1, bB_s]
        exact ⟨T6, (0, U4), rfl, rfl, frC_t hfC0 (frC_t b3 (frC_t (frC_5 (by omega)) (frC_t (frL_C d4.2.2.1) (frC_t f3 (frC_t k3 l3))))), frW_t hfW0 (frW_t (frU_W b4) (frW_t (frW_4 _ _ _) (frU_W (frU_t d5 f4)))), Or.inr ⟨rfl, l2⟩⟩
    · have no : F5_taken (sU T2 54 nl (nI st2)) 45 256 = some (0, sU T2 54 nl (nI st2)) := P_no hr hK hP2 q256 (by decide)
      rw [no, bB2_s, if_pos rfl, if_neg (fun z => q256 (e3.mp z))]
      exact hend j2 st2 _ _ hP2 (Nat.le_refl _) (Nat.le_refl _) (Nat.le_refl _) (frL_r _) (fun q hq => by rw [sU_ne (by decide)]) (frU_r _) (fun z => absurd z (Nat.lt_irrefl _)) (Or.inl rfl)
  · obtain ⟨T3, d1, d2, d3⟩ := B_when c1
    obtain ⟨T4, k1, k2, k3⟩ := B_take (x := 59) hK d2 (by decide) (by decide)
    obtain ⟨T5, l1, l2, l3⟩ := B_endLine k2
    have k1' : F5_take T3 45 59 = some T4 := k1
    rw [if_pos rfl, d1, bB_s, B_taken d2, bB2_s, if_pos rfl, k1', bB_s, l1, bB_s]
    exact ⟨T5, (0, U2), rfl, rfl, frC_t hfC0 (frC_t b3 (frC_t d3 (frC_t k3 l3))), frW_t hfW0 (frU_W b4), Or.inr ⟨rfl, l2⟩⟩
end

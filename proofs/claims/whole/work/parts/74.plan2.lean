section
/-! an order, side by side -/
theorem Q_told {b : Nat → Nat} {n m fa j o w N x y : Nat} {hi : Int32} {K V P A : Nat → Nat} {T U : pS} {f : pS → Option pS} {g : pS → Option (Int32 × pS)} (hK : Toks b n 2 m K V P A) (h : PQ b n m K V P A fa j T U) (ho : o < 12) (hw : w < 5) (eT : T 45 5 = nI o) (eU : U 0 15 = nI o) (hN : N ≤ 10000) (hhi : ∀ v, v ≤ 9999 → (nI v ≤ hi ↔ v < N)) (hx : x ≠ 2) (hx4 : x < 400) (hy : y < 400) (hxy : tmN 2 (K j) = y ↔ K j = x)
    (hB : ∀ (T : pS) (f' p : Int32), BD n m K V P fa T f' p → ∃ T', f T = some T' ∧ BD n m K V P fa T' f' p ∧ frC T T') :
    (∃ v T' U', v < N ∧ (bB (F5_take T 45 (nI x)) fun S => bB2 (F5_number S 45 0 hi) fun r S => bB (F5_part S 45 (nI w) r) fun S => f S) = f T' ∧ (bB2 (F12_told U (nI w) (nI y) hi) fun r S => if r = 0 then some ((0 : Int32), S) else g S) = g U' ∧ PQ b n m K V P A fa (j + 2) T' U' ∧ fG T T' ∧ fV U U' ∧ T' 58 = upd (T 58) (5 * o + w) (nI v) ∧ U' 6 = upd (U 6) (5 * o + w) (nI v)) ∨
    ∃ T' U', (bB (F5_take T 45 (nI x)) fun S => bB2 (F5_number S 45 0 hi) fun r S => bB (F5_part S 45 (nI w) r) fun S => f S) = some T' ∧ (bB2 (F12_told U (nI w) (nI y) hi) fun r S => if r = 0 then some ((0 : Int32), S) else g S) = some (0, U') ∧ frC T T' ∧ fV U U' ∧ BD n m K V P fa T' (U' 0 21) (U' 0 22) := by
  rw [told_d]
  rcases Q_need hK h hx hx4 hy hxy with ⟨T1, U1, a1, a2, a3, a4, a5⟩ | ⟨T1, U1, a1, a2, a3, a4, a5⟩
  · rw [a1, bB_s, a2, bB2_s, if_neg n10]
    have eT1 : T1 45 5 = nI o := by rw [a4 45 (by decide)]; exact eT
    have eU1 : U1 0 15 = nI o := (a5.2 15 (by omega)).trans eU
    rcases Q_np (w := w) hK a3 ho hw eT1 eU1 hN hhi with ⟨v, T2, U2, b1, b2, b3, b4, b5, b6, b7, b8, b9⟩ | ⟨T2, U2, b2, b3, b4, b5, b6⟩
    · rw [b2, bB2_s, b3, bB_s, b4, bB2_s, if_neg n10]
      refine Or.inl ⟨v, _, _, b1, rfl, rfl, b5, fun k h1 h2 => by rw [sU_ne h2, b6 k h1 h2, a4 k h1], fV_t (fN_V a5) (fV_t b8 (fV_6 _ _ _)), ?_, ?_⟩
      · rw [sU_at, b7, a4 58 (by decide)]
      · rw [sU_at, b9, a5.1 6 (by decide)]
    · obtain ⟨T3, c1, c2, c3⟩ := B_part (a := nI w) (v := 0) b6
      obtain ⟨T4, d1, d2, d3⟩ := hB T3 _ _ c2
      rw [b2, bB2_s, c1, bB_s, d1, b3, bB2_s, if_pos rfl]
      exact Or.inr ⟨T4, U2, rfl, rfl, frC_t (fG_C (n46_G a4)) (frC_t b4 (frC_t c3 d3)), fV_t (fN_V a5) b5, d2⟩
  · obtain ⟨v, T2, b1, b2, b3⟩ := B_number (a := 0) (c := hi) hK a5
    obtain ⟨T3, c1, c2, c3⟩ := B_part (a := nI w) (v := v) b2
    obtain ⟨T4, d1, d2, d3⟩ := hB T3 _ _ c2
    rw [a1, bB_s, b1, bB2_s, c1, bB_s, d1, a2, bB2_s, if_pos rfl, bB2_s, if_pos rfl]
    exact Or.inr ⟨T4, U1, rfl, rfl, frC_t a3 (frC_t b3 (frC_t c3 d3)), a4, d2⟩
theorem Q_opt {b : Nat → Nat} {n m fa j o w N x y : Nat} {hi d : Int32} {K V P A : Nat → Nat} {T U : pS} {f : pS → Option pS} {g : pS → Option (Int32 × pS)} (hK : Toks b n 2 m K V P A) (h : PQ b n m K V P A fa j T U) (ho : o < 12) (hw : w < 5) (eT : T 45 5 = nI o) (eU : U 0 15 = nI o) (hN : N ≤ 10000) (hhi : ∀ v, v ≤ 9999 → (nI v ≤ hi ↔ v < N)) (hx : x ≠ 2) (hx4 : x < 400) (hy : y < 400) (hxy : tmN 2 (K j) = y ↔ K j = x) (hd : U 6 (5 * o + w) = d)
    (hB : ∀ (T : pS) (f' p : Int32), BD n m K V P fa T f' p → ∃ T', f T = some T' ∧ BD n m K V P fa T' f' p ∧ frC T T') :
    (∃ u j' T' U', (u = d ∨ ∃ v, v < N ∧ u = nI v) ∧ j ≤ j' ∧ (bB2 (F5_taken T 45 (nI x)) fun r S => if r = 0 then (bB (F5_part S 45 (nI w) d) fun S' => f S') else bB2 (F5_number S 45 0 hi) fun r S => bB (F5_part S 45 (nI w) r) fun S' => f S') = f T' ∧ (if (U 0 18) = nI y then bB2 (F12_told U (nI w) (nI y) hi) fun r S => if r = 0 then some ((0 : Int32), S) else g S else g U) = g U' ∧ PQ b n m K V P A fa j' T' U' ∧ fG T T' ∧ fV U U' ∧ T' 58 = upd (T 58) (5 * o + w) u ∧ U' 6 = upd (U 6) (5 * o + w) u) ∨
    ∃ T' U', (bB2 (F5_taken T 45 (nI x)) fun r S => if r = 0 then (bB (F5_part S 45 (nI w) d) fun S' => f S') else bB2 (F5_number S 45 0 hi) fun r S => bB (F5_part S 45 (nI w) r) fun S' => f S') = some T' ∧ (if (U 0 18) = nI y then bB2 (F12_told U (nI w) (nI y) hi) fun r S => if r = 0 then some ((0 : Int32), S) else g S else g U) = some (0, U') ∧ frC T T' ∧ fV U U' ∧ BD n m K V P fa T' (U' 0 21) (U' 0 22) := by
  have tkk := (tkG hK h.2.2.1.2.2.1).2.2.2.2
  have t3 := (tmP_f tkk).2.2.1
  have hU : U 0 18 = nI (tmN 2 (K j)) := h.2.2.2.2.2.2.1
  by_cases q : K j = x
  · obtain ⟨T1, U1, a1, a2, a3, a4, a5, a6⟩ := Q_next hK h (by omega)
    have eT1 : T1 45 5 = nI o := by rw [a4 45 (by decide)]; exact eT
    have eU1 : U1 0 15 = nI o := (a5.2 15 (by omega)).trans eU
    have hnd : F12_need U (nI y) = some (1, U1) := by
      unfold F12_need
      rw [hU, if_pos (by rw [hxy.mpr q]), a2, bB_s]
    rw [Q_yes h q a1, bB2_s, if_neg n10, hU, if_pos (by rw [hxy.mpr q]), told_d, hnd, bB2_s, if_neg n10]
    rcases Q_np (w := w) hK a3 ho hw eT1 eU1 hN hhi with ⟨v, T2, U2, b1, b2, b3, b4, b5, b6, b7, b8, b9⟩ | ⟨T2, U2, b2, b3, b4, b5, b6⟩
    · rw [b2, bB2_s, b3, bB_s, b4, bB2_s, if_neg n10]
      refine Or.inl ⟨nI v, j + 1 + 1, _, _, Or.inr ⟨v, b1, rfl⟩, by omega, rfl, rfl, b5, fun k h1 h2 => by rw [sU_ne h2, b6 k h1 h2, a4 k h1], fV_t (fN_V a5) (fV_t b8 (fV_6 _ _ _)), ?_, ?_⟩
      · rw [sU_at, b7, a4 58 (by decide)]
      · rw [sU_at, b9, a5.1 6 (by decide)]
    · obtain ⟨T3, c1, c2, c3⟩ := B_part (a := nI w) (v := 0) b6
      obtain ⟨T4, d1, d2, d3⟩ := hB T3 _ _ c2
      rw [b2, bB2_s, c1, bB_s, d1, b3, bB2_s, if_pos rfl]
      exact Or.inr ⟨T4, U2, rfl, rfl, frC_t (fG_C (n46_G a4)) (frC_t b4 (frC_t c3 d3)), fV_t (fN_V a5) b5, d2⟩
  · rw [Q_no hK h q hx4, bB2_s, if_pos rfl, hU, if_neg (fun z => q (hxy.mp (nI_inj z (by omega) (by omega)))), Q_part eT ho hw, bB_s]
    refine Or.inl ⟨d, j, _, U, Or.inl rfl, Nat.le_refl _, rfl, rfl, ?_, fun k h1 h2 => sU_ne h2, fV_r U, sU_at _ _ _ _, ?_⟩
    · have := PQ_58 (i := 5 * o + w) (i' := 5 * o + w) (v := d) (v' := U 6 (5 * o + w)) h
      have e : sU U 6 (5 * o + w) (U 6 (5 * o + w)) = U := by
        funext k i
        rw [sU_get]
        by_cases z : k = 6 ∧ i = 5 * o + w
        · rw [if_pos z, z.1, z.2]
        · rw [if_neg z]
      rw [e] at this
      exact this
    · funext i
      by_cases z : i = 5 * o + w
      · rw [z, upd_s, hd]
      · rw [upd_n z]
theorem hhi_c {N : Nat} {hi : Int32} (h : hi = nI N) (hN : N ≤ 9999) : ∀ v, v ≤ 9999 → (nI v ≤ hi ↔ v < N + 1) := fun v hv => by
  rw [h, nI_leI (by omega) (by omega)]; omega
theorem hhi_m {N : Nat} (hN : N ≤ 6) : ∀ v, v ≤ 9999 → (nI v ≤ nI N - 1 ↔ v < N) := fun v hv => by
  cases N with
  | zero =>
    constructor
    · intro z
      have e : nI 0 - 1 = -1 := by decide
      rw [e] at z
      exact absurd (Int32.le_trans (nI_pos' (n := v) (by omega)) z) (by decide)
    · intro z; omega
  | succ s => rw [nI_pred, nI_leI (by omega) (by omega)]; omega
def oOK (ns i : Nat) (T U : pS) : Prop := T 58 (5 * i) = U 6 (5 * i) ∧ (U 6 (5 * i) = -1 ∨ (isN (U 6 (5 * i)) 100 ∧ isN (U 6 (5 * i + 1)) 61 ∧ isN (U 6 (5 * i + 2)) ns ∧ isN (U 6 (5 * i + 3)) 10 ∧ T 58 (5 * i + 1) = U 6 (5 * i + 1) ∧ T 58 (5 * i + 2) = U 6 (5 * i + 2) ∧ T 58 (5 * i + 3) = U 6 (5 * i + 3) ∧ T 58 (5 * i + 4) = U 6 (5 * i + 4)))
theorem Q_throw {b : Nat → Nat} {n m fa j o ns : Nat} {K V P A : Nat → Nat} {T U : pS} (hK : Toks b n 2 m K V P A) (h : PQ b n m K V P A fa j T U) (hk : K j = 256) (ho : o < 12) (eT : T 45 5 = nI o) (eU : U 0 15 = nI o) (hns : ns ≤ 6) (e67 : U 1 67 = nI ns) (i3 : U 6 (5 * o + 3) = 0) (i4 : U 6 (5 * o + 4) = -1) :
    ∃ T1 T' p, F6_next T 46 = some T1 ∧ F5_throwOrder T1 45 (nI ns) = some T' ∧ F12_aThrow U = some p ∧ frC T T' ∧ fV U p.2 ∧ ((p.1 = 1 ∧ ∃ j', PQ b n m K V P A fa j' T' p.2 ∧ j < j' ∧ fG T T' ∧ oOK ns o T' p.2 ∧ (∀ x, x < 5 * o → T' 58 x = T 58 x ∧ p.2 6 x = U 6 x)) ∨ (p.1 = 0 ∧ BD n m K V P fa T' (p.2 0 21) (p.2 0 22))) := by
  have tk : ∀ j T U, PQ b n m K V P A fa j T U → K j < 273 := fun j T U h => (tkG hK h.2.2.1.2.2.1).2.2.2.2
  obtain ⟨-, -, -, t7, -⟩ := tmP_f (tk j T U h)
  obtain ⟨T1, U1, a1, a2, a3, a4, a5, a6⟩ := Q_next hK h (by omega)
  have eT1 : T1 45 5 = nI o := by rw [a4 45 (by decide)]; exact eT
  have eU1 : U1 0 15 = nI o := (a5.2 15 (by omega)).trans eU
  have hU : U 0 18 = nI (tmN 2 (K j)) := h.2.2.2.2.2.2.1
  have hnd : F12_need U 7 = some (1, U1) := by
    unfold F12_need
    rw [hU, if_pos (show nI (tmN 2 (K j)) = 7 by rw [t7.mpr hk]; rfl), a2, bB_s]
  suffices hs : ∃ T' p, F5_throwOrder T1 45 (nI ns) = some T' ∧ F12_aThrow U = some p ∧ frC T T' ∧ fV U p.2 ∧ ((p.1 = 1 ∧ ∃ j', PQ b n m K V P A fa j' T' p.2 ∧ j < j' ∧ fG T T' ∧ oOK ns o T' p.2 ∧ (∀ x, x < 5 * o → T' 58 x = T 58 x ∧ p.2 6 x = U 6 x)) ∨ (p.1 = 0 ∧ BD n m K V P fa T' (p.2 0 21) (p.2 0 22))) by
    obtain ⟨T', p, q1, q2, q3⟩ := hs
    exact ⟨T1, T', p, a1, q1, q2, q3⟩
  rw [throw_d, aThrow_d, told_d, hnd, bB2_s, if_neg n10]
  rcases Q_np (w := 0) (hi := 99) hK a3 ho (by decide) eT1 eU1 (by decide) (hhi_c (N := 99) rfl (by decide)) with ⟨v0, T2, U2, b1, b2, b3, b4, b5, b6, b7, b8, b9⟩ | ⟨T2, U2, b2, b3, b4, b5, b6⟩
  · have b3' : F5_part T2 45 0 (nI v0) = some (sU T2 58 (5 * o + 0) (nI v0)) := b3
    have b4' : tNu U1 0 99 = some (1, sU U2 6 (5 * o + 0) (nI v0)) := b4
    rw [b2, bB2_s, b3', bB_s, b4', bB2_s, if_neg n10]
    have g1 : fG T (sU T2 58 (5 * o + 0) (nI v0)) := fun k h1 h2 => by rw [sU_ne h2, b6 k h1 h2, a4 k h1]
    have g2 : fV U (sU U2 6 (5 * o + 0) (nI v0)) := fV_t (fN_V a5) (fV_t b8 (fV_6 _ _ _))
    have g3 : sU T2 58 (5 * o + 0) (nI v0) 58 = upd (T 58) (5 * o) (nI v0) := by rw [sU_at, b7, a4 58 (by decide)]; rfl
    have g4 : sU U2 6 (5 * o + 0) (nI v0) 6 = upd (U 6) (5 * o) (nI v0) := by rw [sU_at, b9, a5.1 6 (by decide)]; rfl
    generalize sU T2 58 (5 * o + 0) (nI v0) = T3 at b5 g1 g3 ⊢
    generalize sU U2 6 (5 * o + 0) (nI v0) = U3 at b5 g2 g4 ⊢
    obtain ⟨-, -, -, -, t9, -⟩ := tmP_f (tk _ _ _ b5)
    have y1 := Q_told (x := 257) (y := 9) (w := 1) (hi := 60) (f := fun S => tO3 S (nI ns)) (g := rT3) hK b5 ho (by decide) ((g1 45 (by decide) (by decide) ▸ rfl : T3 45 5 = T 45 5).trans eT) ((g2.2 15 (by omega)).trans eU) (by decide) (hhi_c (N := 60) rfl (by decide)) (by decide) (by decide) (by decide) t9 (fun T f p hb => Bt3 hK hb)
    rcases y1 with ⟨v1, T4, U4, c1, c2, c3, c4, c5, c6, c7, c8⟩ | ⟨T4, U4, c2, c3, c4, c5, c6⟩
    · have c2' : tO2 T3 (nI ns) = tO3 T4 (nI ns) := c2
      have c3' : rT2 U3 = rT3 U4 := c3
      rw [c2', c3']
      have g1 := fG_t g1 c5
      have g2 := fV_t g2 c6
      obtain ⟨-, -, -, -, -, t10, -⟩ := tmP_f (tk _ _ _ c4)
      have e67' : U4 1 67 = nI ns := by rw [g2.1 1 (by decide) (by decide)]; exact e67
      have y2 := Q_told (x := 258) (y := 10) (w := 2) (hi := nI ns - 1) (f := tO4) (g := rT4) hK c4 ho (by decide) ((g1 45 (by decide) (by decide) ▸ rfl : T4 45 5 = T 45 5).trans eT) ((g2.2 15 (by omega)).trans eU) (show ns ≤ 10000 by omega) (hhi_m hns) (by decide) (by decide) (by decide) t10 (fun T f p hb => Bt4 hK hb)
      have er3 : rT3 U4 = bB2 (F12_told U4 2 10 (nI ns - 1)) fun r S => if r = 0 then some ((0 : Int32), S) else rT4 S := by unfold rT3; rw [e67']
      rcases y2 with ⟨v2, T5, U5, d1, d2, d3, d4, d5, d6, d7, d8⟩ | ⟨T5, U5, d2, d3, d4, d5, d6⟩
      · have d2' : tO3 T4 (nI ns) = tO4 T5 := d2
        have d3' : rT3 U4 = rT4 U5 := er3.trans d3
        rw [d2', d3']
        have g1 := fG_t g1 d5
        have g2 := fV_t g2 d6
        obtain ⟨-, -, -, -, -, -, t11, -⟩ := tmP_f (tk _ _ _ d4)
        have u5 : ∀ x, 5 * o + 2 < x → U5 6 x = U 6 x := fun x hx => by rw [d8, upd_n (by omega), c8, upd_n (by omega), g4, upd_n (by omega)]
        have y3 := Q_opt (x := 259) (y := 11) (w := 3) (hi := 9) (d := 0) (f := tO5) (g := rT5) hK d4 ho (by decide) ((g1 45 (by decide) (by decide) ▸ rfl : T5 45 5 = T 45 5).trans eT) ((g2.2 15 (by omega)).trans eU) (by decide) (hhi_c (N := 9) rfl (by decide)) (by decide) (by decide) (by decide) t11 ((u5 _ (by omega)).trans i3) (fun T f p hb => Bt5 hK hb)
        rcases y3 with ⟨v3, j3, T6, U6, e0, e1, e2, e3, e4, e5, e6, e7, e8⟩ | ⟨T6, U6, e2, e3, e4, e5, e6⟩
        · have e2' : tO4 T5 = tO5 T6 := e2
          have e3' : rT4 U5 = rT5 U6 := e3
          rw [e2', e3']
          have g1 := fG_t g1 e5
          have g2 := fV_t g2 e6
          obtain ⟨-, -, -, -, -, -, -, t12, -⟩ := tmP_f (tk _ _ _ e4)
          have y4 := Q_opt (x := 260) (y := 12) (w := 4) (hi := 9999) (d := -1) (f := fun S => some S) (g := fun S => some ((1 : Int32), S)) hK e4 ho (by decide) ((g1 45 (by decide) (by decide) ▸ rfl : T6 45 5 = T 45 5).trans eT) ((g2.2 15 (by omega)).trans eU) (by decide) (hhi_c (N := 9999) rfl (by decide)) (by decide) (by decide) (by decide) t12 (by rw [e8, upd_n (by omega)]; exact (u5 _ (by omega)).trans i4) (fun T f p hb => ⟨T, rfl, hb, frC_r T⟩)
          rcases y4 with ⟨v4, j4, T7, U7, f0, f1, f2, f3, f4, f5, f6, f7, f8⟩ | ⟨T7, U7, f2, f3, f4, f5, f6⟩
          · have f2' : tO5 T6 = some T7 := f2
            have f3' : rT5 U6 = some (1, U7) := f3
            have g1 := fG_t g1 f5
            have g2 := fV_t g2 f6
            have hT : ∀ x, T7 58 x = if x = 5 * o + 4 then v4 else if x = 5 * o + 3 then v3 else if x = 5 * o + 2 then nI v2 else if x = 5 * o + 1 then nI v1 else if x = 5 * o then nI v0 else T 58 x := fun x => by
              rw [f7, e7, d7, c7, g3]; rfl
            have hU' : ∀ x, U7 6 x = if x = 5 * o + 4 then v4 else if x = 5 * o + 3 then v3 else if x = 5 * o + 2 then nI v2 else if x = 5 * o + 1 then nI v1 else if x = 5 * o then nI v0 else U 6 x := fun x => by
              rw [f8, e8, d8, c8, g4]; rfl
            have hTU : ∀ x, 5 * o ≤ x → x < 5 * o + 5 → T7 58 x = U7 6 x := fun x h1 h2 => by
              rw [hT, hU']
              by_cases z4 : x = 5 * o + 4
              · rw [if_pos z4, if_pos z4]
              rw [if_neg z4, if_neg z4]
              by_cases z3 : x = 5 * o + 3
              · rw [if_pos z3, if_pos z3]
              rw [if_neg z3, if_neg z3]
              by_cases z2 : x = 5 * o + 2
              · rw [if_pos z2, if_pos z2]
              rw [if_neg z2, if_neg z2]
              by_cases z1 : x = 5 * o + 1
              · rw [if_pos z1, if_pos z1]
              rw [if_neg z1, if_neg z1, if_pos (by omega), if_pos (by omega)]
            refine ⟨T7, (1, U7), f2', f3', fG_C g1, g2, Or.inl ⟨rfl, j4, f4, by omega, g1, ⟨?_, Or.inr ⟨?_, ?_, ?_, ?_, ?_, ?_, ?_, ?_⟩⟩, fun x hx => ⟨?_, ?_⟩⟩⟩
            · exact hTU (5 * o) (by omega) (by omega)
            · show isN (U7 6 (5 * o)) 100
              rw [hU', if_neg (by omega), if_neg (by omega), if_neg (by omega), if_neg (by omega), if_pos rfl]
              exact ⟨v0, b1, rfl⟩
            · show isN (U7 6 (5 * o + 1)) 61
              rw [hU', if_neg (by omega), if_neg (by omega), if_neg (by omega), if_pos rfl]
              exact ⟨v1, c1, rfl⟩
            · show isN (U7 6 (5 * o + 2)) ns
              rw [hU', if_neg (by omega), if_neg (by omega), if_pos rfl]
              exact ⟨v2, d1, rfl⟩
            · show isN (U7 6 (5 * o + 3)) 10
              rw [hU', if_neg (by omega), if_pos rfl]
              rcases e0 with rfl | ⟨v, hv, rfl⟩
              · exact ⟨0, by decide, rfl⟩
              · exact ⟨v, hv, rfl⟩
            · exact hTU (5 * o + 1) (by omega) (by omega)
            · exact hTU (5 * o + 2) (by omega) (by omega)
            · exact hTU (5 * o + 3) (by omega) (by omega)
            · exact hTU (5 * o + 4) (by omega) (by omega)
            · rw [hT, if_neg (by omega), if_neg (by omega), if_neg (by omega), if_neg (by omega), if_neg (by omega)]
            · show U7 6 x = U 6 x
              rw [hU', if_neg (by omega), if_neg (by omega), if_neg (by omega), if_neg (by omega), if_neg (by omega)]
          · have f2' : tO5 T6 = some T7 := f2
            have f3' : rT5 U6 = some (0, U7) := f3
            exact ⟨T7, (0, U7), f2', f3', frC_t (fG_C g1) f4, fV_t g2 f5, Or.inr ⟨rfl, f6⟩⟩
        · have e2' : tO4 T5 = some T6 := e2
          have e3' : rT4 U5 = some (0, U6) := e3
          exact ⟨T6, (0, U6), e2', e3', frC_t (fG_C g1) e4, fV_t g2 e5, Or.inr ⟨rfl, e6⟩⟩
      · have d2' : tO3 T4 (nI ns) = some T5 := d2
        have d3' : rT3 U4 = some (0, U5) := er3.trans d3
        exact ⟨T5, (0, U5), d2', d3', frC_t (fG_C g1) d4, fV_t g2 d5, Or.inr ⟨rfl, d6⟩⟩
    · have c2' : tO2 T3 (nI ns) = some T4 := c2
      have c3' : rT2 U3 = some (0, U4) := c3
      exact ⟨T4, (0, U4), c2', c3', frC_t (fG_C g1) c4, fV_t g2 c5, Or.inr ⟨rfl, c6⟩⟩
  · obtain ⟨T3, c1, c2, c3⟩ := B_part (a := 0) (v := 0) b6
    obtain ⟨T4, d1, d2, d3⟩ := Bt2 (sp := nI ns) hK c2
    have b3' : tNu U1 0 99 = some (0, U2) := b3
    rw [b2, bB2_s, c1, bB_s, d1, b3', bB2_s, if_pos rfl]
    exact ⟨T4, (0, U2), rfl, rfl, frC_t (fG_C (n46_G a4)) (frC_t b4 (frC_t c3 d3)), fV_t (fN_V a5) b5, Or.inr ⟨rfl, d2⟩⟩
end

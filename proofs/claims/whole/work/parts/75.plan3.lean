section
/-! a whole plan, side by side -/
def frX (U U' : pS) : Prop := (∀ k', k' ≠ 0 → k' ≠ 6 → U' k' = U k') ∧ ∀ j, (j < 15 ∨ j = 16 ∨ (22 < j ∧ j ≠ 26)) → U' 0 j = U 0 j
theorem frX_r (U : pS) : frX U U := ⟨fun _ _ _ => rfl, fun _ _ => rfl⟩
theorem frX_t {U U' U'' : pS} (h : frX U U') (h' : frX U' U'') : frX U U'' := ⟨fun k a b => (h'.1 k a b).trans (h.1 k a b), fun j hj => (h'.2 j hj).trans (h.2 j hj)⟩
theorem fV_X {U U' : pS} (h : fV U U') : frX U U' := ⟨h.1, fun j hj => h.2 j (by omega)⟩
theorem frX_15 (U : pS) (v : Int32) : frX U (sU U 0 15 v) := ⟨fun k a b => sU_ne a, fun j hj => by rw [sU_n (by omega)]⟩
theorem PQ_45 {b : Nat → Nat} {n m fa j : Nat} {K V P A : Nat → Nat} {T U : pS} {v v' : Int32} (h : PQ b n m K V P A fa j T U) : PQ b n m K V P A fa j (sU T 45 5 v) (sU U 0 15 v') := by
  obtain ⟨h1, h2, h3, h4, h5, h6, h7, h8, h9, h10, h11⟩ := h
  have e : ∀ x, x ≠ 15 → sU U 0 15 v' 0 x = U 0 x := fun x hx => by rw [sU_n (by omega)]
  refine ⟨by rw [sU_n (by omega)]; exact h1, by rw [sU_n (by omega)]; exact h2, ?_, ⟨(e 16 (by decide)).trans h4.1, h4.2.1, fun j hj => by rw [sU_ne (by decide)]; exact h4.2.2 j hj⟩, (e 12 (by decide)).trans h5, (e 17 (by decide)).trans h6, (e 18 (by decide)).trans h7, (e 19 (by decide)).trans h8, fun z => (e 20 (by decide)).trans (h9 z), by rw [sU_ne (by decide)]; exact h10, by rw [sU_ne (by decide)]; exact h11⟩
  unfold CT at h3 ⊢
  rw [sU_ne (k' := 46) (by decide), sU_ne (k' := 48) (by decide), sU_ne (k' := 49) (by decide), sU_ne (k' := 50) (by decide)]
  exact h3
theorem BD_45 {n m : Nat} {K V P : Nat → Nat} {fa : Nat} {T : pS} {f p v : Int32} (h : BD n m K V P fa T f p) : BD n m K V P fa (sU T 45 5 v) f p := by
  obtain ⟨h1, h2, h3, h4, ⟨j, h5⟩, h6, h7⟩ := h
  refine ⟨by rw [sU_n (by omega)]; exact h1, by rw [sU_n (by omega)]; exact h2, h3, by rw [sU_n (by omega)]; exact h4, ⟨j, ?_⟩, by rw [sU_ne (by decide)]; exact h6, by rw [sU_ne (by decide)]; exact h7⟩
  unfold CT at h5 ⊢
  rw [sU_ne (k' := 46) (by decide), sU_ne (k' := 48) (by decide), sU_ne (k' := 49) (by decide), sU_ne (k' := 50) (by decide)]
  exact h5
theorem oOK_f {ns i : Nat} {T U T' U' : pS} (h : oOK ns i T U) (hT : ∀ x, 5 * i ≤ x → x < 5 * i + 5 → T' 58 x = T 58 x) (hU : ∀ x, 5 * i ≤ x → x < 5 * i + 5 → U' 6 x = U 6 x) : oOK ns i T' U' := by
  unfold oOK at h ⊢
  rw [hT _ (by omega) (by omega), hT _ (by omega) (by omega), hT _ (by omega) (by omega), hT _ (by omega) (by omega), hT _ (by omega) (by omega), hU _ (by omega) (by omega), hU _ (by omega) (by omega), hU _ (by omega) (by omega), hU _ (by omega) (by omega), hU _ (by omega) (by omega)]
  exact h
/-- one order, from its keyword on -/
theorem Q_order {b : Nat → Nat} {n m fa j o ns : Nat} {K V P A : Nat → Nat} {T U : pS} (hK : Toks b n 2 m K V P A) (h : PQ b n m K V P A fa j T U) (hk : K j = 256 ∨ K j = 261) (ho : o < 12) (eT : T 45 5 = nI o) (eU : U 0 15 = nI o) (hns : ns ≤ 6) (e67 : U 1 67 = nI ns) (hO : ∀ i, i < o → oOK ns i T U) :
    ∃ T' p, (bB2 (F5_taken T 45 256) fun r_9 S_10 => if r_9 = 0 then bB (F5_take S_10 45 261) fun S_14 => bB (F5_part S_14 45 0 (-1)) fun S_15 => bB (F5_take S_15 45 59) fun S_12 => some (sU S_12 45 5 ((S_12 45 5) + 1)) else bB (F5_throwOrder S_10 45 (nI ns)) fun S_16 => bB (F5_take S_16 45 59) fun S_12 => some (sU S_12 45 5 ((S_12 45 5) + 1))) = some T' ∧ F12_anOrder U = some p ∧ frC T T' ∧ frX U p.2 ∧ ((p.1 = 1 ∧ ∃ j', PQ b n m K V P A fa j' T' p.2 ∧ j < j' ∧ T' 45 5 = nI (o + 1) ∧ p.2 0 15 = nI (o + 1) ∧ T' 45 2 = T 45 2 ∧ ∀ i, i < o + 1 → oOK ns i T' p.2) ∨ (p.1 = 0 ∧ BD n m K V P fa T' (p.2 0 21) (p.2 0 22))) := by
  have tk : ∀ j T U, PQ b n m K V P A fa j T U → K j < 273 := fun j T U h => (tkG hK h.2.2.1.2.2.1).2.2.2.2
  obtain ⟨-, -, t400, t7, -, -, -, -, t8, -⟩ := tmP_f (tk j T U h)
  have hU : U 0 18 = nI (tmN 2 (K j)) := h.2.2.2.2.2.2.1
  have e7 : nI (tmN 2 (K j)) = 7 ↔ K j = 256 := (tmq t400 (x := 7) (by decide)).trans t7
  have e8 : nI (tmN 2 (K j)) = 8 ↔ K j = 261 := (tmq t400 (x := 8) (by decide)).trans t8
  have ho12 : ¬ nI o = 12 := fun z => by have := nI_inj (b := 12) z (by omega) (by decide); omega
  -- what the reference begins with
  have hA : F12_anOrder U = (if (sU (sU (sU U 6 (5 * o) (-1)) 6 (5 * o + 3) 0) 6 (5 * o + 4) (-1)) 0 18 = 8 then bB (F12_next0 (sU (sU (sU U 6 (5 * o) (-1)) 6 (5 * o + 3) 0) 6 (5 * o + 4) (-1))) fun S_13 => bB2 (F12_need S_13 159) fun r_6 S_7 => if r_6 = 0 then some ((0 : Int32), S_7) else some ((1 : Int32), sU S_7 0 15 ((S_7 0 15) + 1)) else bB2 (F12_aThrow (sU (sU (sU U 6 (5 * o) (-1)) 6 (5 * o + 3) 0) 6 (5 * o + 4) (-1))) fun r_10 S_11 => if r_10 = 0 then some ((0 : Int32), S_11) else bB2 (F12_need S_11 159) fun r_6 S_7 => if r_6 = 0 then some ((0 : Int32), S_7) else some ((1 : Int32), sU S_7 0 15 ((S_7 0 15) + 1))) := by
    unfold F12_anOrder
    simp only [bL_d]
    rw [hU, eU, if_neg ho12, show (5 : Int32) = nI 5 from rfl, pk_mul, bG_N (by omega) (by decide), nI_clamp (by omega), show (3 : Int32) = nI 3 from rfl, nI_add, bG_N (by omega) (by decide), nI_clamp (by omega), show (4 : Int32) = nI 4 from rfl, nI_add, bG_N (by omega) (by decide), nI_clamp (by omega)]
    by_cases q : K j = 256
    · rw [if_pos (e7.mpr q)]
    · rw [if_neg (fun z => q (e7.mp z)), if_pos (e8.mpr (hk.resolve_left q))]
  have hP3 : PQ b n m K V P A fa j T (sU (sU (sU U 6 (5 * o) (-1)) 6 (5 * o + 3) 0) 6 (5 * o + 4) (-1)) := PQ_6 (PQ_6 (PQ_6 h))
  have f3 : fV U (sU (sU (sU U 6 (5 * o) (-1)) 6 (5 * o + 3) 0) 6 (5 * o + 4) (-1)) := fV_t (fV_6 _ _ _) (fV_t (fV_6 _ _ _) (fV_6 _ _ _))
  have x0 : (sU (sU (sU U 6 (5 * o) (-1)) 6 (5 * o + 3) 0) 6 (5 * o + 4) (-1)) 6 (5 * o) = -1 := by rw [sU_n (by omega), sU_n (by omega), sU_s]
  have x3 : (sU (sU (sU U 6 (5 * o) (-1)) 6 (5 * o + 3) 0) 6 (5 * o + 4) (-1)) 6 (5 * o + 3) = 0 := by rw [sU_n (by omega), sU_s]
  have x4 : (sU (sU (sU U 6 (5 * o) (-1)) 6 (5 * o + 3) 0) 6 (5 * o + 4) (-1)) 6 (5 * o + 4) = -1 := sU_s _ _ _ _
  have xo : ∀ x, x < 5 * o → (sU (sU (sU U 6 (5 * o) (-1)) 6 (5 * o + 3) 0) 6 (5 * o + 4) (-1)) 6 x = U 6 x := fun x hx => by rw [sU_n (by omega), sU_n (by omega), sU_n (by omega)]
  rw [hA]
  generalize sU (sU (sU U 6 (5 * o) (-1)) 6 (5 * o + 3) 0) 6 (5 * o + 4) (-1) = U3 at hP3 f3 x0 x3 x4 xo ⊢
  have eU3 : U3 0 15 = nI o := (f3.2 15 (by omega)).trans eU
  have hU3 : U3 0 18 = nI (tmN 2 (K j)) := hP3.2.2.2.2.2.2.1
  -- the end of an order
  have hend : ∀ (j4 : Nat) (T4 U4 : pS), PQ b n m K V P A fa j4 T4 U4 → j < j4 → fG T T4 → fV U U4 → (∀ i, i < o + 1 → oOK ns i T4 U4) → ∃ T' p, (bB (F5_take T4 45 59) fun S_12 => some (sU S_12 45 5 ((S_12 45 5) + 1))) = some T' ∧ (bB2 (F12_need U4 159) fun r_6 S_7 => if r_6 = 0 then some ((0 : Int32), S_7) else some ((1 : Int32), sU S_7 0 15 ((S_7 0 15) + 1))) = some p ∧ frC T T' ∧ frX U p.2 ∧ ((p.1 = 1 ∧ ∃ j', PQ b n m K V P A fa j' T' p.2 ∧ j < j' ∧ T' 45 5 = nI (o + 1) ∧ p.2 0 15 = nI (o + 1) ∧ T' 45 2 = T 45 2 ∧ ∀ i, i < o + 1 → oOK ns i T' p.2) ∨ (p.1 = 0 ∧ BD n m K V P fa T' (p.2 0 21) (p.2 0 22))) := by
    intro j4 T4 U4 h4 hj4 hG hV hO4
    obtain ⟨-, -, -, -, -, -, -, -, -, t159⟩ := tmP_f (tk _ _ _ h4)
    rcases Q_need hK h4 (x := 59) (y := 159) (by decide) (by decide) (by decide) t159 with ⟨T5, U5, a1, a2, a3, a4, a5⟩ | ⟨T5, U5, a1, a2, a3, a4, a5⟩
    · have a1' : F5_take T4 45 59 = some T5 := a1
      have a2' : F12_need U4 159 = some (1, U5) := a2
      have e45 : T5 45 5 = nI o := by rw [a4 45 (by decide), hG 45 (by decide) (by decide)]; exact eT
      have e15 : U5 0 15 = nI o := (a5.2 15 (by omega)).trans ((hV.2 15 (by omega)).trans eU)
      rw [a1', bB_s, a2', bB2_s, if_neg n10, e45, e15, nI_1]
      refine ⟨_, (1, sU U5 0 15 (nI (o + 1))), rfl, rfl, frC_t (fG_C hG) (frC_t (fG_C (n46_G a4)) (frC_5 (by omega))), frX_t (fV_X hV) (frX_t (fV_X (fN_V a5)) (frX_15 _ _)), Or.inl ⟨rfl, j4 + 1, PQ_45 a3, by omega, sU_s _ _ _ _, show sU U5 0 15 (nI (o + 1)) 0 15 = nI (o + 1) from sU_s _ _ _ _, ?_, fun i hi => oOK_f (hO4 i hi) (fun x _ _ => ?_) (fun x _ _ => ?_)⟩⟩
      · rw [sU_n (by omega), a4 45 (by decide), hG 45 (by decide) (by decide)]
      · rw [sU_ne (by decide), a4 58 (by decide)]
      · show sU U5 0 15 (nI (o + 1)) 6 x = U4 6 x
        rw [sU_ne (by decide), a5.1 6 (by decide)]
    · have a1' : F5_take T4 45 59 = some T5 := a1
      have a2' : F12_need U4 159 = some (0, U5) := a2
      rw [a1', bB_s, a2', bB2_s, if_pos rfl]
      exact ⟨_, (0, U5), rfl, rfl, frC_t (fG_C hG) (frC_t a3 (frC_5 (by omega))), frX_t (fV_X hV) (fV_X a4), Or.inr ⟨rfl, BD_45 a5⟩⟩
  have hendB : ∀ (T4 U4 : pS), frC T T4 → fV U U4 → BD n m K V P fa T4 (U4 0 21) (U4 0 22) → ∃ T' p, (bB (F5_take T4 45 59) fun S_12 => some (sU S_12 45 5 ((S_12 45 5) + 1))) = some T' ∧ some ((0 : Int32), U4) = some p ∧ frC T T' ∧ frX U p.2 ∧ ((p.1 = 1 ∧ ∃ j', PQ b n m K V P A fa j' T' p.2 ∧ j < j' ∧ T' 45 5 = nI (o + 1) ∧ p.2 0 15 = nI (o + 1) ∧ T' 45 2 = T 45 2 ∧ ∀ i, i < o + 1 → oOK ns i T' p.2) ∨ (p.1 = 0 ∧ BD n m K V P fa T' (p.2 0 21) (p.2 0 22))) := by
    intro T4 U4 hC hV hb
    obtain ⟨T5, a1, a2, a3⟩ := B_take (x := 59) hK hb (by decide) (by decide)
    have a1' : F5_take T4 45 59 = some T5 := a1
    rw [a1', bB_s]
    exact ⟨_, (0, U4), rfl, rfl, frC_t hC (frC_t a3 (frC_5 (by omega))), fV_X hV, Or.inr ⟨rfl, BD_45 a2⟩⟩
  by_cases q : K j = 256
  · obtain ⟨T1, T', p, a1, a2, a3, a4, a5, a6⟩ := Q_throw hK hP3 q ho eT eU3 hns (by rw [f3.1 1 (by decide) (by decide)]; exact e67) x3 x4
    obtain ⟨p1, U4⟩ := p
    simp only at a5 a6
    have yy : F5_taken T 45 256 = some (1, T1) := Q_yes h q a1
    rw [yy, bB2_s, if_neg n10, a2, bB_s, hU3, if_neg (fun z => by have := e8.mp z; omega), a3, bB2_s]
    rcases a6 with ⟨rfl, j4, b1, b2, b3, b4, b5⟩ | ⟨rfl, b1⟩
    · rw [if_neg n10]
      refine hend j4 T' U4 b1 b2 b3 (fV_t f3 a5) (fun i hi => ?_)
      by_cases z : i = o
      · rw [z]; exact b4
      · exact oOK_f (hO i (by omega)) (fun x _ _ => (b5 x (by omega)).1) (fun x _ _ => (b5 x (by omega)).2.trans (xo x (by omega)))
    · rw [if_pos rfl]
      exact hendB T' U4 a4 (fV_t f3 a5) b1
  · have q2 := hk.resolve_left q
    obtain ⟨T1, U4, a1, a2, a3, a4, a5, a6⟩ := Q_next hK hP3 (by omega)
    have no : F5_taken T 45 256 = some (0, T) := Q_no hK h q (by decide)
    have tk1 : F5_take T 45 261 = some T1 := by
      unfold F5_take
      rw [show 45 + 1 = 46 from rfl, show T 46 1 = nI (K j) from h.2.2.1.2.2.2.2.1, if_pos (show nI (K j) = 261 by rw [q2]; rfl), a1, bB_s]
    have eT1 : T1 45 5 = nI o := by rw [a4 45 (by decide)]; exact eT
    have hp : F5_part T1 45 0 (-1) = some (sU T1 58 (5 * o + 0) (-1)) := Q_part (w := 0) eT1 ho (by decide)
    rw [no, bB2_s, if_pos rfl, tk1, bB_s, hp, bB_s, hU3, if_pos (e8.mpr q2), a2, bB_s]
    have hP5 : PQ b n m K V P A fa (j + 1) (sU T1 58 (5 * o + 0) (-1)) U4 := by
      have := PQ_58 (i := 5 * o + 0) (i' := 5 * o) (v := -1) (v' := U4 6 (5 * o)) a3
      have e : sU U4 6 (5 * o) (U4 6 (5 * o)) = U4 := by
        funext k i
        rw [sU_get]
        by_cases z : k = 6 ∧ i = 5 * o
        · rw [if_pos z, z.1, z.2]
        · rw [if_neg z]
      rw [e] at this
      exact this
    have u6 : ∀ x, U4 6 x = U3 6 x := fun x => by rw [a5.1 6 (by decide)]
    refine hend (j + 1) _ U4 hP5 (by omega) (fun k h1 h2 => by rw [sU_ne h2, a4 k h1]) (fV_t f3 (fN_V a5)) (fun i hi => ?_)
    by_cases z : i = o
    · subst z
      refine ⟨?_, Or.inl ?_⟩
      · rw [u6, x0]
        exact sU_s _ _ _ _
      · rw [u6, x0]
    · refine oOK_f (hO i (by omega)) (fun x h1 h2 => ?_) (fun x h1 h2 => ?_)
      · rw [sU_n (by omega), a4 58 (by decide)]
      · rw [u6, xo x (by omega)]
def GP (b : Nat → Nat) (n m : Nat) (K V P A : Nat → Nat) (fa ns i : Nat) (T U : pS) : Prop := ∃ o j, PQ b n m K V P A fa j T U ∧ i ≤ j ∧ o ≤ 12 ∧ T 45 5 = nI o ∧ U 0 15 = nI o ∧ T 45 2 = -1 ∧ U 1 67 = nI ns ∧ ∀ i, i < o → oOK ns i T U
theorem P_plans {b : Nat → Nat} {n m fa ns : Nat} {K V P A : Nat → Nat} (hK : Toks b n 2 m K V P A) (hns : ns ≤ 6) {T0 U0 : pS} {bC : Int32 × pS → Option ((Int32 × pS) ⊕ pS)} {bM : Int32 × pS → Option ((Int32 × pS) ⊕ (Int32 × pS))}
    (hC : bC = u2 fun (l2_4 : Int32) (S_5 : pS) => if 400 ≤ l2_4 then some (.inr S_5) else if (S_5 45 1) = 0 then if (S_5 46 1) = 2 then some (.inr S_5) else if (S_5 46 1) = 256 then (if (S_5 45 5) < 12 then bB (bB2 (F5_taken S_5 45 256) fun r_9 S_10 => if r_9 = 0 then bB (F5_take S_10 45 261) fun S_14 => bB (F5_part S_14 45 0 (-1)) fun S_15 => bB (F5_take S_15 45 59) fun S_12 => some (sU S_12 45 5 ((S_12 45 5) + 1)) else bB (F5_throwOrder S_10 45 (nI ns)) fun S_16 => bB (F5_take S_16 45 59) fun S_12 => some (sU S_12 45 5 ((S_12 45 5) + 1))) fun S => some (.inl (l2_4 + 1, S)) else some (.inl (l2_4 + 1, F5_fail S_5 45 3))) else if (S_5 46 1) = 261 then (if (S_5 45 5) < 12 then bB (bB2 (F5_taken S_5 45 256) fun r_9 S_10 => if r_9 = 0 then bB (F5_take S_10 45 261) fun S_14 => bB (F5_part S_14 45 0 (-1)) fun S_15 => bB (F5_take S_15 45 59) fun S_12 => some (sU S_12 45 5 ((S_12 45 5) + 1)) else bB (F5_throwOrder S_10 45 (nI ns)) fun S_16 => bB (F5_take S_16 45 59) fun S_12 => some (sU S_12 45 5 ((S_12 45 5) + 1))) fun S => some (.inl (l2_4 + 1, S)) else some (.inl (l2_4 + 1, F5_fail S_5 45 3))) else some (.inl (l2_4 + 1, F5_fail S_5 45 1)) else some (.inr S_5))
    (hM : bM = u2 fun (l1_4 : Int32) (S_5 : pS) => if l1_4 = 0 then some (.inr (l1_4, S_5)) else if (S_5 0 18) = 0 then some (.inr (l1_4, S_5)) else bB2 (F12_anOrder S_5) fun r_7 S_8 => some (.inl (r_7, S_8)))
    (h0 : GP b n m K V P A fa ns 0 T0 U0) :
    R2 (bP bC (0, T0)) (bP bM (1, U0)) (fun T' q => frC T0 T' ∧ frX U0 q.2 ∧ ((q.1 = 1 ∧ GP b n m K V P A fa ns 0 T' q.2) ∨ (q.1 = 0 ∧ BD n m K V P fa T' (q.2 0 21) (q.2 0 22)))) := by
  subst hC; subst hM
  refine r2_P 400 (fun i s s' => ∃ T v U, s = (nI i, T) ∧ s' = (v, U) ∧ frC T0 T ∧ frX U0 U ∧ ((v = 1 ∧ GP b n m K V P A fa ns i T U) ∨ (v = 0 ∧ BD n m K V P fa T (U 0 21) (U 0 22)))) ?_ ?_ ?_
  · exact ⟨T0, 1, U0, rfl, rfl, frC_r _, frX_r _, Or.inl ⟨rfl, h0⟩⟩
  · rintro i s s' hi ⟨T, v, U, rfl, rfl, hfC, hfW, ⟨rfl, o, j, h, hij, ho, e45, e15, e452, e67, hO⟩ | ⟨rfl, hb⟩⟩
    · have tkk := (tkG hK h.2.2.1.2.2.1).2.2.2.2
      obtain ⟨-, t0, t400, t7, -, -, -, -, t8, -⟩ := tmP_f tkk
      have hT : T 46 1 = nI (K j) := h.2.2.1.2.2.2.2.1
      have hU : U 0 18 = nI (tmN 2 (K j)) := h.2.2.2.2.2.2.1
      have e0 : nI (tmN 2 (K j)) = 0 ↔ K j = 2 := (tmq t400 (x := 0) (by decide)).trans t0.symm
      have e7 : nI (tmN 2 (K j)) = 7 ↔ K j = 256 := (tmq t400 (x := 7) (by decide)).trans t7
      have e8 : nI (tmN 2 (K j)) = 8 ↔ K j = 261 := (tmq t400 (x := 8) (by decide)).trans t8
      have c2 : nI (K j) = 2 ↔ K j = 2 := nI_eq (b := 2) (by omega) (by decide)
      have c256 : nI (K j) = 256 ↔ K j = 256 := nI_eq (b := 256) (by omega) (by decide)
      have c261 : nI (K j) = 261 ↔ K j = 261 := nI_eq (b := 261) (by omega) (by decide)
      simp only [u2_d]
      rw [if_neg (nge 400 (b := 400) rfl hi (by decide)), if_pos h.1, hT, if_neg n10, hU]
      by_cases q2 : K j = 2
      · rw [if_pos (c2.mpr q2), if_pos (e0.mpr q2)]
        exact r2_s ⟨hfC, hfW, Or.inl ⟨rfl, o, j, h, Nat.zero_le _, ho, e45, e15, e452, e67, hO⟩⟩
      · rw [if_neg (fun z => q2 (c2.mp z)), if_neg (fun z => q2 (e0.mp z))]
        have hbad : ∀ x : Nat, 0 < x → x < 4 → F12_anOrder U = (bT2 (F12_bad U (nI x)) fun r_21 S_22 => some ((r_21 &&& 1), S_22)) → R2 (some (Sum.inl (nI i + 1, F5_fail T 45 (nI x))) : Option ((Int32 × pS) ⊕ pS)) (bB2 (F12_anOrder U) fun r_8 S_9 => some (Sum.inl (r_8, S_9))) (sumR (fun s s' => ∃ T v U, s = (nI (i + 1), T) ∧ s' = (v, U) ∧ frC T0 T ∧ frX U0 U ∧ ((v = 1 ∧ GP b n m K V P A fa ns (i + 1) T U) ∨ (v = 0 ∧ BD n m K V P fa T (U 0 21) (U 0 22)))) (fun T' (q : Int32 × pS) => frC T0 T' ∧ frX U0 q.2 ∧ ((q.1 = 1 ∧ GP b n m K V P A fa ns 0 T' q.2) ∨ (q.1 = 0 ∧ BD n m K V P fa T' (q.2 0 21) (q.2 0 22))))) := by
          intro x hx0 hx4 hal
          obtain ⟨U', a1, a2, a3, a4⟩ := Q_fail (x := x) h hx0 hx4
          rw [hal, a1, bT2_s, show (0 : Int32) &&& 1 = 0 by decide, bB2_s, nI_1]
          exact r2_s ⟨_, 0, _, rfl, rfl, frC_t hfC a3, frX_t hfW (fV_X a2), Or.inr ⟨rfl, a4⟩⟩
        by_cases qo : o = 12
        · have h3 : (K j = 256 ∨ K j = 261) → F12_anOrder U = (bT2 (F12_bad U (nI 3)) fun r_21 S_22 => some ((r_21 &&& 1), S_22)) := by
            intro hk
            unfold F12_anOrder
            simp only [bL_d]
            rw [hU, e15, qo, if_pos (show nI 12 = 12 from rfl)]
            by_cases q : K j = 256
            · rw [if_pos (e7.mpr q)]; rfl
            · rw [if_neg (fun z => q (e7.mp z)), if_pos (e8.mpr (hk.resolve_left q))]; rfl
          by_cases q : K j = 256
          · rw [if_pos (c256.mpr q), e45, qo, if_neg (show ¬ nI 12 < 12 by decide)]
            exact hbad 3 (by decide) (by decide) (h3 (Or.inl q))
          · by_cases q' : K j = 261
            · rw [if_neg (fun z => q (c256.mp z)), if_pos (c261.mpr q'), e45, qo, if_neg (show ¬ nI 12 < 12 by decide)]
              exact hbad 3 (by decide) (by decide) (h3 (Or.inr q'))
            · rw [if_neg (fun z => q (c256.mp z)), if_neg (fun z => q' (c261.mp z))]
              refine hbad 1 (by decide) (by decide) ?_
              unfold F12_anOrder
              simp only [bL_d]
              rw [hU, if_neg (fun z => q (e7.mp z)), if_neg (fun z => q' (e8.mp z))]
              rfl
        · have hgo : (K j = 256 ∨ K j = 261) → R2 (bB (bB2 (F5_taken T 45 256) fun r_9 S_10 => if r_9 = 0 then bB (F5_take S_10 45 261) fun S_14 => bB (F5_part S_14 45 0 (-1)) fun S_15 => bB (F5_take S_15 45 59) fun S_12 => some (sU S_12 45 5 ((S_12 45 5) + 1)) else bB (F5_throwOrder S_10 45 (nI ns)) fun S_16 => bB (F5_take S_16 45 59) fun S_12 => some (sU S_12 45 5 ((S_12 45 5) + 1))) fun S => some (Sum.inl (nI i + 1, S)) : Option ((Int32 × pS) ⊕ pS)) (bB2 (F12_anOrder U) fun r_8 S_9 => some (Sum.inl (r_8, S_9))) (sumR (fun s s' => ∃ T v U, s = (nI (i + 1), T) ∧ s' = (v, U) ∧ frC T0 T ∧ frX U0 U ∧ ((v = 1 ∧ GP b n m K V P A fa ns (i + 1) T U) ∨ (v = 0 ∧ BD n m K V P fa T (U 0 21) (U 0 22)))) (fun T' (q : Int32 × pS) => frC T0 T' ∧ frX U0 q.2 ∧ ((q.1 = 1 ∧ GP b n m K V P A fa ns 0 T' q.2) ∨ (q.1 = 0 ∧ BD n m K V P fa T' (q.2 0 21) (q.2 0 22))))) := by
            intro hk
            obtain ⟨T', ⟨p1, U'⟩, a1, a2, a3, a4, a5⟩ := Q_order hK h hk (by omega) e45 e15 hns e67 hO
            simp only at a4 a5
            rw [a1, bB_s, a2, bB2_s, nI_1]
            refine r2_s ⟨T', p1, U', rfl, rfl, frC_t hfC a3, frX_t hfW a4, ?_⟩
            rcases a5 with ⟨rfl, j', b1, b2, b3, b4, b5, b6⟩ | ⟨rfl, b1⟩
            · exact Or.inl ⟨rfl, o + 1, j', b1, by omega, by omega, b3, b4, b5.trans e452, by rw [a4.1 1 (by decide) (by decide)]; exact e67, b6⟩
            · exact Or.inr ⟨rfl, b1⟩
          by_cases q : K j = 256
          · rw [if_pos (c256.mpr q), e45, if_pos (show nI o < 12 from nI_lt (b := 12) (by omega) (by decide))]
            exact hgo (Or.inl q)
          · by_cases q' : K j = 261
            · rw [if_neg (fun z => q (c256.mp z)), if_pos (c261.mpr q'), e45, if_pos (show nI o < 12 from nI_lt (b := 12) (by omega) (by decide))]
              exact hgo (Or.inr q')
            · rw [if_neg (fun z => q (c256.mp z)), if_neg (fun z => q' (c261.mp z))]
              refine hbad 1 (by decide) (by decide) ?_
              unfold F12_anOrder
              simp only [bL_d]
              rw [hU, if_neg (fun z => q (e7.mp z)), if_neg (fun z => q' (e8.mp z))]
              rfl
    · simp only [u2_d]
      rw [if_neg (nge 400 (b := 400) rfl hi (by decide)), if_neg (show ¬ T 45 1 = 0 by rw [hb.1]; exact hb.2.2.1), if_pos trivial]
      exact r2_s ⟨hfC, hfW, Or.inr ⟨rfl, hb⟩⟩
  · rintro s s' ⟨T, v, U, rfl, rfl, hfC, hfW, ⟨rfl, o, j, h, hij, ho, e45, e15, e452, e67, hO⟩ | ⟨rfl, hb⟩⟩
    · have tkk := tkG hK h.2.2.1.2.2.1
      obtain ⟨-, t0, t400, -⟩ := tmP_f tkk.2.2.2.2
      have hU : U 0 18 = nI (tmN 2 (K j)) := h.2.2.2.2.2.2.1
      have e0 : nI (tmN 2 (K j)) = 0 ↔ K j = 2 := (tmq t400 (x := 0) (by decide)).trans t0.symm
      have hjm := h.2.2.1.2.2.1
      simp only [u2_d]
      rw [if_pos (show (400 : Int32) ≤ nI 400 by decide), if_neg n10, hU, if_pos (e0.mpr (tkk.2.1.mpr (by have := tkk.2.2.1; omega)))]
      exact r2_s ⟨hfC, hfW, Or.inl ⟨rfl, o, j, h, Nat.zero_le _, ho, e45, e15, e452, e67, hO⟩⟩
    · simp only [u2_d]
      rw [if_pos (show (400 : Int32) ≤ nI 400 by decide), if_pos trivial]
      exact r2_s ⟨hfC, hfW, Or.inr ⟨rfl, hb⟩⟩
theorem P_plan {b : Nat → Nat} {n ns : Nat} {T U : pS} (hns : ns ≤ 6) (hT : byT b n T) (c1 : T 45 1 = 0) (c2 : T 45 2 = -1) (c3 : T 51 0 = 0) (c4 : T 51 1 = 0) (c5 : T 45 5 = 0) (hU : byR b n U) (u17 : U 0 17 = 0) (u12 : U 0 12 = nI 2) (u67 : U 1 67 = nI ns) :
    ∃ v T' p U1, F5_plan T 45 (nI ns) = some (v, T') ∧ F12_next0 U = some U1 ∧ F12_readsPlan U1 = some p ∧ frC T T' ∧ frX U p.2 ∧ ((v = 1 ∧ p.1 = 1 ∧ T' 45 1 = 0 ∧ T' 45 2 = -1 ∧ ∃ o, o ≤ 12 ∧ T' 45 5 = nI o ∧ p.2 0 15 = nI o ∧ ∀ i, i < o → oOK ns i T' p.2) ∨ (v = 0 ∧ p.1 = 0 ∧ T' 45 1 = p.2 0 21 ∧ T' 45 2 = p.2 0 22)) := by
  obtain ⟨m, K, V, P, A, hK⟩ := Toks_ex (b := b) (n := n) (r := 2) hT.2.1 (fun j hj => (hT.2.2 j hj).2)
  obtain ⟨T1, a1, a2, a3⟩ := L_cut (r := 2) (by decide) hT hK
  obtain ⟨U1, b1, b2, b3, b4, b5, b6⟩ := L_next0 (hK.2.2.2.2.2.1 0 hK.2.2.1) hU (by rw [u17, hK.2.2.2.2.1]; rfl) u12 (by decide)
  have t1 : ∀ k', k' ≠ 46 → k' ≠ 48 → k' ≠ 49 → k' ≠ 50 → T1 k' = T k' := a2.1
  obtain ⟨fa, hfa⟩ := nI_ex (T1 45 6)
  have hGP : GP b n m K V P A fa ns 0 T1 (sU U1 0 15 0) := by
    refine ⟨0, 0, ⟨?_, hfa, a3, ⟨?_, hU.2.1, fun j hj => ?_⟩, ?_, ?_, ?_, ?_, fun z => ?_, ?_, ?_⟩, Nat.le_refl _, by decide, ?_, sU_s _ _ _ _, ?_, ?_, fun i hi => absurd hi (Nat.not_lt_zero _)⟩
    · rw [t1 45 (by decide) (by decide) (by decide) (by decide)]; exact c1
    · rw [sU_n (by omega)]; exact (b2.2 16 (by omega)).trans hU.1
    · rw [sU_ne (by decide), b2.1 7 (by decide)]; exact hU.2.2 j hj
    · rw [sU_n (by omega)]; exact (b2.2 12 (by omega)).trans u12
    · rw [sU_n (by omega)]; exact b3
    · rw [sU_n (by omega)]; exact b4
    · rw [sU_n (by omega)]; exact b5
    · rw [sU_n (by omega)]; exact b6 z
    · rw [t1 51 (by decide) (by decide) (by decide) (by decide)]; exact c4
    · rw [t1 51 (by decide) (by decide) (by decide) (by decide)]; exact c3
    · rw [t1 45 (by decide) (by decide) (by decide) (by decide)]; exact c5
    · rw [t1 45 (by decide) (by decide) (by decide) (by decide)]; exact c2
    · rw [sU_ne (by decide), b2.1 1 (by decide)]; exact u67
  obtain ⟨T', ⟨q1, U'⟩, g1, g2, g3, g4, g5⟩ := P_plans hK hns rfl rfl hGP
  simp only at g4 g5
  have hC : frC T T1 := fun k hk => t1 k (by omega) (by omega) (by omega) (by omega)
  have hW : frX U (sU U1 0 15 0) := ⟨fun k a c => by rw [sU_ne a, b2.1 k a], fun j hj => by rw [sU_n (by omega)]; exact b2.2 j (by omega)⟩
  have hplan : F5_plan T 45 (nI ns) = if T' 45 1 = 0 then some (1, T') else some (0, T') := by
    unfold F5_plan
    simp only [bL_d, Nat.reduceAdd]
    have a1' : F6_cut T 46 3 = some T1 := a1
    rw [a1', bB_s]
    refine Eq.trans (congrArg (fun z => bB z _) (Eq.trans ?_ g1)) ?_
    · congr 1
      funext s
      obtain ⟨s1, s2⟩ := s
      simp only [u2_d, bB_a3, bB_b3, bB_i3, bB_s]
    · rw [bB_s]
      rfl
  have hread : F12_readsPlan U1 = some (q1 &&& 1, U') := by
    unfold F12_readsPlan
    simp only [bL_d]
    refine Eq.trans (congrArg (fun z => bB z _) g2) ?_
    rw [bB_s]
    rfl
  refine ⟨if T' 45 1 = 0 then 1 else 0, T', (q1 &&& 1, U'), U1, ?_, b1, hread, frC_t hC g3, frX_t hW g4, ?_⟩
  · rw [hplan]
    split <;> rfl
  · rcases g5 with ⟨rfl, o, j, h, hij, ho, e45, e15, e452, e67, hO⟩ | ⟨rfl, hb⟩
    · exact Or.inl ⟨if_pos h.1, show (1 : Int32) &&& 1 = 1 by decide, h.1, e452, o, ho, e45, e15, hO⟩
    · exact Or.inr ⟨if_neg (by rw [hb.1]; exact hb.2.2.1), show (0 : Int32) &&& 1 = 0 by decide, hb.1, hb.2.1⟩
end

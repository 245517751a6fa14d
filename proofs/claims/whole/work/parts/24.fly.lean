/-! a flight -/
def tf (S : pS) (sp : Nat) (wi si : Int32) : pS := sU (sU (sU (sU (sU (sU (sU (sU (sU S 9 1 (S 0 27)) 9 2 (S 0 28)) 9 3 (S 0 29)) 9 4 (S 0 33)) 9 5 wi) 9 6 si) 9 7 (S 1 (70 + 2 * sp))) 9 8 (S 1 (70 + 2 * sp + 1))) 9 9 (S 0 34)
theorem tf_ne {S : pS} {sp k : Nat} {wi si : Int32} (h : k ≠ 9) : tf S sp wi si k = S k := by
  unfold tf
  rw [sU_ne h, sU_ne h, sU_ne h, sU_ne h, sU_ne h, sU_ne h, sU_ne h, sU_ne h, sU_ne h]
theorem tick_m {S : pS} {sp : Nat} {wi si : Int32} (hs : sp < 6) : F12_ticksOn S (nI sp) wi si =
  bB2 (F12_lawSays (tf S sp wi si) 0 20 (-20) 20) fun r1 S1 =>
  bB2 (F12_lawSays (sU S1 0 28 (S 0 28 + (r1 - 10))) 0 21 0 50) fun r2 S2 =>
  bB2 (F12_lawSays (sU S2 0 27 (F12_greater 0 (S1 0 27 - r2))) 0 22 (-9) 9) fun r3 S3 =>
  bB2 (F12_lawSays (sU S3 0 33 (S2 0 33 - r3)) 0 23 (-9) 9) fun r4 S4 =>
  some (sU (sU (sU (sU (sU (sU S4 0 32 (S3 0 32 + r4)) 0 30 (S4 0 30 + S4 0 27)) 0 29 (S4 0 29 + S4 0 28)) 0 31 (S4 0 31 + (S3 0 32 + r4))) 0 34 (S4 0 34 + 1)) 0 35 (F12_greater (S4 0 35) (S4 0 29 + S4 0 28))) := by
  unfold F12_ticksOn tf
  simp only [bL_d, sU_get, Nat.reduceEqDiff, reduceCtorEq, and_true, and_false, false_and, true_and, and_self, if_true, if_false, ite_self, Nat.reduceAdd, Nat.reduceMul, Nat.reduceSub, Nat.reduceLT, Nat.reduceLeDiff, not_true_eq_false, not_false_eq_true]
  simp only [lit_I 70, lit_I 2, lit_I 1, pk_mul, nI_add]
  rw [bG_t (vp_in_nI (by omega) (by omega)), bG_t (vp_in_nI (by omega) (by omega)), nI_clamp (by omega), nI_clamp (by omega)]
/-- the flight in the class (60, 61) and in the reference, behind i ticks -/
def FS (wi si : Int32) (sp i : Nat) (Sc Sm : pS) : Prop :=
  Sc 61 0 = Sm 0 27 ∧ Sc 61 1 = Sm 0 28 ∧ Sc 61 2 = Sm 0 29 ∧ Sc 61 3 = Sm 0 33 ∧ Sc 61 4 = wi ∧ Sc 61 5 = si ∧ Sc 61 6 = Sm 1 (70 + 2 * sp) ∧ Sc 61 7 = Sm 1 (70 + 2 * sp + 1) ∧ Sc 61 8 = Sm 0 34 ∧ Sm 0 34 = nI i ∧ Sc 60 1 = Sm 0 30 ∧ Sc 60 2 = Sm 0 31 ∧ Sc 60 4 = Sm 0 32 ∧ Sc 60 3 = Sm 0 35
  ∧ (∃ f, f ≤ 1188 ∧ Sm 0 27 = nI f) ∧ (∃ g, g ≤ 1188 * i ∧ Sm 0 30 = nI g)
theorem gre {a b : Int32} : F12_greater a b = jmax a b := by
  unfold F12_greater jmax
  grind
theorem les {a b : Int32} : F12_lesser a b = jmin a b := by
  unfold F12_lesser jmin
  grind
theorem held_in {v : Int32} {lo hi : Int32} (h : lo ≤ hi) : lo ≤ F12_held v lo hi ∧ F12_held v lo hi ≤ hi := by
  unfold F12_held F12_greater F12_lesser
  grind
theorem held_N {v m : Int32} {n : Nat} (hm : m = nI n) (hn : n + 1 < 2 ^ 31) : isN (F12_held v 0 m) (n + 1) := by
  have h0 : (0 : Int32) ≤ m := by rw [hm]; exact nI_pos' (by omega)
  exact (in_N hm hn).mp (held_in h0)
theorem L_tick {wi si : Int32} {sp i : Nat} {Sc Sm : pS} (hs : sp < 6) (hi : i < 400) (hl : LR 8 0 1 Sc Sm) (hn : Sc 8 0 = Sm 1 640) (h : FS wi si sp i Sc Sm) :
    R2 (F2_tick Sc 60 8) (F12_ticksOn Sm (nI sp) wi si) (fun T U => FS wi si sp (i + 1) T U ∧ (∀ k, k ≠ 14 → k ≠ 60 → k ≠ 61 → T k = Sc k) ∧ (∀ k, k ≠ 0 → k ≠ 8 → k ≠ 9 → U k = Sm k) ∧ ∀ j, (j < 27 ∨ 35 < j) → U 0 j = Sm 0 j) := by
  obtain ⟨h0, h1, h2, h3, h4, h5, h6, h7, h8, h9, h10, h11, h12, h13, ⟨f, hf, h14⟩, ⟨g, hg, h15⟩⟩ := h
  have f9 : ∀ n, n < 9 → Sc 61 n = tf Sm sp wi si 9 (1 + n) := by
    intro n hn
    have : n = 0 ∨ n = 1 ∨ n = 2 ∨ n = 3 ∨ n = 4 ∨ n = 5 ∨ n = 6 ∨ n = 7 ∨ n = 8 := by omega
    unfold tf
    simp only [sU_get]
    rcases this with rfl | rfl | rfl | rfl | rfl | rfl | rfl | rfl | rfl <;> simp only [Nat.reduceEqDiff, reduceCtorEq, and_true, and_false, false_and, true_and, and_self, if_true, if_false, ite_self, Nat.reduceAdd, Nat.reduceMul, Nat.reduceSub, Nat.reduceLT, Nat.reduceLeDiff, not_true_eq_false, not_false_eq_true] <;> assumption
  rw [tick_m hs]
  unfold F2_tick
  simp only [bL_d, Nat.reduceAdd]
  have LL : ∀ (w : Nat) (lo hi : Int32) (T U : pS), w < 4 → lo ≤ 0 → 0 ≤ hi → (∀ k, k ≠ 14 → T k = Sc k) → (∀ k, k ≠ 0 → k ≠ 8 → U k = tf Sm sp wi si k) → R2 (F3_tell T 8 (nI w) 61 9) (F12_lawSays U (nI 0) (nI (20 + w)) lo hi) (fun p q => F11_hold p.1 lo hi = q.1 ∧ (∀ k, k ≠ 14 → p.2 k = Sc k) ∧ (∀ k', k' ≠ 8 → q.2 k' = U k')) := by
    intro w lo hi T U hw hlo hhi hT hU
    refine r2_m (L_tell (K := 8) (k := 0) (k3 := 61) (n3 := 9) (w := w) (Sc := T) (Sm := U) (lo := lo) (hi := hi) (by decide) (LR_fr hl (fun i a b => hT _ (by omega)) (by rw [hU 1 (by decide) (by decide), tf_ne (by decide)])) (by rw [hT 8 (by decide), hU 1 (by decide) (by decide), tf_ne (by decide)]; exact hn) (by omega) (fun n hn => by rw [hT 61 (by decide), hU 9 (by decide) (by decide)]; exact f9 n hn) (by decide) (by decide) (by decide) hlo hhi) ?_
    rintro ⟨v, T'⟩ ⟨v', U'⟩ ⟨rfl, hT', hU'⟩
    exact ⟨hol (Int32.le_trans hlo hhi), fun k hk => (hT' k hk).trans (hT k hk), hU'⟩
  refine r2_B2 (P := fun (v : Int32) (T : pS) (v' : Int32) (U : pS) => F11_hold v (-20) 20 = v' ∧ (∀ k, k ≠ 14 → T k = Sc k) ∧ (∀ k', k' ≠ 8 → U k' = tf Sm sp wi si k')) (LL 0 (-20) 20 _ _ (by decide) (by decide) (by decide) (fun _ _ => rfl) (fun _ _ _ => rfl)) ?_
  rintro v1 T1 _ U1 ⟨rfl, a1, b1⟩
  refine r2_B2 (P := fun (v : Int32) (T : pS) (v' : Int32) (U : pS) => F11_hold v 0 50 = v' ∧ (∀ k, k ≠ 14 → T k = Sc k) ∧ (∀ k', k' ≠ 8 → U k' = (sU U1 0 28 (Sm 0 28 + (F11_hold v1 (-20) 20 - 10))) k')) (LL 1 0 50 _ _ (by decide) (by decide) (by decide) a1 (fun k q1 q2 => by rw [sU_ne q1]; exact b1 k q2)) ?_
  rintro v2 T2 _ U2 ⟨rfl, a2, b2⟩
  refine r2_B2 (P := fun (v : Int32) (T : pS) (v' : Int32) (U : pS) => F11_hold v (-9) 9 = v' ∧ (∀ k, k ≠ 14 → T k = Sc k) ∧ (∀ k', k' ≠ 8 → U k' = (sU U2 0 27 (F12_greater 0 (U1 0 27 - F11_hold v2 0 50))) k')) (LL 2 (-9) 9 _ _ (by decide) (by decide) (by decide) a2 (fun k q1 q2 => by rw [sU_ne q1, b2 k q2, sU_ne q1]; exact b1 k q2)) ?_
  rintro v3 T3 _ U3 ⟨rfl, a3, b3⟩
  refine r2_B2 (P := fun (v : Int32) (T : pS) (v' : Int32) (U : pS) => F11_hold v (-9) 9 = v' ∧ (∀ k, k ≠ 14 → T k = Sc k) ∧ (∀ k', k' ≠ 8 → U k' = (sU U3 0 33 (U2 0 33 - F11_hold v3 (-9) 9)) k')) (LL 3 (-9) 9 _ _ (by decide) (by decide) (by decide) a3 (fun k q1 q2 => by rw [sU_ne q1, b3 k q2, sU_ne q1, b2 k q2, sU_ne q1]; exact b1 k q2)) ?_
  rintro v4 T4 _ U4 ⟨rfl, a4, b4⟩
  have c0 : U4 0 = (sU U3 0 33 (U2 0 33 - F11_hold v3 (-9) 9)) 0 := b4 0 (by decide)
  have c1 : U3 0 = (sU U2 0 27 (F12_greater 0 (U1 0 27 - F11_hold v2 0 50))) 0 := b3 0 (by decide)
  have c2 : U2 0 = (sU U1 0 28 (Sm 0 28 + (F11_hold v1 (-20) 20 - 10))) 0 := b2 0 (by decide)
  have c3 : U1 0 = Sm 0 := (b1 0 (by decide)).trans (tf_ne (by decide))
  have d0 : U4 1 = Sm 1 := by rw [b4 1 (by decide), sU_ne (by decide), b3 1 (by decide), sU_ne (by decide), b2 1 (by decide), sU_ne (by decide), b1 1 (by decide), tf_ne (by decide)]
  have e1 : T4 61 = Sc 61 := a4 61 (by decide)
  have e0 : T4 60 = Sc 60 := a4 60 (by decide)
  have hd : isN (F11_hold v2 0 50) 51 := by rw [hol (by decide)]; exact held_N (n := 50) rfl (by decide)
  obtain ⟨dr, hdr, hd⟩ := hd
  have hfo : F12_greater 0 (nI f - F11_hold v2 0 50) = nI (f - dr) := by
    rw [hd, gre]
    unfold jmax
    by_cases q : dr ≤ f
    · rw [pk_sub q]
      by_cases z : (0 : Int32) < nI (f - dr)
      · rw [if_pos z]
      · rw [if_neg z]
        rw [show (0 : Int32) = nI 0 from rfl, nI_ltI (by omega) (by omega)] at z
        rw [show f - dr = 0 by omega]; rfl
    · rw [if_neg (fun z => by
        have := pk_sneg (a := f) (b := dr) (by omega) (by omega)
        exact absurd (Int32.lt_trans z this) (by decide))]
      rw [show f - dr = 0 by omega]; rfl
  simp only [c0, c1, c2, c3, sU_get, Nat.reduceEqDiff, reduceCtorEq, and_true, and_false, false_and, true_and, and_self, if_true, if_false, ite_self, Nat.reduceAdd, Nat.reduceMul, Nat.reduceSub, Nat.reduceLT, Nat.reduceLeDiff, not_true_eq_false, not_false_eq_true, e1, e0, d0, h14, hfo, h0, h1, h2, h3, h8, h9, h10, h11, h12, h13, ← gre, h15]
  refine r2_s ⟨?_, ?_, ?_, ?_⟩
  · unfold FS
    simp only [sU_get, Nat.reduceEqDiff, reduceCtorEq, and_true, and_false, false_and, true_and, and_self, if_true, if_false, ite_self, Nat.reduceAdd, Nat.reduceMul, Nat.reduceSub, Nat.reduceLT, Nat.reduceLeDiff, not_true_eq_false, not_false_eq_true, e1, e0, d0, c0, c1, c2, c3, h0, h1, h2, h3, h4, h5, h6, h7, h8, h9, h10, h11, h12, h13, nI_1, nI_add]
    rw [h14, hfo]
    exact ⟨rfl, ⟨f - dr, by omega, rfl⟩, ⟨g + (f - dr), by omega, rfl⟩⟩
  · intro k q1 q2 q3
    simp only [sU_ne q2, sU_ne q3]
    exact a4 k q1
  · intro k q1 q2 q3
    simp only [sU_ne q1]
    rw [b4 k q2, sU_ne q1, b3 k q2, sU_ne q1, b2 k q2, sU_ne q1, b1 k q2, tf_ne q3]
  · intro j hj
    simp only [sU_get, c0, c1, c2, c3, Nat.reduceEqDiff, reduceCtorEq, and_true, and_false, false_and, true_and, and_self, if_true, if_false, ite_self, Nat.reduceAdd, Nat.reduceMul, Nat.reduceSub, Nat.reduceLT, Nat.reduceLeDiff, not_true_eq_false, not_false_eq_true, true_and]
    rw [if_neg (by omega), if_neg (by omega), if_neg (by omega), if_neg (by omega), if_neg (by omega), if_neg (by omega), if_neg (by omega), if_neg (by omega), if_neg (by omega)]
/-- the same but for the throwers' numbers -/
def RE0 (Sc Sm : pS) : Prop := ∀ j k i, loc 1 j = some (k, i) → 60 ≤ j → Sc k i = Sm 1 j
theorem RE_0 {Sc Sm : pS} (h : RE 1 1 Sc Sm) : RE0 Sc Sm := fun j k i hl _ => h j k i hl
theorem sin_b : ∀ a, a < 91 → a * (180 - a) ≤ 8100 := by decide +kernel
def sinN (a : Nat) : Nat := 4000 * (a * (180 - a)) / (40500 - a * (180 - a))
theorem sin_4 {a : Nat} (h : a ≤ 90) : sinN a ≤ 4000 := by
  have := sin_b a (by omega)
  unfold sinN
  exact Nat.div_le_of_le_mul (by omega)
theorem sin_m {a : Nat} (h : a ≤ 90) : F12_sine (nI a) = some (nI (sinN a)) := by
  have hb := sin_b a (by omega)
  unfold F12_sine sinN
  simp only [lit_I]
  rw [pk_sub (by omega), pk_mul, pk_mul, pk_mul, pk_sub (by omega)]
  rw [bG_ne (n := 40500 - a * (180 - a)) (by omega) (by omega), pk_div (by rw [Nat.mul_assoc]; omega) (by omega) (by omega), Nat.mul_assoc]
theorem sin_c {a : Nat} (h : a ≤ 90) : F2_sine (nI a) = some (nI (sinN a)) := by
  have hb := sin_b a (by omega)
  unfold F2_sine sinN
  simp only [bL_d]
  rw [if_neg (nI_pos (by omega))]
  simp only [lit_I]
  rw [if_pos (nI_le h (by decide)), pk_sub (by omega), pk_mul, pk_mul, pk_sub (by omega), bG_ne (n := 40500 - a * (180 - a)) (by omega) (by omega), pk_div (by omega) (by omega) (by omega)]
theorem L_begin {f a sp ns : Nat} {lie wi si : Int32} {Sc Sm : pS} (hf : f ≤ 99) (ha : a ≤ 90) (hs : sp < ns) (hns : ns ≤ 6) (hE : RE0 Sc Sm) (h67 : Sm 1 67 = nI ns) :
    R2 (F2_begin Sc 60 1 (nI f) (nI a) lie (nI sp) wi si) (F12_begins Sm (nI f) (nI a) lie) (fun T U => FS wi si sp 0 T U ∧ (∀ k, k ≠ 60 → k ≠ 61 → T k = Sc k) ∧ (∀ k, k ≠ 0 → U k = Sm k) ∧ ∀ j, (j < 27 ∨ 35 < j) → U 0 j = Sm 0 j) := by
  have h4 : Sc 1 4 = nI ns := (hE 67 1 4 rfl (by decide)).trans h67
  have hso : Sc 3 sp = Sm 1 (70 + 2 * sp) := hE (70 + 2 * sp) 3 sp (by
    have : sp = 0 ∨ sp = 1 ∨ sp = 2 ∨ sp = 3 ∨ sp = 4 ∨ sp = 5 := by omega
    rcases this with rfl | rfl | rfl | rfl | rfl | rfl <;> rfl) (by omega)
  have hti : Sc 4 sp = Sm 1 (70 + 2 * sp + 1) := hE (70 + 2 * sp + 1) 4 sp (by
    have : sp = 0 ∨ sp = 1 ∨ sp = 2 ∨ sp = 3 ∨ sp = 4 ∨ sp = 5 := by omega
    rcases this with rfl | rfl | rfl | rfl | rfl | rfl <;> rfl) (by omega)
  have hsp : ∀ T : pS, T 1 4 = nI ns → F10_hasSpear T 1 (nI sp) = 1 := fun T hT => hsp_t hT hns ⟨sp, hs, rfl⟩
  have e90 : (90 : Int32) - nI a = nI (90 - a) := by rw [lit_I 90]; exact pk_sub ha
  unfold F2_begin F12_begins
  simp only [bL_d, Nat.reduceAdd, e90]
  rw [sin_c (a := 90 - a) (by omega), sin_m (a := 90 - a) (by omega), sin_c ha, sin_m ha]
  simp only [bB_s]
  simp only [hsp, sU_get, Nat.reduceEqDiff, reduceCtorEq, and_true, and_false, false_and, true_and, and_self, if_true, if_false, ite_self, Nat.reduceAdd, Nat.reduceMul, Nat.reduceSub, Nat.reduceLT, Nat.reduceLeDiff, not_true_eq_false, not_false_eq_true, h4, n10]
  rw [bG_t (vp_in_nI (by omega) (by omega)), bG_t (vp_in_nI (by omega) (by omega)), nI_clamp (by omega)]
  have b1 := sin_4 (a := 90 - a) (by omega)
  have b2 : 3 * f * sinN (90 - a) ≤ 3 * 99 * 4000 := Nat.mul_le_mul (by omega) b1
  refine r2_s ⟨?_, ?_, ?_, ?_⟩
  · unfold FS
    simp only [sU_get, Nat.reduceEqDiff, reduceCtorEq, and_true, and_false, false_and, true_and, and_self, if_true, if_false, ite_self, Nat.reduceAdd, Nat.reduceMul, Nat.reduceSub, Nat.reduceLT, Nat.reduceLeDiff, not_true_eq_false, not_false_eq_true, hso, hti]
    refine ⟨rfl, ⟨3 * f * sinN (90 - a) / 1000, by omega, ?_⟩, ⟨0, by omega, rfl⟩⟩
    simp only [lit_I, pk_mul]
    rw [pk_div (by omega) (by omega) (by omega)]
  · intro k q1 q2
    simp only [sU_ne q1, sU_ne q2]
  · intro k q1
    simp only [sU_ne q1]
  · intro j hj
    simp only [sU_get, true_and]
    rw [if_neg (by omega), if_neg (by omega), if_neg (by omega), if_neg (by omega), if_neg (by omega), if_neg (by omega), if_neg (by omega), if_neg (by omega), if_neg (by omega)]
theorem L_go {m sp : Nat} {wi si : Int32} {Sc Sm : pS} {b' : pS → Option (pS ⊕ pS)} (hm : m ≤ 400) (hs : sp < 6) (hl : LR 8 0 1 Sc Sm) (hn : Sc 8 0 = Sm 1 640) (h : FS wi si sp 0 Sc Sm)
    (hb : ∀ U : pS, (∀ k, k ≠ 0 → k ≠ 8 → k ≠ 9 → U k = Sm k) → b' U = if nI m ≤ U 0 34 then some (.inr U) else if U 0 29 ≤ 0 then some (.inr U) else bB (F12_ticksOn U (nI sp) wi si) fun V => some (.inl V)) :
    R2 (F2_go Sc 60 8 (nI m)) (bP b' Sm) (fun T U => (∃ i, i ≤ m ∧ FS wi si sp i T U) ∧ (∀ k, k ≠ 14 → k ≠ 60 → k ≠ 61 → T k = Sc k) ∧ (∀ k, k ≠ 0 → k ≠ 8 → k ≠ 9 → U k = Sm k) ∧ ∀ j, (j < 27 ∨ 35 < j) → U 0 j = Sm 0 j) := by
  unfold F2_go
  simp only [bL_d, Nat.reduceAdd]
  have hr : ∀ y : Option pS, y = bB y (fun U => some U) := fun y => by cases y <;> rfl
  rw [hr (bP b' Sm)]
  refine r2_B (P := fun (T U : pS) => (∃ i, i ≤ m ∧ FS wi si sp i T U) ∧ (∀ k, k ≠ 14 → k ≠ 60 → k ≠ 61 → T k = Sc k) ∧ (∀ k, k ≠ 0 → k ≠ 8 → k ≠ 9 → U k = Sm k) ∧ ∀ j, (j < 27 ∨ 35 < j) → U 0 j = Sm 0 j) (r2_P m (fun i s (U : pS) => ∃ T : pS, s = (nI i, T) ∧ FS wi si sp i T U ∧ (∀ k, k ≠ 14 → k ≠ 60 → k ≠ 61 → T k = Sc k) ∧ (∀ k, k ≠ 0 → k ≠ 8 → k ≠ 9 → U k = Sm k) ∧ ∀ j, (j < 27 ∨ 35 < j) → U 0 j = Sm 0 j) ?_ ?_ ?_) ?_
  · exact ⟨Sc, rfl, h, fun _ _ _ _ => rfl, fun _ _ _ _ => rfl, fun _ _ => rfl⟩
  · rintro i s U hi ⟨T, rfl, hF, hT, hU, hU0⟩
    have h34 : U 0 34 = nI i := hF.2.2.2.2.2.2.2.2.2.1
    have h29 : T 61 2 = U 0 29 := hF.2.2.1
    rw [hb U hU, h34]
    simp only [u2_d, h29]
    rw [if_neg (nI_ge hi (by omega)), if_neg (nge 400 (b := 400) rfl (by omega) (by omega)), if_neg (nI_ge hi (by omega))]
    by_cases hz : U 0 29 ≤ 0
    · rw [if_pos hz, if_pos hz]
      exact r2_s ⟨⟨i, by omega, hF⟩, hT, hU, hU0⟩
    · rw [if_neg hz, if_neg hz]
      refine r2_B (L_tick hs (by omega) (LR_fr hl (fun j a b => hT _ (by omega) (by omega) (by omega)) (hU 1 (by decide) (by decide) (by decide))) (by rw [hT 8 (by decide) (by decide) (by decide), hU 1 (by decide) (by decide) (by decide)]; exact hn) hF) ?_
      rintro T' U' ⟨h1, h2, h3, h4⟩
      rw [nI_1]
      exact r2_s ⟨T', rfl, h1, fun k a b c => (h2 k a b c).trans (hT k a b c), fun k a b c => (h3 k a b c).trans (hU k a b c), fun j hj => (h4 j hj).trans (hU0 j hj)⟩
  · rintro s U ⟨T, rfl, hF, hT, hU, hU0⟩
    have h34 : U 0 34 = nI m := hF.2.2.2.2.2.2.2.2.2.1
    rw [hb U hU, h34]
    simp only [u2_d]
    rw [if_pos (nI_le (Nat.le_refl _) (by omega)), if_pos (nI_le (Nat.le_refl _) (by omega))]
    exact r2_s ⟨⟨m, Nat.le_refl _, hF⟩, hT, hU, hU0⟩
  · rintro T U hq
    simp only [u1_d]
    exact r2_s hq
def fC1 (S S' : pS) : Prop := ∀ k, k ≠ 14 → k ≠ 60 → k ≠ 61 → S' k = S k
def fM1 (S S' : pS) : Prop := (∀ k, k ≠ 0 → k ≠ 8 → k ≠ 9 → S' k = S k) ∧ ∀ j, (j < 27 ∨ 35 < j) → S' 0 j = S 0 j
theorem fC1_r (S : pS) : fC1 S S := fun _ _ _ _ => rfl
theorem fM1_r (S : pS) : fM1 S S := ⟨fun _ _ _ _ => rfl, fun _ _ => rfl⟩
theorem fC1_t {S S' S'' : pS} (h : fC1 S S') (h' : fC1 S' S'') : fC1 S S'' := fun k a b c => (h' k a b c).trans (h k a b c)
theorem fM1_t {S S' S'' : pS} (h : fM1 S S') (h' : fM1 S' S'') : fM1 S S'' := ⟨fun k a b c => (h'.1 k a b c).trans (h.1 k a b c), fun j hj => (h'.2 j hj).trans (h.2 j hj)⟩
theorem fC1_f {S S' : pS} (h : fC1 S S') : fC S S' := fun k hk => by
  unfold scC at hk
  exact h k (by omega) (by omega) (by omega)
theorem fM1_f {S S' : pS} (h : fM1 S S') : fM S S' := ⟨fun k h0 hk => by
  unfold scM at hk
  exact h.1 k (by omega) (by omega) (by omega), fun j hj => h.2 j (Or.inl hj)⟩
theorem L_flies {f a sp ns : Nat} {lie wi si : Int32} {Sc Sm : pS} (hf : f ≤ 99) (ha : a ≤ 90) (hs : sp < ns) (hns : ns ≤ 6) (hE : RE0 Sc Sm) (h67 : Sm 1 67 = nI ns) (hl : LR 8 0 1 Sc Sm) :
    R2 (bB (F2_begin Sc 60 1 (nI f) (nI a) lie (nI sp) wi si) fun S1 => F2_go S1 60 8 400) (F12_flies Sm (nI f) (nI a) lie (nI sp) wi si) (fun T U => (∃ i, i ≤ 400 ∧ FS wi si sp i T U) ∧ fC1 Sc T ∧ fM1 Sm U) := by
  unfold F12_flies
  simp only [bL_d]
  refine r2_B (L_begin hf ha hs hns hE h67) ?_
  rintro T U ⟨h1, h2, h3, h4⟩
  have hr : ∀ y : Option pS, bB y (u1 fun U => some U) = y := fun y => by cases y <;> rfl
  rw [hr]
  have hn : T 8 0 = U 1 640 := by rw [h2 8 (by decide) (by decide), h3 1 (by decide)]; exact hE 640 8 0 rfl (by decide)
  refine r2_m (L_go (m := 400) (by decide) (by omega) (LR_fr hl (fun j a b => h2 _ (by omega) (by omega)) (h3 1 (by decide))) hn h1 (fun V hV => rfl)) ?_
  rintro T' U' ⟨h5, h6, h7, h8⟩
  exact ⟨h5, fun k q0 q1 q2 => (h6 k q0 q1 q2).trans (h2 k q1 q2), fun k q0 q1 q2 => (h7 k q0 q1 q2).trans (h3 k q0), fun j hj => (h8 j hj).trans (h4 j hj)⟩
/-- what thought asks of the two systems -/
def VR (ns : Nat) (Sc Sm : pS) : Prop := ns ≤ 6 ∧ RE0 Sc Sm ∧ Sm 1 67 = nI ns ∧ LR 8 0 1 Sc Sm ∧ LR 15 1 1 Sc Sm ∧ LR 22 2 1 Sc Sm
theorem VR_fr {ns : Nat} {Sc Sm Sc' Sm' : pS} (h : VR ns Sc Sm) (hc : fC Sc Sc') (hm : fM Sm Sm') : VR ns Sc' Sm' := by
  obtain ⟨h0, h1, h2, h3, h4, h5⟩ := h
  have m1 := hm.1 1 (by decide) (by unfold scM; omega)
  refine ⟨h0, fun j k i hl hj => ?_, by rw [m1]; exact h2, LR_fr h3 (fun i a b => hc _ (by unfold scC; omega)) m1, LR_fr h4 (fun i a b => hc _ (by unfold scC; omega)) m1, LR_fr h5 (fun i a b => hc _ (by unfold scC; omega)) m1⟩
  have e := loc_in hl
  unfold inL at e
  rw [m1, hc k (by unfold scC; omega)]
  exact h1 j k i hl hj
theorem land {wi si : Int32} {sp i : Nat} {T U : pS} (h : FS wi si sp i T U) : F2_landing T 60 = F12_landed U := by
  have h3 : T 61 3 = U 0 33 := h.2.2.2.1
  unfold F2_landing F12_landed
  simp only [Nat.reduceAdd, h3]
  by_cases h0 : 0 ≤ U 0 33
  · rw [if_pos h0, if_pos h0]
    by_cases h9 : 9 < U 0 33
    · rw [if_pos h9, if_pos (by grind)]
    · rw [if_neg h9, if_neg (by grind)]
  · rw [if_neg h0, if_neg h0]
theorem secto {wi si : Int32} {sp i : Nat} {T U : pS} (h : FS wi si sp i T U) (h2 : T 2 4 = U 1 64) : F12_isInSector U = some (if T 60 1 < jabs (T 60 2) * T 2 4 then 0 else 1) := by
  have h10 : T 60 1 = U 0 30 := h.2.2.2.2.2.2.2.2.2.2.1
  have h11 : T 60 2 = U 0 31 := h.2.2.2.2.2.2.2.2.2.2.2.1
  unfold F12_isInSector jabs
  simp only [bL_d]
  rw [wea4]
  simp only [bB_s, h10, h11, h2, Int32.zero_sub]
  by_cases h0 : 0 ≤ U 0 31
  · rw [if_pos h0, if_pos h0]; split <;> rfl
  · rw [if_neg h0, if_neg h0]; split <;> rfl
theorem good {wi si : Int32} {sp i : Nat} {T U : pS} (h : FS wi si sp i T U) (h2 : T 2 4 = U 1 64) : F12_isGood U = some (if F2_how T 60 (T 2 4) = 0 then 1 else 0) := by
  unfold F12_isGood F2_how
  simp only [bL_d]
  rw [secto h h2, land h]
  unfold F12_landed
  simp only [bB_s]
  by_cases h0 : 0 ≤ U 0 33
  · simp only [if_pos h0]
    by_cases h9 : 10 ≤ U 0 33
    · simp only [if_pos h9]; rfl
    · simp only [if_neg h9]; rfl
  · simp only [if_neg h0]
    by_cases q : T 60 1 < jabs (T 60 2) * T 2 4
    · simp only [if_pos q]; rfl
    · simp only [if_neg q]; rfl
theorem L_goodFar {f a sp ns : Nat} {wi : Int32} {Sc Sm : pS} (hf : f ≤ 99) (ha : a ≤ 90) (hs : sp < ns) (hV : VR ns Sc Sm) :
    R2 (F7_goodFar Sc 59 1 (nI f) (nI a) (nI sp) wi) (F12_goodFar Sm (nI f) (nI a) (nI sp) wi) (fun p q => p.1 = q.1 ∧ (p.1 = -1 ∨ isN p.1 475201) ∧ fC1 Sc p.2 ∧ fM1 Sm q.2) := by
  obtain ⟨h0, hE, h67, hl, -, -⟩ := hV
  have e1 : Sc 2 1 = Sm 1 61 := hE 61 2 1 rfl (by decide)
  have e4 : Sc 2 4 = Sm 1 64 := hE 64 2 4 rfl (by decide)
  unfold F7_goodFar F12_goodFar
  simp only [Nat.reduceAdd, e1]
  rw [wea1, bB_s]
  have hL := L_flies (lie := 0) (wi := wi) (si := Sm 1 61) hf ha hs h0 hE h67 hl
  obtain ⟨T, U, hT, hU, ⟨i, hi, hF⟩, hfc, hfm⟩ := hL
  have hU' : F12_flies Sm (nI f) (nI a) 0 (nI sp) wi (Sm 1 61) = some U := hU
  rw [hU', bB_s]
  cases hb : F2_begin Sc 60 1 (nI f) (nI a) 0 (nI sp) wi (Sm 1 61) with
  | none => rw [hb] at hT; cases hT
  | some B =>
    rw [hb, bB_s] at hT
    rw [bB_s, hT, bB_s]
    have g4 : T 2 4 = U 1 64 := by rw [hfc 2 (by decide) (by decide) (by decide), hfm.1 1 (by decide) (by decide) (by decide)]; exact e4
    rw [good hF g4, bB_s]
    have h10 : T 60 1 = U 0 30 := hF.2.2.2.2.2.2.2.2.2.2.1
    obtain ⟨g, hg, h15⟩ := hF.2.2.2.2.2.2.2.2.2.2.2.2.2.2.2
    by_cases q : F2_how T 60 (T 2 4) = 0
    · rw [if_pos q, if_pos q, if_neg (by decide), h10]
      exact r2_s ⟨rfl, Or.inr ⟨g, by omega, h15⟩, hfc, hfm⟩
    · rw [if_neg q, if_neg q, if_pos rfl]
      exact r2_s ⟨rfl, Or.inl rfl, hfc, hfm⟩
theorem L_far {f a sp ns : Nat} {wi : Int32} {Sc Sm : pS} (hf : f ≤ 99) (ha : a ≤ 90) (hs : sp < ns) (hV : VR ns Sc Sm) :
    R2 (F7_far Sc 59 1 (nI f) (nI a) (nI sp) wi) (F12_flies Sm (nI f) (nI a) 0 (nI sp) wi (Sm 1 61)) (fun p U => p.1 = U 0 30 ∧ isN p.1 475201 ∧ fC1 Sc p.2 ∧ fM1 Sm U) := by
  obtain ⟨h0, hE, h67, hl, -, -⟩ := hV
  have e1 : Sc 2 1 = Sm 1 61 := hE 61 2 1 rfl (by decide)
  unfold F7_far
  simp only [Nat.reduceAdd, e1]
  have hL := L_flies (lie := 0) (wi := wi) (si := Sm 1 61) hf ha hs h0 hE h67 hl
  obtain ⟨T, U, hT, hU, ⟨i, hi, hF⟩, hfc, hfm⟩ := hL
  rw [hU]
  cases hb : F2_begin Sc 60 1 (nI f) (nI a) 0 (nI sp) wi (Sm 1 61) with
  | none => rw [hb] at hT; cases hT
  | some B =>
    rw [hb, bB_s] at hT
    rw [bB_s, hT, bB_s]
    have h10 : T 60 1 = U 0 30 := hF.2.2.2.2.2.2.2.2.2.2.1
    obtain ⟨g, hg, h15⟩ := hF.2.2.2.2.2.2.2.2.2.2.2.2.2.2.2
    exact r2_s ⟨h10, ⟨g, by omega, h10.trans h15⟩, hfc, hfm⟩

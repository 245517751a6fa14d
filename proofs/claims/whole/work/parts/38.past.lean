/-! what can be undone -/
theorem L_remember {nu la t : Nat} {Sc : pS} (hnu : nu ≤ 8) (hla : la < 8) (ht : t < 8) (h0 : Sc 65 0 = nI nu) (h1 : Sc 65 1 = nI la) :
    Ok (F4_remember Sc 65 1 (29 + 2 * t)) (fun T => T 65 0 = nI (min 8 (nu + 1)) ∧ T 65 1 = nI ((la + 1) % 8) ∧ (∀ k, k ≠ 65 → k ≠ 67 + (la + 1) % 8 → T k = Sc k) ∧ T (67 + (la + 1) % 8) 0 = Sc 1 0 ∧ T (67 + (la + 1) % 8) 1 = Sc 1 6 ∧ T (67 + (la + 1) % 8) 2 = Sc 1 2 ∧ T (67 + (la + 1) % 8) 3 = Sc 1 3 ∧ T (67 + (la + 1) % 8) 4 = Sc (29 + 2 * t) 1 ∧ T (67 + (la + 1) % 8) 5 = Sc (29 + 2 * t) 2 ∧ T (67 + (la + 1) % 8) 6 = Sc (29 + 2 * t) 3 ∧ T (67 + (la + 1) % 8) 7 = Sc (29 + 2 * t) 5) := by
  unfold F4_remember
  simp only [bL_d, Nat.reduceAdd]
  have e1 : (Sc 65 1 + 1) - (Sc 65 1 + 1) / 8 * 8 = nI ((la + 1) % 8) := by
    rw [h1, nI_1, show (8 : Int32) = nI 8 from rfl, pk_rem (by omega) (by decide) (by decide)]
  have e2 : jmin 8 (nI nu + 1) = nI (min 8 (nu + 1)) := by
    rw [nI_1]
    unfold jmin
    by_cases q : nu + 1 < 8
    · rw [if_pos (xlt 8 (b := 8) rfl q (by decide)), Nat.min_eq_right (by omega)]
    · rw [if_neg (xnlt 8 (b := 8) rfl (by omega) (by omega)), Nat.min_eq_left (by omega)]; rfl
  rw [e1, sU_n (show ¬ (65 = 65 ∧ 0 = 1) by decide), h0, e2, sU_n (show ¬ (65 = 65 ∧ 1 = 0) by decide), sU_s, bG_t (vp_in_nI (by omega) (by omega)), nI_clamp (by omega)]
  have hr : (la + 1) % 8 < 8 := Nat.mod_lt _ (by decide)
  generalize (la + 1) % 8 = r at hr ⊢
  have n1 : ∀ (S : pS) j v, sU S (67 + r) j v 1 = S 1 := fun S j v => sU_ne (by omega)
  have n2 : ∀ (S : pS) j v, sU S (67 + r) j v (29 + 2 * t) = S (29 + 2 * t) := fun S j v => sU_ne (by omega)
  have n3 : ∀ (S : pS) j v, sU S 65 j v 1 = S 1 := fun S j v => sU_ne (by omega)
  have n4 : ∀ (S : pS) j v, sU S 65 j v (29 + 2 * t) = S (29 + 2 * t) := fun S j v => sU_ne (by omega)
  have n5 : ∀ (S : pS) j v, sU S (67 + r) j v 65 = S 65 := fun S j v => sU_ne (by omega)
  simp only [n1, n2, n3, n4]
  refine ok_s ⟨?_, ?_, fun k a b => ?_, ?_, ?_, ?_, ?_, ?_, ?_, ?_, ?_⟩
  · simp only [sU_get, Nat.reduceEqDiff, reduceCtorEq, and_true, and_false, false_and, true_and, and_self, if_true, if_false, ite_self, Nat.reduceAdd, Nat.reduceMul, Nat.reduceSub, Nat.reduceLT, Nat.reduceLeDiff, not_true_eq_false, not_false_eq_true]
    rw [if_neg (by omega)]
  · simp only [sU_get, Nat.reduceEqDiff, reduceCtorEq, and_true, and_false, false_and, true_and, and_self, if_true, if_false, ite_self, Nat.reduceAdd, Nat.reduceMul, Nat.reduceSub, Nat.reduceLT, Nat.reduceLeDiff, not_true_eq_false, not_false_eq_true]
    rw [if_neg (by omega)]
  · simp only [sU_ne a, sU_ne b]
  all_goals simp only [sU_get, Nat.reduceEqDiff, reduceCtorEq, and_true, and_false, false_and, true_and, and_self, if_true, if_false, ite_self, Nat.reduceAdd, Nat.reduceMul, Nat.reduceSub, Nat.reduceLT, Nat.reduceLeDiff, not_true_eq_false, not_false_eq_true]
theorem L_keeps {nu : Nat} {Sm : pS} (hnu : nu ≤ 8) (h0 : Sm 0 3 = nI nu) :
    Ok (F12_keeps Sm) (fun U => U 0 3 = nI (min 8 (nu + 1)) ∧ (∀ k, k ≠ 0 → k ≠ 3 → U k = Sm k) ∧ (∀ j, j ≠ 3 → U 0 j = Sm 0 j) ∧ (∀ i, i < 60 → U 3 (60 * (min 8 (nu + 1) - 1) + i) = Sm 1 i) ∧ ∀ j i, j + 1 < min 8 (nu + 1) → i < 60 → U 3 (60 * (min 8 (nu + 1) - 1 - (j + 1)) + i) = Sm 3 (60 * (nu - 1 - j) + i)) := by
  unfold F12_keeps
  simp only [bL_d]
  have fin : ∀ (m : Nat) (V : pS), m < 8 → V 0 3 = nI m → Ok (bB (bP (u2 fun (l1_4 : Int32) (S_5 : pS) => if 60 ≤ l1_4 then some (.inr S_5) else bG (vp_in l1_4 4296) (bG (vp_in ((60 * (S_5 0 3)) + l1_4) 480) (some (.inl (l1_4 + 1, sU S_5 3 (((60 * (S_5 0 3)) + l1_4).toNatClampNeg) (S_5 1 l1_4.toNatClampNeg)))))) ((0 : Int32), V)) (u1 fun (S_2 : pS) => some (sU S_2 0 3 ((S_2 0 3) + 1)))) (fun U => U 0 3 = nI (m + 1) ∧ (∀ k, k ≠ 0 → k ≠ 3 → U k = V k) ∧ (∀ j, j ≠ 3 → U 0 j = V 0 j) ∧ (∀ i, i < 60 → U 3 (60 * m + i) = V 1 i) ∧ ∀ j, j < 60 * m → U 3 j = V 3 j) := by
    intro m V hm hV
    refine ok_B (P := fun (U : pS) => U 0 3 = nI m ∧ (∀ k, k ≠ 3 → U k = V k) ∧ (∀ i, i < 60 → U 3 (60 * m + i) = V 1 i) ∧ ∀ j, j < 60 * m → U 3 j = V 3 j) (ok_P 60 (fun i s => ∃ (U : pS), s = (nI i, U) ∧ U 0 3 = nI m ∧ (∀ k, k ≠ 3 → U k = V k) ∧ (∀ i', i' < i → U 3 (60 * m + i') = V 1 i') ∧ ∀ j, j < 60 * m → U 3 j = V 3 j) ?_ ?_ ?_) ?_
    · exact ⟨V, rfl, hV, fun _ _ => rfl, fun i hi => absurd hi (Nat.not_lt_zero _), fun _ _ => rfl⟩
    · rintro i s hi ⟨U, rfl, h1, h2, h3, h4⟩
      simp only [u2_d]
      rw [if_neg (nge 60 (b := 60) rfl hi (by decide)), h1, lit_I 60, pk_mul, nI_add, bG_t (vp_in_nI (by omega) (by omega)), bG_t (vp_in_nI (by omega) (by omega)), nI_clamp (by omega), nI_clamp (by omega), nI_1]
      refine ok_s ⟨_, rfl, by rw [sU_ne (by decide)]; exact h1, fun k a => by rw [sU_ne a]; exact h2 k a, fun i' hi' => ?_, fun j hj => ?_⟩
      · rw [sU_get]
        by_cases e : i' = i
        · rw [if_pos ⟨rfl, by omega⟩, h2 1 (by decide), e]
        · rw [if_neg (by omega)]; exact h3 i' (by omega)
      · rw [sU_n (by omega)]; exact h4 j hj
    · rintro s ⟨U, rfl, hq⟩
      simp only [u2_d]
      rw [if_pos (by decide)]
      exact ok_s hq
    · rintro U ⟨h1, h2, h3, h4⟩
      simp only [u1_d]
      rw [h1, nI_1]
      refine ok_s ⟨sU_s _ _ _ _, fun k a b => by rw [sU_ne a]; exact h2 k b, fun j hj => by rw [sU_n (by omega), h2 0 (by decide)], fun i hi => by rw [sU_ne (by decide)]; exact h3 i hi, fun j hj => by rw [sU_ne (by decide)]; exact h4 j hj⟩
  by_cases h8 : nu = 8
  · subst h8
    rw [if_pos (show Sm 0 3 = 8 from h0)]
    refine ok_B (P := fun (U : pS) => (∀ k, k ≠ 3 → U k = Sm k) ∧ (∀ i, i < 420 → U 3 i = Sm 3 (i + 60))) (ok_P 420 (fun i s => ∃ (U : pS), s = (nI i, U) ∧ (∀ k, k ≠ 3 → U k = Sm k) ∧ (∀ i', i' < i → U 3 i' = Sm 3 (i' + 60)) ∧ ∀ j, i ≤ j → U 3 j = Sm 3 j) ?_ ?_ ?_) ?_
    · exact ⟨Sm, rfl, fun _ _ => rfl, fun i hi => absurd hi (Nat.not_lt_zero _), fun _ _ => rfl⟩
    · rintro i s hi ⟨U, rfl, h1, h2, h3⟩
      simp only [u2_d]
      rw [if_neg (nge 420 (b := 420) rfl hi (by decide)), lit_I 60, nI_add, bG_t (vp_in_nI (by omega) (by omega)), bG_t (vp_in_nI (by omega) (by omega)), nI_clamp (by omega), nI_clamp (by omega), nI_1]
      refine ok_s ⟨_, rfl, fun k a => by rw [sU_ne a]; exact h1 k a, fun i' hi' => ?_, fun j hj => ?_⟩
      · rw [sU_get]
        by_cases e : i' = i
        · rw [if_pos ⟨rfl, e⟩, e, h3 _ (by omega)]
        · rw [if_neg (by omega)]; exact h2 i' (by omega)
      · rw [sU_n (by omega)]; exact h3 j (by omega)
    · rintro s ⟨U, rfl, h1, h2, h3⟩
      simp only [u2_d]
      rw [if_pos (by decide)]
      exact ok_s ⟨h1, h2⟩
    · rintro U ⟨h1, h2⟩
      simp only [u1_d]
      have e : U 0 3 - 1 = nI 7 := by rw [h1 0 (by decide), h0]; rfl
      rw [e]
      refine ok_m (fin 7 _ (by decide) (sU_s _ _ _ _)) ?_
      rintro W ⟨w1, w2, w3, w4, w5⟩
      refine ⟨w1, fun k a b => by rw [w2 k a b, sU_ne a]; exact h1 k b, fun j hj => by rw [w3 j hj, sU_n (by omega), h1 0 (by decide)], fun i hi => ?_, fun j i hj hi => ?_⟩
      · have := w4 i hi
        rw [sU_ne (by decide), h1 1 (by decide)] at this
        exact this
      · have hj' : j + 1 < 8 := by omega
        rw [show 60 * (min 8 (8 + 1) - 1 - (j + 1)) + i = 60 * (6 - j) + i by omega, w5 _ (by omega), sU_ne (by decide), h2 _ (by omega), show 60 * (6 - j) + i + 60 = 60 * (8 - 1 - j) + i by omega]
  · rw [if_neg (show ¬ Sm 0 3 = 8 from by rw [h0]; exact xne 8 (b := 8) rfl h8 (by omega) (by decide))]
    refine ok_m (fin nu Sm (by omega) h0) ?_
    rintro W ⟨w1, w2, w3, w4, w5⟩
    have e : min 8 (nu + 1) = nu + 1 := Nat.min_eq_right (by omega)
    rw [e]
    refine ⟨w1, w2, w3, fun i hi => w4 i hi, fun j i hj hi => ?_⟩
    rw [show nu + 1 - 1 - (j + 1) = nu - 1 - j by omega]
    exact w5 _ (by omega)
/-- behind a throw or a pass -/
theorem Past_push {nu la nt : Nat} {ns nl ng rd tn nl2 : Nat} {Sc Sm T U T' U' : pS} (hW : RW 1 1 ns nt nl ng rd tn Sc Sm) (hP : PastR nu la nt Sc Sm) (hrd : rd ≤ 5) (htn : tn < nt)
    (hT : T 65 0 = nI (min 8 (nu + 1)) ∧ T 65 1 = nI ((la + 1) % 8) ∧ (∀ k, k ≠ 65 → k ≠ 67 + (la + 1) % 8 → T k = Sc k) ∧ T (67 + (la + 1) % 8) 0 = Sc 1 0 ∧ T (67 + (la + 1) % 8) 1 = Sc 1 6 ∧ T (67 + (la + 1) % 8) 2 = Sc 1 2 ∧ T (67 + (la + 1) % 8) 3 = Sc 1 3 ∧ T (67 + (la + 1) % 8) 4 = Sc (29 + 2 * tn) 1 ∧ T (67 + (la + 1) % 8) 5 = Sc (29 + 2 * tn) 2 ∧ T (67 + (la + 1) % 8) 6 = Sc (29 + 2 * tn) 3 ∧ T (67 + (la + 1) % 8) 7 = Sc (29 + 2 * tn) 5)
    (hU : U 0 3 = nI (min 8 (nu + 1)) ∧ (∀ k, k ≠ 0 → k ≠ 3 → U k = Sm k) ∧ (∀ j, j ≠ 3 → U 0 j = Sm 0 j) ∧ (∀ i, i < 60 → U 3 (60 * (min 8 (nu + 1) - 1) + i) = Sm 1 i) ∧ ∀ j i, j + 1 < min 8 (nu + 1) → i < 60 → U 3 (60 * (min 8 (nu + 1) - 1 - (j + 1)) + i) = Sm 3 (60 * (nu - 1 - j) + i))
    (ht : ∀ k, k = 65 ∨ (67 ≤ k ∧ k < 75) → T' k = T k) (hu0 : U' 0 3 = U 0 3) (hu3 : U' 3 = U 3) (hl : nl ≤ nl2 ∧ nl2 ≤ 100) (hl2 : U' 1 2 = nI nl2) (hp : U' 1 (4 + 7 * tn) = Sm 1 (4 + 7 * tn)) (ho : ∀ t, t < 8 → t ≠ tn → ∀ f, f < 5 → U' 1 (4 + 7 * t + f) = Sm 1 (4 + 7 * t + f)) (hn : ∀ t, t < 8 → U' 1 (82 + t) = Sm 1 (82 + t)) : PastR (min 8 (nu + 1)) ((la + 1) % 8) nt T' U' := by
  obtain ⟨p1, p2, p3, p4, p5, p6⟩ := hP
  obtain ⟨t0, t1, tk, r0, r1, r2, r3, r4, r5, r6, r7⟩ := hT
  obtain ⟨u0, uk, uj, ua, ub⟩ := hU
  have hnt := hW.2.1.2.1
  refine ⟨Nat.min_le_left _ _, Nat.mod_lt _ (by decide), by rw [hu0, u0], by rw [ht 65 (Or.inl rfl), t0], by rw [ht 65 (Or.inl rfl), t1], fun j hj => ?_⟩
  have hm8 : min 8 (nu + 1) ≤ 8 := Nat.min_le_left _ _
  have hE := hW.1
  obtain ⟨a1, a2, a3, nx, no, a4, a5, a6, a7, -⟩ := hW.2.2.1 tn htn
  have htn8 : tn < 8 := by omega
  cases j with
  | zero =>
    have eo : 67 + ((la + 1) % 8 + 8 - 0) % 8 = 67 + (la + 1) % 8 := by omega
    rw [eo, ht _ (by omega)]
    have e0 : ∀ i, i < 60 → U' 3 (60 * (min 8 (nu + 1) - 1 - 0) + i) = Sm 1 i := fun i hi => by rw [hu3]; exact ua i hi
    refine ⟨rd, tn, nl, nl2, nx, no, hrd, htn, hl, a4, a5, ?_, ?_, ?_, ?_, ?_, ?_, ?_, ?_, ?_, ?_, ?_, ?_, ?_, ?_, ?_, ?_, ?_, ?_⟩
    · show U' 3 (60 * (min 8 (nu + 1) - 1 - 0) + 0) = nI rd
      rw [e0 0 (by decide)]; exact hW.2.1.2.2.2.2.2.2.2.2.2.2.1
    · show U' 3 (60 * (min 8 (nu + 1) - 1 - 0) + 1) = nI tn
      rw [e0 1 (by decide)]; exact hW.2.1.2.2.2.2.2.2.2.2.2.2.2.1
    · show U' 3 (60 * (min 8 (nu + 1) - 1 - 0) + 2) = nI nl
      rw [e0 2 (by decide)]; exact hW.2.1.2.2.2.2.2.2.2.2.1
    · rw [if_pos rfl]; exact hl2
    · show U' 1 (82 + tn) = nI no
      rw [hn tn htn8]; exact a7
    · show U' 3 _ = nI nx
      rw [e0 _ (by omega)]; exact a6
    · show _ = U' 3 _
      rw [e0 3 (by decide), r0]; exact hE 3 1 0 rfl
    · show _ = U' 3 _
      rw [e0 2 (by decide), r1]; exact hE 2 1 6 rfl
    · show _ = U' 3 _
      rw [e0 0 (by decide), r2]; exact hE 0 1 2 rfl
    · show _ = U' 3 _
      rw [e0 1 (by decide), r3]; exact hE 1 1 3 rfl
    · show _ = U' 3 _
      rw [e0 _ (by omega), r4]; exact RE_t1 hE htn8
    · show _ = U' 3 _
      rw [e0 _ (by omega), r5]; exact RE_t2 hE htn8
    · show _ = U' 3 _
      rw [e0 _ (by omega), r6]; exact RE_t3 hE htn8
    · show _ = U' 3 _
      rw [e0 _ (by omega), r7]; exact RE_t5 hE htn8
    · show isN (U' 3 _) 1001
      rw [e0 _ (by omega)]; exact a2
    · show isN (U' 3 _) 475201
      rw [e0 _ (by omega)]; exact a3
    · show U' 3 _ = _
      rw [e0 _ (by omega), if_pos rfl, hp]
    · intro t ht hne f hf
      show U' 3 _ = _
      rw [e0 _ (by omega), if_pos rfl, ho t ht hne f hf]
  | succ j =>
    have hj2 : j < nu := by omega
    have eo : 67 + ((la + 1) % 8 + 8 - (j + 1)) % 8 = 67 + (la + 8 - j) % 8 := by omega
    rw [eo, ht _ (by omega), tk _ (by omega) (by omega)]
    have e0 : ∀ i, i < 60 → U' 3 (60 * (min 8 (nu + 1) - 1 - (j + 1)) + i) = Sm 3 (60 * (nu - 1 - j) + i) := fun i hi => by rw [hu3]; exact ub j i hj hi
    have e1 : ∀ i, i < 60 → (if j + 1 = 0 then fun i => U' 1 i else fun i => U' 3 (60 * (min 8 (nu + 1) - (j + 1)) + i)) i = (if j = 0 then fun i => Sm 1 i else fun i => Sm 3 (60 * (nu - j) + i)) i := by
      intro i hi
      rw [if_neg (by omega)]
      cases j with
      | zero =>
        rw [if_pos rfl]
        show U' 3 _ = Sm 1 i
        rw [hu3]; exact ua i hi
      | succ j =>
        rw [if_neg (by omega)]
        show U' 3 _ = Sm 3 _
        rw [hu3, show min 8 (nu + 1) - (j + 1 + 1) = min 8 (nu + 1) - 1 - (j + 1) by omega, ub j i (by omega) hi, show nu - 1 - j = nu - (j + 1) by omega]
    have q := row_m (p6 j hj2) hnt e1 (no' := fun t => U' 1 (82 + t)) (fun t ht => hn t ht)
    obtain ⟨rd, tn, nl, nl2, nx, m, a1, a2, a3, a4, a5, a6, a7, a8, a9, a10, a11, a12, a13, a14, a15, a16, a17, a18, a19, a20, a21, a22, a23⟩ := q
    simp only at a6 a7 a8 a11 a12 a13 a14 a15 a16 a17 a18 a19 a20 a21 a22 a23
    refine ⟨rd, tn, nl, nl2, nx, m, a1, a2, a3, a4, a5, ?_, ?_, ?_, a9, a10, ?_, ?_, ?_, ?_, ?_, ?_, ?_, ?_, ?_, ?_, ?_, ?_, ?_⟩
    · show U' 3 _ = _
      rw [e0 0 (by decide)]; exact a6
    · show U' 3 _ = _
      rw [e0 1 (by decide)]; exact a7
    · show U' 3 _ = _
      rw [e0 2 (by decide)]; exact a8
    · show U' 3 _ = _
      rw [e0 _ (by omega)]; exact a11
    · show _ = U' 3 _
      rw [e0 3 (by decide)]; exact a12
    · show _ = U' 3 _
      rw [e0 2 (by decide)]; exact a13
    · show _ = U' 3 _
      rw [e0 0 (by decide)]; exact a14
    · show _ = U' 3 _
      rw [e0 1 (by decide)]; exact a15
    · show _ = U' 3 _
      rw [e0 _ (by omega)]; exact a16
    · show _ = U' 3 _
      rw [e0 _ (by omega)]; exact a17
    · show _ = U' 3 _
      rw [e0 _ (by omega)]; exact a18
    · show _ = U' 3 _
      rw [e0 _ (by omega)]; exact a19
    · show isN (U' 3 _) _
      rw [e0 _ (by omega)]; exact a20
    · show isN (U' 3 _) _
      rw [e0 _ (by omega)]; exact a21
    · show U' 3 _ = _
      rw [e0 _ (by omega)]; exact a22
    · intro t ht hne f hf
      show U' 3 _ = _
      rw [e0 _ (by omega)]; exact a23 t ht hne f hf

/-! what one would reach -/
/-- the reference's world while it goes on in thought; Sm: as it was -/
def WI (nt rd tn : Nat) (Sm U : pS) : Prop := rd ≤ 6 ∧ (tn < nt ∨ (tn = 0 ∧ nt = 0 ∧ rd = 0)) ∧ U 1 0 = nI rd ∧ U 1 1 = nI tn ∧ (∀ k, k ≠ 0 → k ≠ 1 → k ≠ 8 → k ≠ 9 → U k = Sm k) ∧ (∀ j, j < 27 → U 0 j = Sm 0 j) ∧ (∀ j, 60 ≤ j → U 1 j = Sm 1 j) ∧ ∀ s, s < nt → U 1 (4 + 7 * s) = Sm 1 (4 + 7 * s) ∧ isN (U 1 (5 + 7 * s)) 1001 ∧ isN (U 1 (6 + 7 * s)) 475201 ∧ ∃ nx no, nx ≤ no ∧ no ≤ 12 ∧ Sm 1 (82 + s) = nI no ∧ U 1 (8 + 7 * s) = nI nx
theorem VR_w {ns nt rd tn : Nat} {Sc Sm T U : pS} (hV : VR ns Sc Sm) (h : WI nt rd tn Sm U) (hc : fC Sc T) : VR ns T U := by
  obtain ⟨-, -, -, -, -, -, h60, -⟩ := h
  obtain ⟨v0, v1, v2, v3, v4, v5⟩ := VR_fr hV hc (fM_r Sm)
  refine ⟨v0, fun j k i hl hj => by rw [h60 j hj]; exact v1 j k i hl hj, by rw [h60 67 (by decide)]; exact v2, LR_m v3 (by decide) (fun _ _ _ => rfl) (fun j a b => h60 j (by omega)), LR_m v4 (by decide) (fun _ _ _ => rfl) (fun j a b => h60 j (by omega)), LR_m v5 (by decide) (fun _ _ _ => rfl) (fun j a b => h60 j (by omega))⟩
theorem next_m {nt rd tn : Nat} {V : pS} (hn : nt ≤ 8) (ht : tn < nt) (hr : rd ≤ 5) (h0 : V 1 0 = nI rd) (h1 : V 1 1 = nI tn) (h68 : V 1 68 = nI nt) : ∃ rd' tn', ((tn + 1 < nt ∧ rd' = rd ∧ tn' = tn + 1) ∨ (tn + 1 = nt ∧ rd' = rd + 1 ∧ tn' = 0)) ∧ F12_nextTurn V 1 0 = nI rd' ∧ F12_nextTurn V 1 1 = nI tn' ∧ (∀ k, k ≠ 1 → F12_nextTurn V k = V k) ∧ ∀ j, 1 < j → F12_nextTurn V 1 j = V 1 j := by
  unfold F12_nextTurn
  simp only [bL_d, h1, nI_1, sU_get, Nat.reduceEqDiff, reduceCtorEq, and_true, and_false, false_and, true_and, and_self, if_true, if_false, ite_self, Nat.reduceAdd, Nat.reduceMul, Nat.reduceSub, Nat.reduceLT, Nat.reduceLeDiff, not_true_eq_false, not_false_eq_true, h68, h0]
  by_cases h : tn + 1 < nt
  · rw [if_neg (nI_ge h (by omega))]
    exact ⟨rd, tn + 1, Or.inl ⟨h, rfl, rfl⟩, by rw [sU_n (by decide), h0], sU_s _ _ _ _, fun k hk => sU_ne hk, fun j hj => sU_n (by omega)⟩
  · rw [if_pos (nI_le (by omega) (by omega)), sU_2]
    exact ⟨rd + 1, 0, Or.inr ⟨by omega, rfl, rfl⟩, sU_s _ _ _ _, by rw [sU_n (by decide), sU_s]; rfl, fun k hk => by rw [sU_ne hk, sU_ne hk], fun j hj => by rw [sU_n (by omega), sU_n (by omega)]⟩
/-- one turn in thought -/
theorem L_meant {ns nt nl ng rd0 tn0 rd tn : Nat} {Sc Sm Um U : pS} (hW : RW 1 1 ns nt nl ng rd0 tn0 Sc Sm) (hUm : ∀ k, k ≠ 10 → Um k = Sm k) (h : WI nt rd tn Um U) (hrd : rd ≤ 5) (htn : tn < nt) :
    ∃ (U' : pS) (rd' tn' nx no : Nat) (z : Int32), F12_isMeant U = some U' ∧ WI nt rd' tn' Um U' ∧ ((tn + 1 < nt ∧ rd' = rd ∧ tn' = tn + 1) ∨ (tn + 1 = nt ∧ rd' = rd + 1 ∧ tn' = 0)) ∧ (z = 0 ∨ z = 1)
      ∧ nx ≤ no ∧ no ≤ 12 ∧ Sm 1 (82 + tn) = nI no ∧ U 1 (8 + 7 * tn) = nI nx ∧ U' 1 (8 + 7 * tn) = nI (min no (nx + 1))
      ∧ (∀ s, s < nt → s ≠ tn → ∀ f, f < 5 → U' 1 (4 + f + 7 * s) = U 1 (4 + f + 7 * s))
      ∧ (∀ T, fC Sc T → F8_wouldThrow T (29 + 2 * tn) (nI nx) (U 1 (6 + 7 * tn)) (U 1 (5 + 7 * tn)) = some (1 - z))
      ∧ (z = 1 → ∀ f, f < 4 → U' 1 (4 + f + 7 * tn) = U 1 (4 + f + 7 * tn))
      ∧ (z = 0 → ∃ f a s p b : Nat, (∀ T, fC Sc T → F8_order T (29 + 2 * tn) (nI nx) 0 = some (nI f) ∧ F8_order T (29 + 2 * tn) (nI nx) 1 = some (nI a) ∧ F8_order T (29 + 2 * tn) (nI nx) 2 = some (nI s) ∧ F8_order T (29 + 2 * tn) (nI nx) 3 = some (nI p)) ∧ jmin (nI f + nI p) (Sm 1 (4 + 7 * tn)) = nI b
        ∧ U' 1 (7 + 7 * tn) = U 1 (7 + 7 * tn) + 1
        ∧ (∀ T, fC Sc T → AV 63 T (nI b) (nI p) (nI a) (U 1 (5 + 7 * tn)) (Sm 1 (4 + 7 * tn)) (U 1 (7 + 7 * tn)) (U 1 (6 + 7 * tn) / 100) (nI rd) → ∃ rw1 T', F0_tell T 63 15 1 = some (rw1, T') ∧ fC T T' ∧ U' 1 (5 + 7 * tn) = jmin 1000 (U 1 (5 + 7 * tn) + rw1))
        ∧ (∀ T, fC Sc T → ∃ gf T', F7_goodFar T 59 1 (nI b) (nI a) (nI s) (Sm 1 60) = some (gf, T') ∧ fC T T' ∧ U' 1 (6 + 7 * tn) = jmax (U 1 (6 + 7 * tn)) gf)) := by
  have h2 := hW.2.1
  have hnt := h2.2.1
  have ht8 : tn < 8 := by omega
  have hE := hW.1
  have hV := VR_of hW
  have hVm : VR ns Sc Um := VR_fr hV (fC_r Sc) ⟨fun k _ hk => hUm k (fun e => hk (by unfold scM; omega)), fun j _ => by rw [hUm 0 (by decide)]⟩
  have m1 : Um 1 = Sm 1 := hUm 1 (by decide)
  obtain ⟨b1, b2, b3, nx0, no, -, b5, -, b7, b8⟩ := hW.2.2.1 tn htn
  have hI := h
  obtain ⟨w1, w2, w3, w4, w5, w6, w7, w8⟩ := h
  obtain ⟨t1, t2, t3, nx, no', t4, t12, t5, t6⟩ := w8 tn htn
  have e5 : no' = no := by
    rw [m1, b7] at t5
    exact (nI_inj t5 (by omega) (by omega)).symm
  subst e5
  have h60 : ∀ j, 60 ≤ j → U 1 j = Sm 1 j := fun j hj => by rw [w7 j hj, m1]
  have e4 : Sc (29 + 2 * tn) 4 = nI no' := (RE_t4 hE ht8).trans b7
  have hpas : ∀ T, fC Sc T → ∃ z, (z = 0 ∨ z = 1) ∧ F8_wouldThrow T (29 + 2 * tn) (nI nx) (U 1 (6 + 7 * tn)) (U 1 (5 + 7 * tn)) = some (1 - z) ∧ F12_passesBy U (nI tn) (nI nx) (nI (150 + 60 * tn + 5 * nx)) = some z ∧ (z = 0 → nx < no' ∧ ¬ U 1 (150 + 60 * tn + 5 * nx) = -1 ∧ ¬ U 1 (5 + 7 * tn) = 1000) := fun T hT =>
    L_passes (ns := ns) ht8 b5 t4 (by rw [hT _ (by unfold scC; omega)]; exact e4) (by rw [h60 _ (by omega)]; exact b7) rfl rfl t2 (fun hlt => by
      have q := b8 nx hlt
      unfold ordOK at q
      rw [show 1 + 29 + 2 * tn = 29 + 2 * tn + 1 by omega] at q
      rw [h60 _ (by omega), h60 _ (by omega), hT _ (by unfold scC; omega)]
      refine ⟨q.1, ?_⟩
      rcases q.2 with q | q
      · exact Or.inl q
      · exact Or.inr q.2.2.2.2.2.2.2)
  obtain ⟨z, hz, -, p2, p3⟩ := hpas Sc (fC_r Sc)
  have hp1 : ∀ T, fC Sc T → F8_wouldThrow T (29 + 2 * tn) (nI nx) (U 1 (6 + 7 * tn)) (U 1 (5 + 7 * tn)) = some (1 - z) := fun T hT => by
    obtain ⟨z', -, q1, q2, -⟩ := hpas T hT
    rw [p2] at q2
    cases q2
    exact q1
  -- the end of the turn
  have fin : ∀ X : pS, (∀ k, k ≠ 0 → k ≠ 1 → k ≠ 8 → k ≠ 9 → X k = Um k) → (∀ j, j < 27 → X 0 j = Um 0 j) → (∀ j, 60 ≤ j → X 1 j = Um 1 j) → X 1 0 = nI rd → X 1 1 = nI tn → X 1 (8 + 7 * tn) = nI nx → (∀ s, s < nt → s ≠ tn → ∀ f, f < 5 → X 1 (4 + f + 7 * s) = U 1 (4 + f + 7 * s)) → X 1 (4 + 7 * tn) = U 1 (4 + 7 * tn) → isN (X 1 (5 + 7 * tn)) 1001 → isN (X 1 (6 + 7 * tn)) 475201 →
      ∃ (U' : pS) (rd' tn' : Nat), (bG (vp_in (nI (82 + tn)) 4296) (if X 1 (nI (82 + tn)).toNatClampNeg ≤ nI nx then some (F12_nextTurn X) else bB (F12_gives X (nI tn) 4 (nI nx + 1)) fun S_8 => some (F12_nextTurn S_8))) = some U' ∧ WI nt rd' tn' Um U' ∧ ((tn + 1 < nt ∧ rd' = rd ∧ tn' = tn + 1) ∨ (tn + 1 = nt ∧ rd' = rd + 1 ∧ tn' = 0)) ∧ U' 1 (8 + 7 * tn) = nI (min no' (nx + 1)) ∧ (∀ s, s < nt → s ≠ tn → ∀ f, f < 5 → U' 1 (4 + f + 7 * s) = U 1 (4 + f + 7 * s)) ∧ ∀ f, f < 4 → U' 1 (4 + f + 7 * tn) = X 1 (4 + f + 7 * tn) := by
    intro X x1 x2 x3 x4 x5 x6 x7 x8 x9 x10
    have x82 : X 1 (82 + tn) = nI no' := by rw [x3 _ (by omega), m1]; exact b7
    let V : pS := sU X 1 (8 + 7 * tn) (nI (min no' (nx + 1)))
    have hV1 : ∀ j, j ≠ 8 + 7 * tn → V 1 j = X 1 j := fun j hj => sU_n (by omega)
    have hVk : ∀ k, k ≠ 1 → V k = X k := fun k hk => sU_ne hk
    obtain ⟨rd', tn', n0, n1, n2, n3, n4⟩ := next_m (V := V) hnt htn hrd (by rw [hV1 _ (by omega)]; exact x4) (by rw [hV1 _ (by omega)]; exact x5) (by rw [hV1 _ (by omega), x3 _ (by decide), m1]; exact h2.2.2.2.2.2.2.2.1)
    have hex : (bG (vp_in (nI (82 + tn)) 4296) (if X 1 (nI (82 + tn)).toNatClampNeg ≤ nI nx then some (F12_nextTurn X) else bB (F12_gives X (nI tn) 4 (nI nx + 1)) fun S_8 => some (F12_nextTurn S_8))) = some (F12_nextTurn V) := by
      rw [bG_t (vp_in_nI (by omega) (by omega)), nI_clamp (by omega), x82]
      by_cases e : nx = no'
      · rw [if_pos (nI_le (by omega) (by omega))]
        have : V = X := by
          show sU X 1 (8 + 7 * tn) _ = X
          rw [Nat.min_eq_left (by omega), ← e, ← x6, sU_id]
        rw [this]
      · rw [if_neg (nI_ge (by omega) (by omega)), giv4 _ _ ht8, bB_s, nI_1]
        have : V = sU X 1 (8 + 7 * tn) (nI (nx + 1)) := by
          show sU X 1 (8 + 7 * tn) _ = _
          rw [Nat.min_eq_right (by omega)]
        rw [this]
    have hN : ∀ j, 1 < j → j ≠ 8 + 7 * tn → F12_nextTurn V 1 j = X 1 j := fun j a b => by rw [n4 j a, hV1 j b]
    have hNx : F12_nextTurn V 1 (8 + 7 * tn) = nI (min no' (nx + 1)) := by
      rw [n4 _ (by omega)]; exact sU_s _ _ _ _
    have hfo : ∀ s, s < nt → s ≠ tn → ∀ f, f < 5 → F12_nextTurn V 1 (4 + f + 7 * s) = U 1 (4 + f + 7 * s) := fun s hs hne f hf => by
      rw [hN _ (by omega) (by omega)]; exact x7 s hs hne f hf
    refine ⟨_, rd', tn', hex, ⟨by omega, by omega, n1, n2, fun k a b c d => ?_, fun j a => ?_, fun j a => ?_, fun s hs => ?_⟩, n0, hNx, hfo, fun f hf => hN _ (by omega) (by omega)⟩
    · rw [n3 k b, hVk k b]; exact x1 k a b c d
    · rw [n3 0 (by decide), hVk 0 (by decide)]; exact x2 j a
    · rw [hN _ (by omega) (by omega)]; exact x3 j a
    · by_cases e : s = tn
      · subst e
        refine ⟨?_, ?_, ?_, min no' (nx + 1), no', Nat.min_le_left _ _, b5, t5, hNx⟩
        · rw [hN _ (by omega) (by omega), x8]; exact t1
        · rw [hN _ (by omega) (by omega)]; exact x9
        · rw [hN _ (by omega) (by omega)]; exact x10
      · obtain ⟨s1, s2, s3, mx, mo, s4, s5, s6, s7⟩ := w8 s hs
        have q0 := hfo s hs e 0 (by decide)
        have q1 := hfo s hs e 1 (by decide)
        have q2 := hfo s hs e 2 (by decide)
        have q4 := hfo s hs e 4 (by decide)
        simp only [Nat.add_zero, Nat.reduceAdd] at q0 q1 q2 q4
        exact ⟨by rw [q0]; exact s1, by rw [q1]; exact s2, by rw [q2]; exact s3, mx, mo, s4, s5, s6, by rw [q4]; exact s7⟩
  generalize hX : F12_isMeant U = E
  unfold F12_isMeant at hX
  rw [w4, bL_d (nI tn), own4 _ ht8, bB_s, t6, lit_I 150, lit_I 60, lit_I 5, pk_mul, pk_mul, nI_add, nI_add, bL_d (nI (150 + 60 * tn + 5 * nx)), p2, bB_s, lit_I 82, nI_add] at hX
  simp only [bL_d] at hX
  rcases hz with rfl | rfl
  · rw [if_pos rfl] at hX
    obtain ⟨hlt, hne, -⟩ := p3 rfl
    have q := b8 nx hlt
    unfold ordOK at q
    rw [show 1 + 29 + 2 * tn = 29 + 2 * tn + 1 by omega] at q
    rw [h60 _ (by omega)] at hne
    obtain ⟨q0, q⟩ := q
    obtain ⟨⟨f, hf, ef⟩, ⟨a, ha, ea⟩, ⟨s, hs, es⟩, ⟨p, hp, ep⟩, d1, d2, d3, -⟩ := q.resolve_left hne
    obtain ⟨b, hb, eb⟩ := pow_m (f := f) (p := p) hf hp b1
    simp only [lit_I 1, lit_I 2, lit_I 3, nI_add] at hX
    rw [bG_t (vp_in_nI (by omega) (by omega)), bG_t (vp_in_nI (by omega) (by omega)), show F12_own U (nI tn) 0 = F12_own U (nI tn) 0 from rfl, own0 _ ht8, bB_s, nI_clamp (n := 150 + 60 * tn + 5 * nx) (by omega), nI_clamp (n := 150 + 60 * tn + 5 * nx + 3) (by omega), h60 _ (by omega), h60 _ (by omega), ef, ep, t1, m1, les, eb, bG_t (vp_in_nI (by omega) (by omega)), nI_clamp (n := 150 + 60 * tn + 5 * nx + 1) (by omega), h60 _ (by omega), ea, show F12_own U (nI tn) (nI 1) = F12_own U (nI tn) 1 from rfl, own1 _ ht8, bB_s, show F12_own U (nI tn) (nI 3) = F12_own U (nI tn) 3 from rfl, own3 _ ht8, bB_s, armF ht8, bB_s] at hX
    -- the elbow wears
    let T0 : pS := sR Sc 64 (fun n => af U tn (nI b) (nI p) (nI a) (U 1 (5 + 7 * tn)) (U 1 (7 + 7 * tn)) 9 (10 + n))
    have hT0 : fC Sc T0 := fun k hk => sR_ne (fun e => hk (by unfold scC; omega))
    have hVU := VR_w hVm hI (fC_r Sc)
    have hLR : ∀ T, fC Sc T → LR 15 1 1 T (af U tn (nI b) (nI p) (nI a) (U 1 (5 + 7 * tn)) (U 1 (7 + 7 * tn))) ∧ T 15 0 = af U tn (nI b) (nI p) (nI a) (U 1 (5 + 7 * tn)) (U 1 (7 + 7 * tn)) 1 641 := fun T hT => by
      have := VR_w hVm hI hT
      rw [af_ne (by decide)]
      exact ⟨LR_fr this.2.2.2.2.1 (fun _ _ _ => rfl) (af_ne (by decide)), this.2.1 641 15 0 rfl (by decide)⟩
    obtain ⟨⟨r, T1⟩, ⟨_, U2⟩, -, k2, k3, kN, -, k4⟩ := L_arm (A := 63) (w := 1) (T := T0) (U := af U tn (nI b) (nI p) (nI a) (U 1 (5 + 7 * tn)) (U 1 (7 + 7 * tn))) (by decide) (hLR T0 hT0).1 (hLR T0 hT0).2 (by decide) (fun n hn => by
      show sR Sc 64 _ 64 n = _
      rw [sR_at])
    simp only at k3 kN k4
    subst k3
    have k2' : F12_lawSays (af U tn (nI b) (nI p) (nI a) (U 1 (5 + 7 * tn)) (U 1 (7 + 7 * tn))) 1 25 0 1000 = some (r, U2) := k2
    have u21 : U2 1 = U 1 := by rw [k4 1 (by decide), af_ne (by decide)]
    have u20 : U2 0 = U 0 := by rw [k4 0 (by decide), af_ne (by decide)]
    have u2k : ∀ k, k ≠ 8 → k ≠ 9 → U2 k = U k := fun k a b => by rw [k4 k a, af_ne b]
    rw [show F12_own (af U tn (nI b) (nI p) (nI a) (U 1 (5 + 7 * tn)) (U 1 (7 + 7 * tn))) (nI tn) (nI 1) = F12_own (af U tn (nI b) (nI p) (nI a) (U 1 (5 + 7 * tn)) (U 1 (7 + 7 * tn))) (nI tn) 1 from rfl, own1 _ ht8, bB_s, af_ne (by decide), wear_d, k2', bB2_s, les] at hX
    rw [show F12_gives U2 (nI tn) (nI 1) (jmin 1000 (U 1 (5 + 7 * tn) + r)) = F12_gives U2 (nI tn) 1 (jmin 1000 (U 1 (5 + 7 * tn) + r)) from rfl, giv1 _ _ ht8, bB_s] at hX
    -- the flight
    let S18 : pS := sU U2 1 (5 + 7 * tn) (jmin 1000 (U 1 (5 + 7 * tn) + r))
    have s1 : ∀ j, j ≠ 5 + 7 * tn → S18 1 j = U 1 j := fun j hj => by
      show sU U2 1 (5 + 7 * tn) _ 1 j = _
      rw [sU_n (by omega), u21]
    have sk : ∀ k, k ≠ 1 → S18 k = U2 k := fun k hk => sU_ne hk
    have hWI18 : WI nt rd tn Um S18 := by
      refine ⟨w1, w2, by rw [s1 _ (by omega)]; exact w3, by rw [s1 _ (by omega)]; exact w4, fun k c0 c1 c8 c9 => by rw [sk k c1, u2k k c8 c9]; exact w5 k c0 c1 c8 c9, fun j hj => by rw [sk 0 (by decide), u20]; exact w6 j hj, fun j hj => by rw [s1 j (by omega)]; exact w7 j hj, fun s' hs' => ?_⟩
      obtain ⟨y1, y2, y3, mx, mo, y4, y5, y6, y7⟩ := w8 s' hs'
      refine ⟨by rw [s1 _ (by omega)]; exact y1, ?_, by rw [s1 _ (by omega)]; exact y3, mx, mo, y4, y5, y6, by rw [s1 _ (by omega)]; exact y7⟩
      by_cases e : s' = tn
      · subst e
        show isN (sU U2 1 (5 + 7 * s') _ 1 (5 + 7 * s')) 1001
        rw [sU_s]; exact wear_m t2 kN
      · rw [s1 _ (by omega)]; exact y2
    have e18 : (sU U2 1 (5 + 7 * tn) (jmin 1000 (U 1 (5 + 7 * tn) + r))) = S18 := rfl
    have S18w : S18 1 (5 + 7 * tn) = jmin 1000 (U 1 (5 + 7 * tn) + r) := sU_s _ _ _ _
    rw [e18, show F12_own S18 (nI tn) (nI 2) = F12_own S18 (nI tn) 2 from rfl, own2 _ ht8, bB_s, bG_t (vp_in_nI (by omega) (by omega)), wea0, bB_s, nI_clamp (n := 150 + 60 * tn + 5 * nx + 2) (by omega), s1 _ (by omega), s1 _ (by omega), s1 _ (by omega), s1 _ (by omega), h60 _ (by omega), h60 _ (by omega), h60 60 (by decide), ea, es] at hX
    generalize S18 = S18 at hWI18 s1 sk S18w hX
    obtain ⟨⟨gf, T2⟩, ⟨_, U3⟩, -, g2, g3, gN, -, g4⟩ := L_goodFar (f := b) (a := a) (wi := Sm 1 60) (by omega) (by omega) hs (VR_w hVm hWI18 (fC_r Sc))
    simp only at g3 gN g4
    subst g3
    have v1 : U3 1 = S18 1 := g4.1 1 (by decide) (by decide) (by decide)
    rw [g2, bB2_s, show F12_gives U3 (nI tn) (nI 2) (F12_greater (U 1 (6 + 7 * tn)) gf) = F12_gives U3 (nI tn) 2 (F12_greater (U 1 (6 + 7 * tn)) gf) from rfl, giv2 _ _ ht8, bB_s, gre] at hX
    rw [show F12_own (sU U3 1 (6 + 7 * tn) (jmax (U 1 (6 + 7 * tn)) gf)) (nI tn) (nI 3) = F12_own (sU U3 1 (6 + 7 * tn) (jmax (U 1 (6 + 7 * tn)) gf)) (nI tn) 3 from rfl, own3 _ ht8, bB_s, sU_n (by omega), v1, s1 _ (by omega)] at hX
    rw [show F12_gives (sU U3 1 (6 + 7 * tn) (jmax (U 1 (6 + 7 * tn)) gf)) (nI tn) (nI 3) (U 1 (7 + 7 * tn) + nI 1) = F12_gives (sU U3 1 (6 + 7 * tn) (jmax (U 1 (6 + 7 * tn)) gf)) (nI tn) 3 (U 1 (7 + 7 * tn) + nI 1) from rfl, giv3 _ _ ht8, bB_s] at hX
    let X : pS := sU (sU U3 1 (6 + 7 * tn) (jmax (U 1 (6 + 7 * tn)) gf)) 1 (7 + 7 * tn) (U 1 (7 + 7 * tn) + nI 1)
    have X1 : ∀ j, j ≠ 6 + 7 * tn → j ≠ 7 + 7 * tn → j ≠ 5 + 7 * tn → X 1 j = U 1 j := fun j c1 c2 c3 => by
      show sU (sU U3 1 (6 + 7 * tn) _) 1 (7 + 7 * tn) _ 1 j = _
      rw [sU_n (by omega), sU_n (by omega), v1, s1 j c3]
    have X5 : X 1 (5 + 7 * tn) = jmin 1000 (U 1 (5 + 7 * tn) + r) := by
      show sU (sU U3 1 (6 + 7 * tn) _) 1 (7 + 7 * tn) _ 1 (5 + 7 * tn) = _
      rw [sU_n (by omega), sU_n (by omega), v1, S18w]
    have X6 : X 1 (6 + 7 * tn) = jmax (U 1 (6 + 7 * tn)) gf := by
      show sU (sU U3 1 (6 + 7 * tn) _) 1 (7 + 7 * tn) _ 1 (6 + 7 * tn) = _
      rw [sU_n (by omega), sU_s]
    have X7 : X 1 (7 + 7 * tn) = U 1 (7 + 7 * tn) + nI 1 := sU_s _ _ _ _
    have Xk : ∀ k, k ≠ 1 → X k = U3 k := fun k hk => by
      show sU (sU U3 1 (6 + 7 * tn) _) 1 (7 + 7 * tn) _ k = _
      rw [sU_ne hk, sU_ne hk]
    have hbest : isN (jmax (U 1 (6 + 7 * tn)) gf) 475201 := by
      rcases gN with rfl | gN
      · obtain ⟨i, hi, ei⟩ := t3
        rw [ei]
        unfold jmax
        rw [if_neg (fun q => absurd (Int32.lt_of_le_of_lt (nI_pos' (by omega)) q) (by decide))]
        exact ⟨i, hi, rfl⟩
      · exact jmax_N t3 gN
    have eX : (sU (sU U3 1 (6 + 7 * tn) (jmax (U 1 (6 + 7 * tn)) gf)) 1 (7 + 7 * tn) (U 1 (7 + 7 * tn) + nI 1)) = X := rfl
    rw [eX] at hX
    obtain ⟨U', rd', tn', c1, c2, c3, c4, c5, c6⟩ := fin X (fun k a0 a1 a8 a9 => by rw [Xk k a1, g4.1 k a0 a8 a9, sk k a1, u2k k a8 a9]; exact w5 k a0 a1 a8 a9) (fun j hj => by rw [Xk 0 (by decide), g4.2 j (Or.inl hj), sk 0 (by decide), u20]; exact w6 j hj) (fun j hj => by rw [X1 j (by omega) (by omega) (by omega)]; exact w7 j hj) (by rw [X1 _ (by omega) (by omega) (by omega)]; exact w3) (by rw [X1 _ (by omega) (by omega) (by omega)]; exact w4) (by rw [X1 _ (by omega) (by omega) (by omega)]; exact t6) (fun s' hs' hne f' hf' => X1 _ (by omega) (by omega) (by omega)) (X1 _ (by omega) (by omega) (by omega)) (by rw [X5]; exact wear_m t2 kN) (by rw [X6]; exact hbest)
    rw [nI_1 nx] at c1
    rw [c1, bG_t (vp_in_nI (by omega) (by omega)), bG_t (vp_in_nI (by omega) (by omega))] at hX
    refine ⟨U', rd', tn', nx, no', 0, hX.symm, c2, c3, Or.inl rfl, t4, b5, b7, t6, c4, c5, hp1, fun q => absurd q (by decide), fun _ => ⟨f, a, s, p, b, fun T hT => ?_, eb, ?_, fun T hT hA => ?_, fun T hT => ?_⟩⟩
    · have hT4 : T (29 + 2 * tn) 4 = nI no' := by rw [hT _ (by unfold scC; omega)]; exact e4
      have hTp : T (29 + 2 * tn + 1) = Sc (29 + 2 * tn + 1) := hT _ (by unfold scC; omega)
      refine ⟨?_, ?_, ?_, ?_⟩
      · rw [ord_t (v := 0) (p := 0) hT4 b5 hlt rfl (by decide), hTp, ← ef, ← q0]; rfl
      · rw [ord_t (v := 1) (p := 1) hT4 b5 hlt rfl (by decide), hTp, ← ea, ← d1]
      · rw [ord_t (v := 2) (p := 2) hT4 b5 hlt rfl (by decide), hTp, ← es, ← d2]
      · rw [ord_t (v := 3) (p := 3) hT4 b5 hlt rfl (by decide), hTp, ← ep, ← d3]
    · have := c6 3 (by decide)
      rw [show 4 + 3 + 7 * tn = 7 + 7 * tn by omega] at this
      rw [this, X7]; rfl
    · obtain ⟨⟨r', T'⟩, ⟨_, U2'⟩, l1, l2, l3, -, l5, -⟩ := L_arm (A := 63) (w := 1) (T := T) (U := af U tn (nI b) (nI p) (nI a) (U 1 (5 + 7 * tn)) (U 1 (7 + 7 * tn))) (by decide) (hLR T hT).1 (hLR T hT).2 (by decide) (AF_of (by rw [t1, m1, w3]; exact hA))
      simp only at l3 l5
      subst l3
      rw [k2] at l2
      cases l2
      refine ⟨r, T', l1, fun k hk => l5 k (by unfold scC at hk; omega), ?_⟩
      have := c6 1 (by decide)
      rw [show 4 + 1 + 7 * tn = 5 + 7 * tn by omega] at this
      rw [this, X5]
    · obtain ⟨⟨g', T'⟩, ⟨_, U3'⟩, l1, l2, l3, -, l5, -⟩ := L_goodFar (f := b) (a := a) (wi := Sm 1 60) (by omega) (by omega) hs (VR_w hVm hWI18 hT)
      simp only at l3 l5
      subst l3
      rw [g2] at l2
      cases l2
      refine ⟨gf, T', l1, fC1_f l5, ?_⟩
      have := c6 2 (by decide)
      rw [show 4 + 2 + 7 * tn = 6 + 7 * tn by omega] at this
      rw [this, X6]
  · rw [if_neg n10] at hX
    obtain ⟨U', rd', tn', c1, c2, c3, c4, c5, c6⟩ := fin U w5 w6 w7 w3 w4 t6 (fun _ _ _ _ _ => rfl) rfl t2 t3
    rw [c1] at hX
    exact ⟨U', rd', tn', nx, no', 1, hX.symm, c2, c3, Or.inr rfl, t4, b5, b7, t6, c4, c5, hp1, fun _ => c6, fun q => absurd q (by decide)⟩

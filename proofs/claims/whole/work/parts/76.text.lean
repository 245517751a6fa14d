variable {gG : Nat → Int32}
section
/-! a text -/
theorem begin_f (S : pS) : (∀ k, k ≠ 45 → k ≠ 51 → F5_begin S 45 k = S k) ∧ F5_begin S 45 45 1 = 0 ∧ F5_begin S 45 45 2 = -1 ∧ F5_begin S 45 45 5 = 0 ∧ F5_begin S 45 51 0 = 0 ∧ F5_begin S 45 51 1 = 0 := by
  unfold F5_begin F3_clear
  simp only [bL_d, Nat.reduceAdd]
  refine ⟨fun k a b => by rw [sU_ne b, sU_ne b, sU_ne a, sU_ne a, sU_ne a], ?_, ?_, ?_, ?_, ?_⟩
  · rw [sU_n (by omega), sU_n (by omega), sU_n (by omega), sU_n (by omega), sU_s]
  · rw [sU_n (by omega), sU_n (by omega), sU_n (by omega), sU_s]
  · rw [sU_n (by omega), sU_n (by omega), sU_s]
  · rw [sU_n (by omega), sU_s]
  · rw [sU_s]
noncomputable def refS (S : pS) (x : Int32) : pS := sU (sU (sU (sU (sU S 0 23 0) 0 25 (-1)) 0 21 0) 0 17 0) 0 12 x
theorem refS_f (S : pS) (x : Int32) : (∀ k, k ≠ 0 → refS S x k = S k) ∧ (∀ j, j ≠ 12 → j ≠ 17 → j ≠ 21 → j ≠ 23 → j ≠ 25 → refS S x 0 j = S 0 j) ∧ refS S x 0 12 = x ∧ refS S x 0 17 = 0 ∧ refS S x 0 23 = 0 ∧ refS S x 0 25 = -1 := by
  unfold refS
  refine ⟨fun k a => by rw [sU_ne a, sU_ne a, sU_ne a, sU_ne a, sU_ne a], fun j a b c d e => ?_, sU_s _ _ _ _, ?_, ?_, ?_⟩
  · rw [sU_n (by omega), sU_n (by omega), sU_n (by omega), sU_n (by omega), sU_n (by omega)]
  · rw [sU_n (by omega), sU_s]
  · rw [sU_n (by omega), sU_n (by omega), sU_n (by omega), sU_n (by omega), sU_s]
  · rw [sU_n (by omega), sU_n (by omega), sU_n (by omega), sU_s]
theorem tape_b {Sc Sm : pS} (hR : (Rel gG) Sc Sm) (x : Int32) : ∃ b n, byT b n (F5_begin Sc 45) ∧ byR b n (refS Sm x) := by
  obtain ⟨_, _, _, _, _, _, _, _, np, -, -, ⟨h1, h2, h3, h4⟩, -⟩ := hR
  obtain ⟨g1, -⟩ := begin_f Sc
  obtain ⟨f1, f2, -⟩ := refS_f Sm x
  have hb : ∀ j, j < np → ∃ c, c < 256 ∧ Sm 7 j = nI c ∧ Sc 47 j = sgI c := h4
  refine ⟨fun j => (Sm 7 j).toNatClampNeg, np, ⟨?_, h1, fun j hj => ?_⟩, ⟨?_, h1, fun j hj => ?_⟩⟩
  · rw [g1 46 (by decide) (by decide)]; exact h3
  · obtain ⟨c, hc, e1, e2⟩ := hb j hj
    simp only [e1, nI_clamp (show c < 2 ^ 31 by omega)]
    rw [g1 47 (by decide) (by decide)]
    exact ⟨e2, hc⟩
  · rw [f2 16 (by decide) (by decide) (by decide) (by decide) (by decide)]; exact h2
  · obtain ⟨c, hc, e1, e2⟩ := hb j hj
    simp only [e1, nI_clamp (show c < 2 ^ 31 by omega)]
    rw [f1 7 (by decide)]
    exact ⟨e1, hc⟩
theorem M_law {Sc Sm : pS} (hR : (Rel gG) Sc Sm) {r : Nat} (hr : r = 0 ∨ r = 1 ∨ r = 3) : ∃ v T' p U1, F5_law (F5_begin Sc 45) 45 (litL r) (nI (faN r - 260)) = some (v, T') ∧ F12_next0 (refS Sm (nI r)) = some U1 ∧ F12_readsLaw U1 = some p ∧
    ((v = 1 ∧ p.1 = 1 ∧ ∃ q, F12_putsLaw (sU p.2 0 16 0) (nI (lix r)) = some q ∧ q.1 = F3_copy T' (8 + 7 * lix r) 51 (8 + 7 * lix r) 0 ∧ (Rel gG) (sU (F3_copy T' (8 + 7 * lix r) 51) 46 0 0) q.2) ∨
    (v = 0 ∧ p.1 = 0 ∧ (Rel gG) (sU T' 46 0 0) (sU (sU (sU p.2 0 16 0) 0 23 (p.2 0 21)) 0 25 (p.2 0 22)))) := by
  obtain ⟨b, n, hT, hU⟩ := tape_b hR (nI r)
  obtain ⟨g1, g2, g3, g4, g5, g6⟩ := begin_f Sc
  obtain ⟨f1, f2, f3, f4, f5, f6⟩ := refS_f Sm (nI r)
  obtain ⟨v, T', ⟨p1, U'⟩, U1, a1, a2, a3, a4, a5, a6⟩ := P_law hr hT g2 g3 g5 g6 hU f4 f3
  simp only at a5 a6
  refine ⟨v, T', (p1, U'), U1, a1, a2, a3, ?_⟩
  have hC : ∀ k, (k < 45 ∨ 58 < k) → T' k = Sc k := fun k hk => (a4 k hk).trans (g1 k (by omega) (by omega))
  have hM : ∀ k, k ≠ 0 → k ≠ 4 → k ≠ 5 → U' k = Sm k := fun k a b c => (a5.1 k a b c).trans (f1 k a)
  have hM0 : ∀ j, j < 12 → U' 0 j = Sm 0 j := fun j hj => (a5.2 j (by omega)).trans (f2 j (by omega) (by omega) (by omega) (by omega) (by omega))
  rcases a6 with ⟨rfl, rfl, c1, c2, hL⟩ | ⟨rfl, rfl, c1, c2⟩
  · refine Or.inl ⟨rfl, rfl, ?_⟩
    have hl := lix_lt hr
    obtain ⟨nl, st, l1, l2, l3, l4, l5, l6, -⟩ := id hL
    obtain ⟨⟨q1, U2⟩, e1, e2, e3, e4, e5, e6, e7⟩ := L_puts (l := lix r) (U := sU U' 0 16 0) hl l1 l6 (by rw [sU_n (by omega)]; exact l3) (by rw [sU_n (by omega)]; exact l5)
    simp only at e2 e3 e4 e5 e6 e7
    have z4 : ∀ x, sU U' 0 16 0 4 x = U' 4 x := fun x => by rw [sU_ne (by decide)]
    have z5 : ∀ x, sU U' 0 16 0 5 x = U' 5 x := fun x => by rw [sU_ne (by decide)]
    obtain ⟨k1, k2, k3⟩ := cpyL (S := T') (k0 := 8 + 7 * lix r) (k1 := 51) (by omega)
    refine ⟨(q1, U2), e1, ?_, ?_⟩
    · show q1 = _
      rw [e2, k1 0 (by decide), l2]
    · show (Rel gG) _ U2
      obtain ⟨ns, nt, nl0, ng, rd, tn, nu, la, np, hW, hP, -⟩ := id hR
      have m1 : ∀ x, ¬ ownL (lix r) x → U2 1 x = Sm 1 x := fun x hx => by
        rw [e4 x hx, sU_ne (by decide), hM 1 (by decide) (by decide) (by decide)]
      have hW' := RW_law (Sc' := sU (F3_copy T' (8 + 7 * lix r) 51) 46 0 0) (Sm' := U2) hr hW hL (fun k hk hk2 => by
          rw [sU_ne (by omega), k3 k hk2]; exact hC k (by omega)) (by rw [sU_ne (by omega)]; exact k1 0 (by decide)) (fun d i hdi => by rw [sU_ne (by omega)]; exact k2 d i hdi) m1 (by rw [e5, l3]) (fun nl' h1 h2 i hi => by
          have hnl : nl' = nl := nI_inj (h1.symm.trans l3) (by omega) (by omega)
          subst hnl
          have := e6 i hi
          rw [z4, z4, z4, z4] at this
          exact this) (fun st' h1 h2 p hp => by
          have hst : st' = st := nI_inj (h1.symm.trans l5) (by omega) (by omega)
          subst hst
          rw [e7 p hp, z5])
      have mlo : ∀ x, x < 640 → U2 1 x = Sm 1 x := fun x hx => m1 x (by unfold ownL; omega)
      have ho : ∀ k, k ≠ 1 → k ≠ 0 → k ≠ 4 → k ≠ 5 → U2 k = Sm k := fun k a b c d => by rw [e3 k a, sU_ne b, hM k b c d]
      have ho0 : ∀ j, j < 12 → U2 0 j = Sm 0 j := fun j hj => by rw [e3 0 (by decide), sU_n (by omega)]; exact hM0 j hj
      have hk : ∀ k, 58 < k → sU (F3_copy T' (8 + 7 * lix r) 51) 46 0 0 k = Sc k := fun k hk => by
        rw [sU_ne (by omega), k3 k (by omega)]; exact hC k (by omega)
      refine Rel_x hR hW' (Past_m hP hW.2.1.2.1 (ho0 3 (by decide)) (ho 3 (by decide) (by decide) (by decide) (by decide)) (fun j hj => mlo j (by omega)) (fun j _ hj => mlo j (by omega)) (hk 65 (by decide)) (fun k a _ => hk k (by omega))) (fun k hk' => ?_) ⟨ho0 4 (by decide), ho 2 (by decide) (by decide) (by decide) (by decide), ho 13 (by decide) (by decide) (by decide) (by decide)⟩ ?_ (sU_s _ _ _ _) ⟨?_, ?_⟩
      · rcases hk' with rfl | hk'
        · rw [sU_ne (by decide), k3 0 (by omega)]; exact hC 0 (by omega)
        · exact hk k (by omega)
      · rw [e3 0 (by decide), sU_s]
      · rw [sU_ne (by decide), k3 45 (by omega), c1, e3 0 (by decide), sU_n (by omega), a5.2 23 (by omega), f5]
      · rw [sU_ne (by decide), k3 45 (by omega), c2, e3 0 (by decide), sU_n (by omega), a5.2 25 (by omega), f6]
  · refine Or.inr ⟨rfl, rfl, ?_⟩
    refine Rel_no hR (fun k hk => by rw [sU_ne (by omega)]; exact hC k hk) (fun k a b c d => ?_) (fun j hj => ?_) ?_ (sU_s _ _ _ _) ⟨?_, ?_⟩
    · rw [sU_ne a, sU_ne a, sU_ne a]; exact hM k a b c
    · rw [sU_n (by omega), sU_n (by omega), sU_n (by omega)]; exact hM0 j hj
    · rw [sU_n (by omega), sU_n (by omega), sU_s]
    · rw [sU_ne (by decide), c1, sU_n (by omega), sU_s]
    · rw [sU_ne (by decide), c2, sU_s]
theorem loc_ord {b x : Nat} (h : 150 ≤ x ∧ x < 640) : loc b x = none := by
  grind (splits := 60) [loc]
theorem RW_plan {ns nt nl ng rd tn t o : Nat} {Sc Sm T U Sc' Sm' : pS} (hW : RW 1 1 ns nt nl ng rd tn Sc Sm) (ht : t < nt) (ho : o ≤ 12) (hO : ∀ i, i < o → oOK ns i T U)
    (hc : ∀ k, k < 45 → k ≠ 29 + 2 * t → k ≠ 30 + 2 * t → Sc' k = Sc k) (hc1 : ∀ i, Sc' (29 + 2 * t) i = if i = 4 then nI o else if i = 5 then 0 else Sc (29 + 2 * t) i) (hc2 : ∀ x, x < 60 → Sc' (30 + 2 * t) x = T 58 x)
    (hm : ∀ x, x ≠ 82 + t → x ≠ 8 + 7 * t → (x < 150 + 60 * t ∨ 210 + 60 * t ≤ x) → Sm' 1 x = Sm 1 x) (hm1 : Sm' 1 (82 + t) = nI o) (hm2 : Sm' 1 (8 + 7 * t) = 0) (hm3 : ∀ x, x < 5 * o → Sm' 1 (150 + 60 * t + x) = U 6 x) : RW 1 1 ns nt nl ng rd tn Sc' Sm' := by
  obtain ⟨h1, h2, h3, h4, h5, h6, h7⟩ := hW
  have hnt := h2.2.1
  have ht8 : t < 8 := by omega
  have hL : ∀ l, l < 3 → LR (1 + 7 + 7 * l) l 1 Sc Sm → LR (1 + 7 + 7 * l) l 1 Sc' Sm' := fun l a hL => LR_fx hL a (fun i i1 i2 => hc _ (by omega) (by omega) (by omega)) (fun x hx => hm x (by unfold ownL at hx; omega) (by unfold ownL at hx; omega) (by unfold ownL at hx; omega))
  refine ⟨?_, ?_, ?_, ?_, hL 0 (by decide) h5, hL 1 (by decide) h6, hL 2 (by decide) h7⟩
  · intro j k i hlo
    by_cases q1 : j = 82 + t
    · subst q1
      rw [loc_no ht8] at hlo
      cases hlo
      rw [show 1 + 28 + 2 * t = 29 + 2 * t by omega, hc1, if_pos rfl, hm1]
    · by_cases q2 : j = 8 + 7 * t
      · subst q2
        rw [loc_nx ht8] at hlo
        cases hlo
        rw [show 1 + 28 + 2 * t = 29 + 2 * t by omega, hc1, if_neg (by decide), if_pos rfl, hm2]
      · by_cases q3 : 150 ≤ j ∧ j < 640
        · rw [loc_ord q3] at hlo; cases hlo
        · have hin := loc_in hlo
          have hlc := lcv_loc hlo
          have hold := h1 j k i hlo
          rw [hm j q1 q2 (by omega)]
          by_cases qk : k = 29 + 2 * t
          · subst qk
            rw [hc1]
            have n4 : i ≠ 4 := by
              rintro rfl
              apply q1
              rw [← hlc]
              unfold lcv
              rw [if_neg (by omega), if_neg (by omega), if_neg (by omega), if_neg (by omega), if_neg (by omega), if_neg (by omega), if_neg (by omega), if_neg (by omega), if_neg (by omega), if_pos rfl]
              omega
            have n5 : i ≠ 5 := by
              rintro rfl
              apply q2
              rw [← hlc]
              unfold lcv
              rw [if_neg (by omega), if_neg (by omega), if_neg (by omega), if_neg (by omega), if_neg (by omega), if_neg (by omega), if_neg (by omega), if_neg (by omega), if_neg (by omega), if_neg (by omega), if_pos rfl]
              omega
            rw [if_neg n4, if_neg n5]
            exact hold
          · unfold inL at hin
            rw [hc k (by omega) qk (by omega)]
            exact hold
  · unfold Wn at h2 ⊢
    rw [hm 67 (by omega) (by omega) (by omega), hm 68 (by omega) (by omega) (by omega), hm 2 (by omega) (by omega) (by omega), hm 69 (by omega) (by omega) (by omega), hm 0 (by omega) (by omega) (by omega), hm 1 (by omega) (by omega) (by omega), hm 66 (by omega) (by omega) (by omega), hm 62 (by omega) (by omega) (by omega), hm 63 (by omega) (by omega) (by omega)]
    exact h2
  · intro t' ht'
    obtain ⟨q1, q2, q3, nx, no, q4, q5, q6, q7, q8⟩ := h3 t' ht'
    refine ⟨by rw [hm _ (by omega) (by omega) (by omega)]; exact q1, by rw [hm _ (by omega) (by omega) (by omega)]; exact q2, by rw [hm _ (by omega) (by omega) (by omega)]; exact q3, ?_⟩
    by_cases e : t' = t
    · subst e
      refine ⟨0, o, Nat.zero_le _, ho, hm2, hm1, fun i hi => ?_⟩
      have := hO i hi
      unfold ordOK
      unfold oOK at this
      rw [show 1 + 29 + 2 * t' = 30 + 2 * t' by omega, hc2 _ (by omega), hc2 _ (by omega), hc2 _ (by omega), hc2 _ (by omega), hc2 _ (by omega), show 150 + 60 * t' + 5 * i + 1 = 150 + 60 * t' + (5 * i + 1) by omega, show 150 + 60 * t' + 5 * i + 2 = 150 + 60 * t' + (5 * i + 2) by omega, show 150 + 60 * t' + 5 * i + 3 = 150 + 60 * t' + (5 * i + 3) by omega, show 150 + 60 * t' + 5 * i + 4 = 150 + 60 * t' + (5 * i + 4) by omega, hm3 _ (by omega), hm3 _ (by omega), hm3 _ (by omega), hm3 _ (by omega), hm3 _ (by omega)]
      exact this
    · refine ⟨nx, no, q4, q5, by rw [hm _ (by omega) (by omega) (by omega)]; exact q6, by rw [hm _ (by omega) (by omega) (by omega)]; exact q7, fun i hi => ?_⟩
      have := q8 i hi
      unfold ordOK at this ⊢
      rw [hc (1 + 29 + 2 * t') (by omega) (by omega) (by omega), hm _ (by omega) (by omega) (by omega), hm _ (by omega) (by omega) (by omega), hm _ (by omega) (by omega) (by omega), hm _ (by omega) (by omega) (by omega), hm _ (by omega) (by omega) (by omega)]
      exact this
  · intro i hi
    have := h4 i hi
    rw [hm _ (by omega) (by omega) (by omega), hm _ (by omega) (by omega) (by omega), hm _ (by omega) (by omega) (by omega)]
    exact this
theorem L_putsP {t o : Nat} {U : pS} (ht : t < 8) (ho : o ≤ 12) (e15 : U 0 15 = nI o) : Ok (F12_putsPlan U (nI t)) (fun q => q.1 = nI o ∧ (∀ k', k' ≠ 0 → k' ≠ 1 → q.2 k' = U k') ∧ (∀ j, j ≠ 3 → q.2 0 j = U 0 j) ∧ q.2 0 3 = 0 ∧ (∀ x, x ≠ 82 + t → x ≠ 8 + 7 * t → (x < 150 + 60 * t ∨ 210 + 60 * t ≤ x) → q.2 1 x = U 1 x) ∧ q.2 1 (82 + t) = nI o ∧ q.2 1 (8 + 7 * t) = 0 ∧ ∀ x, x < 5 * o → q.2 1 (150 + 60 * t + x) = U 6 x) := by
  unfold F12_putsPlan
  simp only [bL_d]
  rw [show (82 : Int32) = nI 82 from rfl, nI_add, bG_N (by omega) (by decide), nI_clamp (by omega), e15]
  refine ok_B (P := fun (T : pS) => (∀ k', k' ≠ 1 → T k' = U k') ∧ (∀ x, x ≠ 82 + t → (x < 150 + 60 * t ∨ 210 + 60 * t ≤ x) → T 1 x = U 1 x) ∧ T 1 (82 + t) = nI o ∧ ∀ x, x < 5 * o → T 1 (150 + 60 * t + x) = U 6 x) (ok_P (5 * o) (fun j s => ∃ T, s = (nI j, T) ∧ (∀ k', k' ≠ 1 → T k' = U k') ∧ (∀ x, x ≠ 82 + t → (x < 150 + 60 * t ∨ 210 + 60 * t ≤ x) → T 1 x = U 1 x) ∧ T 1 (82 + t) = nI o ∧ ∀ x, x < j → T 1 (150 + 60 * t + x) = U 6 x) ?_ ?_ ?_) ?_
  · exact ⟨_, rfl, fun k' a => sU_ne a, fun x hx _ => by rw [sU_n (by omega)], sU_s _ _ _ _, fun x hx => absurd hx (Nat.not_lt_zero _)⟩
  · rintro j s hj ⟨T, rfl, h1, h2, h3, h4⟩
    simp only [u2_d]
    rw [h1 0 (by decide), e15, show (5 : Int32) = nI 5 from rfl, pk_mul, if_neg (nI_ge hj (by omega)), bG_N (show j < 60 by omega) (by decide), show (150 : Int32) = nI 150 from rfl, show (60 : Int32) = nI 60 from rfl, pk_mul, nI_add, nI_add, bG_N (by omega) (by decide), nI_clamp (by omega), nI_clamp (by omega), h1 6 (by decide), nI_1]
    refine ok_s ⟨_, rfl, fun k' a => by rw [sU_ne a]; exact h1 k' a, fun x hx hx2 => by rw [sU_n (by omega)]; exact h2 x hx hx2, by rw [sU_n (by omega)]; exact h3, fun x hx => ?_⟩
    by_cases q : x = j
    · rw [q, sU_s]
    · rw [sU_n (by omega)]; exact h4 x (by omega)
  · rintro s ⟨T, rfl, h1, h2, h3, h4⟩
    simp only [u2_d]
    rw [h1 0 (by decide), e15, show (5 : Int32) = nI 5 from rfl, pk_mul, if_pos (nI_le (Nat.le_refl _) (by omega))]
    exact ok_s ⟨h1, h2, h3, h4⟩
  · rintro T ⟨h1, h2, h3, h4⟩
    rw [u1_d, giv4 T 0 ht, bB_s]
    unfold F12_forgets
    simp only [bL_d]
    refine ok_s ⟨?_, fun k' a b => ?_, fun j hj => ?_, show sU (sU T 1 (8 + 7 * t) 0) 0 3 0 0 3 = 0 from sU_s _ _ _ _, fun x hx1 hx2 hx3 => ?_, ?_, ?_, fun x hx => ?_⟩
    · rw [sU_n (by omega), sU_n (by omega), h1 0 (by decide)]; exact e15
    · show sU (sU T 1 (8 + 7 * t) 0) 0 3 0 k' = U k'
      rw [sU_ne a, sU_ne b]; exact h1 k' b
    · show sU (sU T 1 (8 + 7 * t) 0) 0 3 0 0 j = U 0 j
      rw [sU_n (by omega), sU_ne (by decide), h1 0 (by decide)]
    · show sU (sU T 1 (8 + 7 * t) 0) 0 3 0 1 x = U 1 x
      rw [sU_ne (by decide), sU_n (by omega)]; exact h2 x hx1 hx3
    · show sU (sU T 1 (8 + 7 * t) 0) 0 3 0 1 (82 + t) = nI o
      rw [sU_ne (by decide), sU_n (by omega)]; exact h3
    · show sU (sU T 1 (8 + 7 * t) 0) 0 3 0 1 (8 + 7 * t) = 0
      rw [sU_ne (by decide), sU_s]
    · show sU (sU T 1 (8 + 7 * t) 0) 0 3 0 1 (150 + 60 * t + x) = U 6 x
      rw [sU_ne (by decide), sU_n (by omega)]; exact h4 x hx
theorem M_plan {Sc Sm : pS} (hR : (Rel gG) Sc Sm) {ns nt nl ng rd tn t : Nat} (hW0 : Wn 1 Sm ns nt nl ng rd tn) (ht : t < nt) : ∃ v T' p U1, F5_plan (F5_begin Sc 45) 45 (nI ns) = some (v, T') ∧ F12_next0 (refS Sm (nI 2)) = some U1 ∧ F12_readsPlan U1 = some p ∧
    ((v = 1 ∧ p.1 = 1 ∧ ∃ q, F12_putsPlan (sU p.2 0 16 0) (nI t) = some q ∧ q.1 = (F11_keepPlan T' (29 + 2 * t)).1 ∧ (Rel gG) (sU (F11_keepPlan T' (29 + 2 * t)).2 46 0 0) q.2) ∨
    (v = 0 ∧ p.1 = 0 ∧ (Rel gG) (sU T' 46 0 0) (sU (sU (sU p.2 0 16 0) 0 23 (p.2 0 21)) 0 25 (p.2 0 22)))) := by
  obtain ⟨b, n, hT, hU⟩ := tape_b hR (nI 2)
  obtain ⟨g1, g2, g3, g4, g5, g6⟩ := begin_f Sc
  obtain ⟨f1, f2, f3, f4, f5, f6⟩ := refS_f Sm (nI 2)
  obtain ⟨v, T', ⟨p1, U'⟩, U1, a1, a2, a3, a4, a5, a6⟩ := P_plan (ns := ns) hW0.1 hT g2 g3 g5 g6 g4 hU f4 f3 (by rw [f1 1 (by decide)]; exact hW0.2.2.2.2.2.2.1)
  simp only at a5 a6
  refine ⟨v, T', (p1, U'), U1, a1, a2, a3, ?_⟩
  have hC : ∀ k, (k < 45 ∨ 58 < k) → T' k = Sc k := fun k hk => (a4 k hk).trans (g1 k (by omega) (by omega))
  have hM : ∀ k, k ≠ 0 → k ≠ 6 → U' k = Sm k := fun k a b => (a5.1 k a b).trans (f1 k a)
  have hM0 : ∀ j, j < 12 → U' 0 j = Sm 0 j := fun j hj => (a5.2 j (by omega)).trans (f2 j (by omega) (by omega) (by omega) (by omega) (by omega))
  rcases a6 with ⟨rfl, rfl, c1, c2, o, ho, c3, c4, hO⟩ | ⟨rfl, rfl, c1, c2⟩
  · refine Or.inl ⟨rfl, rfl, ?_⟩
    have hnt := hW0.2.1
    obtain ⟨⟨q1, U2⟩, e1, e2, e3, e4, e5, e6, e7, e8, e9⟩ := L_putsP (t := t) (U := sU U' 0 16 0) (by omega) ho (by rw [sU_n (by omega)]; exact c4)
    simp only at e2 e3 e4 e5 e6 e7 e8 e9
    refine ⟨(q1, U2), e1, ?_, ?_⟩
    · show q1 = _
      unfold F11_keepPlan F4_forget
      simp only [bL_d]
      rw [e2, sU_n (by omega), sU_n (by omega), sU_s, sR_ne (by omega), c3]
    · show (Rel gG) _ U2
      obtain ⟨ns', nt', nl0, ng', rd', tn', nu, la, np, hW, hP, -⟩ := id hR
      have ens : ns' = ns := nI_inj (hW.2.1.2.2.2.2.2.2.1.symm.trans hW0.2.2.2.2.2.2.1) (by have := hW.2.1.1; omega) (by have := hW0.1; omega)
      have ent : nt' = nt := nI_inj (hW.2.1.2.2.2.2.2.2.2.1.symm.trans hW0.2.2.2.2.2.2.2.1) (by have := hW.2.1.2.1; omega) (by omega)
      subst ens; subst ent
      have hS : ∀ k, (sU (F11_keepPlan T' (29 + 2 * t)).2 46 0 0) k = if k = 46 then upd (T' 46) 0 0 else if k = 65 then upd (T' 65) 0 0 else if k = 29 + 2 * t then upd (upd (T' (29 + 2 * t)) 4 (T' 45 5)) 5 0 else if k = 30 + 2 * t then va_cpy (T' 58) (T' (30 + 2 * t)) 0 0 60 else T' k := by
        intro k
        unfold F11_keepPlan F4_forget
        simp only [bL_d]
        have e45 : sR T' (29 + 2 * t + 1) (va_cpy (T' 58) (T' (29 + 2 * t + 1)) 0 0 60) 45 5 = T' 45 5 := by rw [sR_ne (by omega)]
        rw [e45, show 29 + 2 * t + 1 = 30 + 2 * t by omega]
        by_cases z1 : k = 46
        · subst z1
          rw [if_pos rfl, sU_at, sU_ne (by decide), sU_ne (by omega), sU_ne (by omega), sR_ne (by omega)]
        rw [if_neg z1, sU_ne z1]
        by_cases z2 : k = 65
        · subst z2
          rw [if_pos rfl, sU_at, sU_ne (by omega), sU_ne (by omega), sR_ne (by omega)]
        rw [if_neg z2, sU_ne z2]
        by_cases z3 : k = 29 + 2 * t
        · subst z3
          rw [if_pos rfl, sU_at, sU_at, sR_ne (by omega)]
        rw [if_neg z3, sU_ne z3, sU_ne z3]
        by_cases z4 : k = 30 + 2 * t
        · subst z4
          rw [if_pos rfl, sR_at]
        rw [if_neg z4, sR_ne z4]
      have m1 : ∀ x, x ≠ 82 + t → x ≠ 8 + 7 * t → (x < 150 + 60 * t ∨ 210 + 60 * t ≤ x) → U2 1 x = Sm 1 x := fun x h1 h2 h3 => by
        rw [e6 x h1 h2 h3, sU_ne (by decide), hM 1 (by decide) (by decide)]
      have hW' := RW_plan (T := T') (U := U') (o := o) (Sc' := sU (F11_keepPlan T' (29 + 2 * t)).2 46 0 0) (Sm' := U2) hW ht ho hO (fun k h1 h2 h3 => by
          rw [hS k, if_neg (by omega), if_neg (by omega), if_neg h2, if_neg h3]; exact hC k (by omega)) (fun i => by
          rw [hS _, if_neg (by omega), if_neg (by omega), if_pos rfl, c3, ← hC (29 + 2 * t) (by omega)]
          by_cases z5 : i = 5
          · subst z5; rw [upd_s]; rfl
          · rw [upd_n z5]
            by_cases z4 : i = 4
            · subst z4; rw [upd_s, if_pos rfl]
            · rw [upd_n z4, if_neg z4, if_neg z5]) (fun x hx => by
          rw [hS _, if_neg (by omega), if_neg (by omega), if_neg (by omega), if_pos rfl, cpy_i hx]) m1 e7 e8 (fun x hx => by
          rw [e9 x hx, sU_ne (by decide)])
      have ho : ∀ k, k ≠ 1 → k ≠ 0 → k ≠ 6 → U2 k = Sm k := fun k a b c => by rw [e3 k b a, sU_ne b, hM k b c]
      have hk : ∀ k, 58 < k → k ≠ 65 → sU (F11_keepPlan T' (29 + 2 * t)).2 46 0 0 k = Sc k := fun k h1 h2 => by
        rw [hS k, if_neg (by omega), if_neg h2, if_neg (by omega), if_neg (by omega)]; exact hC k (by omega)
      have h65 : ∀ i, sU (F11_keepPlan T' (29 + 2 * t)).2 46 0 0 65 i = if i = 0 then 0 else Sc 65 i := fun i => by
        rw [hS 65, if_neg (by decide), if_pos rfl, hC 65 (by omega)]; rfl
      refine Rel_x hR hW' (Past_0 (la := la) e5 (by rw [h65, if_pos rfl]) (by rw [h65, if_neg (by decide)]; exact hP.2.2.2.2.1) hP.2.1) (fun k hk' => ?_) ⟨?_, ho 2 (by decide) (by decide) (by decide), ho 13 (by decide) (by decide) (by decide)⟩ ?_ (sU_s _ _ _ _) ⟨?_, ?_⟩
      · rcases hk' with rfl | hk'
        · rw [hS 0, if_neg (by omega), if_neg (by omega), if_neg (by omega), if_neg (by omega)]; exact hC 0 (by omega)
        · exact hk k (by omega) (by omega)
      · rw [e4 4 (by decide), sU_n (by omega)]; exact hM0 4 (by decide)
      · rw [e4 16 (by decide), sU_s]
      · rw [hS 45, if_neg (by omega), if_neg (by omega), if_neg (by omega), if_neg (by omega), c1, e4 23 (by decide), sU_n (by omega), a5.2 23 (by omega), f5]
      · rw [hS 45, if_neg (by omega), if_neg (by omega), if_neg (by omega), if_neg (by omega), c2, e4 25 (by decide), sU_n (by omega), a5.2 25 (by omega), f6]
  · refine Or.inr ⟨rfl, rfl, ?_⟩
    refine Rel_no hR (fun k hk => by rw [sU_ne (by omega)]; exact hC k hk) (fun k a b c d => ?_) (fun j hj => ?_) ?_ (sU_s _ _ _ _) ⟨?_, ?_⟩
    · rw [sU_ne a, sU_ne a, sU_ne a]; exact hM k a d
    · rw [sU_n (by omega), sU_n (by omega), sU_n (by omega)]; exact hM0 j hj
    · rw [sU_n (by omega), sU_n (by omega), sU_s]
    · rw [sU_ne (by decide), c1, sU_n (by omega), sU_s]
    · rw [sU_ne (by decide), c2, sU_s]
end

variable {gG : Nat → Int32}
/-! by plans -/
theorem ord_t {T : pS} {o no i p : Nat} {v : Int32} (h4 : T o 4 = nI no) (hn : no ≤ 12) (hi : i < no) (hv : v = nI p) (hp : p < 5) : F8_order T o (nI i) v = some (T (o + 1) (5 * i + p)) := by
  subst hv
  unfold F8_order
  simp only [bL_d]
  rw [if_neg (nI_pos (by omega)), h4, if_neg (nI_ge hi (by omega)), if_neg (nge 12 (b := 12) rfl (by omega) (by decide)), wi_t (m := 4) (n := 4) rfl (by decide) ⟨p, hp, rfl⟩, if_neg n10, lit_I 5, pk_mul, nI_add, bG_t (vp_in_nI (by omega) (by omega)), nI_clamp (by omega), Nat.mul_comm]
theorem ord_f {T : pS} {o no : Nat} {v : Int32} (h4 : T o 4 = nI no) (hn : no ≤ 12) : F8_order T o (nI no) v = some (-1) := by
  unfold F8_order
  simp only [bL_d]
  rw [if_neg (nI_pos (by omega)), h4, if_pos (nI_le (Nat.le_refl _) (by omega))]
/-- whether he passes, on both sides; b, w: BEST, WEAR as the class thinks them -/
theorem L_passes {T U : pS} {o ns t nx no : Nat} {b w : Int32} (ht : t < 8) (hno : no ≤ 12) (hnx : nx ≤ no) (h4 : T o 4 = nI no) (h82 : U 1 (82 + t) = nI no) (hb : U 1 (6 + 7 * t) = b) (hw : U 1 (5 + 7 * t) = w) (hwN : isN w 1001)
    (hord : nx < no → T (o + 1) (5 * nx) = U 1 (150 + 60 * t + 5 * nx) ∧ (U 1 (150 + 60 * t + 5 * nx) = -1 ∨ T (o + 1) (5 * nx + 4) = U 1 (150 + 60 * t + 5 * nx + 4))) :
    ∃ z, (z = 0 ∨ z = 1) ∧ F8_wouldThrow T o (nI nx) b w = some (1 - z) ∧ F12_passesBy U (nI t) (nI nx) (nI (150 + 60 * t + 5 * nx)) = some z ∧ (z = 0 → nx < no ∧ ¬ U 1 (150 + 60 * t + 5 * nx) = -1 ∧ ¬ w = 1000) := by
  unfold F8_wouldThrow F12_passesBy
  simp only [bL_d, lit_I 82, nI_add]
  rw [bG_t (vp_in_nI (by omega) (by omega)), nI_clamp (n := 82 + t) (by omega), h82]
  by_cases e : nx = no
  · subst e
    rw [ord_f h4 hno, bB_s, if_pos rfl, if_pos rfl]
    exact ⟨1, Or.inr rfl, rfl, rfl, fun q => absurd q (by decide)⟩
  · have hlt : nx < no := by omega
    obtain ⟨o1, o2⟩ := hord hlt
    rw [ord_t (v := 0) (p := 0) h4 hno hlt rfl (by decide), bB_s, show 5 * nx + 0 = 5 * nx from rfl, o1, if_neg (fun q => e (nI_inj q (by omega) (by omega))), bG_t (vp_in_nI (by omega) (by omega)), nI_clamp (n := 150 + 60 * t + 5 * nx) (by omega)]
    by_cases e1 : U 1 (150 + 60 * t + 5 * nx) = -1
    · rw [if_pos e1, if_pos e1]
      exact ⟨1, Or.inr rfl, rfl, rfl, fun q => absurd q (by decide)⟩
    · have o2 := o2.resolve_left e1
      rw [if_neg e1, if_neg e1, own1 _ ht, bB_s, hw]
      obtain ⟨wn, hwn, rfl⟩ := hwN
      by_cases e2 : wn = 1000
      · subst e2
        rw [if_neg (show ¬ nI 1000 < 1000 by decide), if_pos (show nI 1000 = 1000 from rfl)]
        exact ⟨1, Or.inr rfl, rfl, rfl, fun q => absurd q (by decide)⟩
      · have hne := xne 1000 (b := 1000) rfl e2 (by omega) (by decide)
        rw [if_pos (xlt 1000 (b := 1000) rfl (show wn < 1000 by omega) (by decide)), if_neg hne, ord_t (v := 4) (p := 4) h4 hno hlt rfl (by decide), bB_s, o2]
        simp only [lit_I 4, nI_add]
        rw [bG_t (vp_in_nI (by omega) (by omega)), own2 _ ht, bB_s, hb, bG_t (vp_in_nI (by omega) (by omega)), nI_clamp (by omega)]
        by_cases e3 : U 1 (150 + 60 * t + 5 * nx + 4) = -1
        · rw [if_pos e3, if_pos e3]
          exact ⟨0, Or.inl rfl, rfl, rfl, fun _ => ⟨hlt, e1, hne⟩⟩
        · rw [if_neg e3, if_neg e3, Int32.mul_comm]
          by_cases e4 : b < 100 * U 1 (150 + 60 * t + 5 * nx + 4)
          · rw [if_pos e4, if_neg (Int32.not_le.mpr e4)]
            exact ⟨0, Or.inl rfl, rfl, rfl, fun _ => ⟨hlt, e1, hne⟩⟩
          · rw [if_neg e4, if_pos (Int32.not_lt.mp e4)]
            exact ⟨1, Or.inr rfl, rfl, rfl, fun q => absurd q (by decide)⟩
theorem L_turn {Sc Sm : pS} {ns nt nl ng rd tn nu la : Nat} (hR : (Rel gG) Sc Sm) (hW : RW 1 1 ns nt nl ng rd tn Sc Sm) (hP : PastR nu la nt Sc Sm) (hrd : rd ≤ 5) (htn : tn < nt) : R2 (F11_turnByPlan Sc (29 + 2 * tn)) (bB (F12_keeps Sm) fun S_7 => F12_goesOn S_7) (fun p q => (p.1 = 0 ∨ p.1 = 1) ∧ (Ans gG) p q) := by
  have h2 := hW.2.1
  have hnt := h2.2.1
  have ht8 : tn < 8 := by omega
  have h1 : Sm 1 1 = nI tn := hW.2.1.2.2.2.2.2.2.2.2.2.2.2.1
  obtain ⟨b1, b2, b3, nx, no, b4, b5, b6, b7, b8⟩ := hW.2.2.1 tn htn
  have hE := hW.1
  obtain ⟨T, hT, hT'⟩ := L_remember (t := tn) hP.1 hP.2.1 ht8 hP.2.2.2.1 hP.2.2.2.2.1
  obtain ⟨U, hU, hU'⟩ := L_keeps hP.1 hP.2.2.1
  have hWT : RW 1 1 ns nt nl ng rd tn T U := RW_fr hW (fun k a b _ _ _ => hT'.2.2.1 k (by omega) (by omega)) (hU'.2.1 1 (by decide) (by decide))
  have u1 : U 1 = Sm 1 := hU'.2.1 1 (by decide) (by decide)
  have e4 : Sc (29 + 2 * tn) 4 = nI no := (RE_t4 hE ht8).trans b7
  have e5 : Sc (29 + 2 * tn) 5 = nI nx := (RE_t5 hE ht8).trans b6
  rw [hU, bB_s]
  unfold F11_turnByPlan F12_goesOn F8_throwsBy
  rw [e5, u1, h1, bL_d (nI nx), bL_d (nI tn), own4 _ ht8, bB_s, u1, b6, lit_I 150, lit_I 60, lit_I 5, pk_mul, pk_mul, nI_add, nI_add, bL_d (nI (150 + 60 * tn + 5 * nx)), lit_I 82, nI_add, bG_t (vp_in_nI (by omega) (by omega)), nI_clamp (n := 82 + tn) (by omega), b7]
  -- the reference moves his place on
  let V : pS := sU U 1 (8 + 7 * tn) (nI (min no (nx + 1)))
  have hV1 : ∀ j, j ≠ 8 + 7 * tn → V 1 j = Sm 1 j := fun j hj => by
    show sU U 1 (8 + 7 * tn) _ 1 j = _
    rw [sU_n (by omega), u1]
  have hVk : ∀ k, k ≠ 1 → V k = U k := fun k hk => sU_ne hk
  obtain ⟨z, hz, p1, p2, p3⟩ := L_passes (T := Sc) (U := V) (o := 29 + 2 * tn) (ns := ns) (t := tn) (nx := nx) (no := no) (b := Sc (29 + 2 * tn) 2) (w := Sc (29 + 2 * tn) 1) ht8 b5 b4 e4 (by rw [hV1 _ (by omega)]; exact b7) (by rw [hV1 _ (by omega)]; exact (RE_t2 hE ht8).symm) (by rw [hV1 _ (by omega)]; exact (RE_t1 hE ht8).symm) (by rw [RE_t1 hE ht8]; exact b2) (fun hlt => by
    have q := b8 nx hlt
    unfold ordOK at q
    rw [show 1 + 29 + 2 * tn = 29 + 2 * tn + 1 by omega] at q
    rw [hV1 _ (by omega), hV1 _ (by omega)]
    refine ⟨q.1, ?_⟩
    rcases q.2 with q | q
    · exact Or.inl q
    · exact Or.inr q.2.2.2.2.2.2.2)
  rw [p1, bB_s, bB_s]
  have hgo : ∀ (j : pS → Option (Int32 × pS)) (Q : Int32 × pS → Int32 × pS → Prop) (X : Option (Int32 × pS)), R2 X (j V) Q → R2 X (if nI no ≤ nI nx then j U else bB (F12_gives U (nI tn) 4 (nI nx + 1)) fun S_12 => j S_12) Q := by
    intro j Q X h
    by_cases e : nx = no
    · subst e
      rw [if_pos (nI_le (Nat.le_refl _) (by omega))]
      have : V = U := by
        show sU U 1 (8 + 7 * tn) _ = U
        rw [Nat.min_eq_left (by omega), ← b6, ← u1, sU_id]
      rw [this] at h
      exact h
    · rw [if_neg (nI_ge (by omega) (by omega)), giv4 _ _ ht8, bB_s, nI_1]
      have : V = sU U 1 (8 + 7 * tn) (nI (nx + 1)) := by
        show sU U 1 (8 + 7 * tn) _ = _
        rw [Nat.min_eq_right (by omega)]
      rw [← this]
      exact h
  refine hgo _ _ _ ?_
  rw [p2, bB_s]
  simp only [bL_d]
  have hWV : RW 1 1 ns nt nl ng rd tn (sU T (29 + 2 * tn) 5 (nI (min no (nx + 1)))) V := RW_tn hWT htn (fun no' hn' e => by
    rw [u1, b7] at e
    have := nI_inj e (by omega) (by omega)
    omega)
  rcases hz with rfl | rfl
  · obtain ⟨hlt, hne, hw⟩ := p3 rfl
    have hmin : min no (nx + 1) = nx + 1 := Nat.min_eq_right (by omega)
    rw [hmin] at hWV
    rw [if_neg (by decide), if_pos rfl]
    have q := b8 nx hlt
    unfold ordOK at q
    rw [hV1 _ (by omega)] at hne
    obtain ⟨-, q⟩ := q
    obtain ⟨⟨f, hf, ef⟩, ⟨a, ha, ea⟩, ⟨s, hs, es⟩, ⟨p, hp, ep⟩, d1, d2, d3, -⟩ := q.resolve_left hne
    have d0 := (b8 nx hlt).1
    rw [ord_t (v := 0) (p := 0) e4 b5 hlt rfl (by decide), bB_s, ord_t (v := 1) (p := 1) e4 b5 hlt rfl (by decide), bB_s, ord_t (v := 2) (p := 2) e4 b5 hlt rfl (by decide), bB_s, ord_t (v := 3) (p := 3) e4 b5 hlt rfl (by decide), bB_s]
    have d0' : Sc (29 + 2 * tn + 1) (5 * nx + 0) = nI f := by rw [← ef, ← d0]; rw [show 1 + 29 + 2 * tn = 29 + 2 * tn + 1 by omega]; rfl
    have d1' : Sc (29 + 2 * tn + 1) (5 * nx + 1) = nI a := by rw [← ea, ← d1]; rw [show 1 + 29 + 2 * tn = 29 + 2 * tn + 1 by omega]
    have d2' : Sc (29 + 2 * tn + 1) (5 * nx + 2) = nI s := by rw [← es, ← d2]; rw [show 1 + 29 + 2 * tn = 29 + 2 * tn + 1 by omega]
    have d3' : Sc (29 + 2 * tn + 1) (5 * nx + 3) = nI p := by rw [← ep, ← d3]; rw [show 1 + 29 + 2 * tn = 29 + 2 * tn + 1 by omega]
    rw [d0', d1', d2', d3', hurl_d, hT, bB_s]
    simp only [lit_I 1, lit_I 2, lit_I 3, nI_add]
    rw [bG_t (vp_in_nI (by omega) (by omega)), bG_t (vp_in_nI (by omega) (by omega)), bG_t (vp_in_nI (by omega) (by omega)), bG_t (vp_in_nI (by omega) (by omega)), nI_clamp (by omega), nI_clamp (by omega), nI_clamp (by omega), nI_clamp (by omega), hV1 _ (by omega), hV1 _ (by omega), hV1 _ (by omega), hV1 _ (by omega), ef, ea, es, ep]
    refine r2_C (L_throw hWV htn hrd hf ha hs hp) ?_
    rintro v T' v' U' ⟨-, hq⟩
    exact r2_s ⟨Or.inr rfl, rfl, Rel_thr hR hW hP hrd htn hT' hU' rfl ⟨hVk, fun j hj => by rw [hV1 j hj, u1]⟩ hq hWV⟩
  · rw [if_pos (by decide), if_neg n10, hT, bB_s]
    have t4 : T (29 + 2 * tn) 4 = nI no := by rw [hT'.2.2.1 _ (by omega) (by omega)]; exact e4
    have em : jmin (nI no) (nI nx + 1) = nI (min no (nx + 1)) := by
      rw [nI_1]
      unfold jmin
      by_cases q : nx + 1 < no
      · rw [if_pos (nI_lt q (by omega)), Nat.min_eq_right (by omega)]
      · rw [if_neg (nI_nlt (by omega) (by omega)), Nat.min_eq_left (by omega)]
    rw [t4, em]
    obtain ⟨⟨rd', tn', n0⟩, n1, n2, n3⟩ := L_next hWV htn hrd
    have hV12 : ∀ j, 1 < j → j ≠ 8 + 7 * tn → F12_nextTurn V 1 j = Sm 1 j := fun j a b => by rw [n3 j a, hV1 j b]
    refine r2_s ⟨Or.inl rfl, rfl, ?_⟩
    show (Rel gG) (F10_nextTurn (sU T (29 + 2 * tn) 5 (nI (min no (nx + 1)))) 1) (F12_nextTurn V)
    refine Rel_of hR n0 (Past_push (nl2 := nl) hW hP hrd htn hT' hU' (fun k hk => ?_) ?_ ?_ ⟨Nat.le_refl _, h2.2.2.1⟩ ?_ ?_ ?_ ?_) ?_ ?_
    · rw [n1 k (by omega), sU_ne (by omega)]
    · rw [n2 0 (by decide), hVk 0 (by decide)]
    · rw [n2 3 (by decide), hVk 3 (by decide)]
    · rw [hV12 _ (by decide) (by omega)]; exact h2.2.2.2.2.2.2.2.2.1
    · exact hV12 _ (by omega) (by omega)
    · intro t ht hne f hf
      exact hV12 _ (by omega) (by omega)
    · intro t ht
      exact hV12 _ (by omega) (by omega)
    · intro k a b c d
      rw [n1 k (by omega), sU_ne (by omega)]
      exact hT'.2.2.1 k b (by omega)
    · refine ⟨fun k a b c d => ?_, fun j a b => ?_⟩
      · rw [n2 k b, hVk k b]; exact hU'.2.1 k a c
      · rw [n2 0 (by decide), hVk 0 (by decide)]; exact hU'.2.2.1 j b
theorem Rel_on {Sc Sm : pS} (hR : (Rel gG) Sc Sm) : (∃ ns nt nl ng rd tn nu la, RW 1 1 ns nt nl ng rd tn Sc Sm ∧ PastR nu la nt Sc Sm ∧ rd ≤ 5 ∧ tn < nt ∧ F10_whose Sc 1 = some (some (29 + 2 * tn)) ∧ F12_isOn Sm = 1) ∨ (F10_whose Sc 1 = some none ∧ F12_isOn Sm = 0) := by
  obtain ⟨ns, nt, nl, ng, rd, tn, nu, la, np, hW, hP, -⟩ := id hR
  have h2 := hW.2.1
  have hnt := h2.2.1
  have h1 : Sm 1 1 = nI tn := hW.2.1.2.2.2.2.2.2.2.2.2.2.2.1
  have h0 : Sm 1 0 = nI rd := hW.2.1.2.2.2.2.2.2.2.2.2.2.1
  have h68 : Sm 1 68 = nI nt := hW.2.1.2.2.2.2.2.2.2.1
  have c3 : Sc 1 3 = nI tn := (hW.1 1 1 3 rfl).trans h1
  have c2 : Sc 1 2 = nI rd := (hW.1 0 1 2 rfl).trans h0
  have c5 : Sc 1 5 = nI nt := (hW.1 68 1 5 rfl).trans h68
  by_cases h : rd ≤ 5 ∧ tn < nt
  · exact Or.inl ⟨ns, nt, nl, ng, rd, tn, nu, la, hW, hP, h.1, h.2, whose_t c2 c3 c5 h.1 h.2 hnt, isOn_t h0 h68 h.1 (by omega) hnt⟩
  · have h6 : rd = 6 ∨ nt = 0 := by have := h2.2.2.2.2.1; have := h2.2.2.2.2.2.1; omega
    exact Or.inr ⟨whose_f c2 c3 c5 h2.2.2.2.2.1 h6, isOn_f h0 h68 h2.2.2.2.2.1 h6⟩
theorem M_turnsGo {Sc Sm : pS} (hR : (Rel gG) Sc Sm) (a1 : Int32) : R2 (F11_turnsGo Sc a1) (F12_turnsGo Sm a1) (Ans gG) := by
  unfold F11_turnsGo F12_turnsGo
  rw [wie]
  rcases Rel_on hR with ⟨_, _, _, _, _, _, _, _, -, -, -, -, h1, h2⟩ | ⟨h1, h2⟩
  · rw [h1, h2, bB_s, bO_1, if_neg n10]
    by_cases h : F12_isIn a1 1 48 = 0
    · rw [if_pos h, if_pos h]; exact r2_A hR
    · rw [if_neg h, if_neg h]
      have hn : ∃ n, n ≤ 48 ∧ a1 = nI n := by
        rw [isIn_d] at h
        by_cases q : 1 ≤ a1 ∧ a1 ≤ 48
        · obtain ⟨j, hj, e⟩ := (in_N (m := 48) (n := 48) rfl (by decide)).mp ⟨Int32.le_trans (by decide) q.1, q.2⟩
          exact ⟨j, by omega, e⟩
        · rw [if_neg q] at h; exact absurd rfl h
      obtain ⟨n, hn, rfl⟩ := hn
      simp only [bL_d]
      refine r2_w (r2_B (P := fun (q p : Int32 × pS) => p.1 = q.1 ∧ (Rel gG) p.2 q.2) (r2_Q n (fun i s s' => ∃ (x : Int32) (T U : pS), s = (x, nI i, U) ∧ s' = (x, nI i, T) ∧ (Rel gG) T U) ?_ ?_ ?_) ?_)
      · exact ⟨0, Sc, Sm, rfl, rfl, hR⟩
      · rintro i s s' hi ⟨x, T, U, rfl, rfl, hTU⟩
        rcases Rel_on hTU with ⟨ns, nt, nl, ng, rd, tn, nu, la, hW, hP, hrd, htn, g1, g2⟩ | ⟨g1, g2⟩
        · obtain ⟨⟨v, T'⟩, ⟨v', U'⟩, k1, k2, k3, k4, k5⟩ := L_turn hTU hW hP hrd htn
          simp only at k3 k4 k5
          subst k4
          cases hk : F12_keeps U with
          | none => rw [hk] at k2; cases k2
          | some V =>
            rw [hk, bB_s] at k2
            refine Or.inl ?_
            simp only [u3_d]
            rw [if_neg (nI_ge hi (by omega)), if_neg (nI_ge hi (by omega)), g2, if_neg n10, hk, bB_s, k2, bB2_s, g1, bB_s, bO_1, k1, bB2_s]
            rcases k3 with rfl | rfl
            · rw [if_pos rfl, if_pos rfl, nI_1, Int32.add_zero]
              exact ⟨_, _, rfl, rfl, x, T', U', rfl, rfl, k5⟩
            · rw [if_neg n10, if_neg n10, nI_1]
              exact ⟨_, _, rfl, rfl, x + 1, T', U', rfl, rfl, k5⟩
        · refine Or.inr ⟨(x, U), ?_, ?_⟩
          · simp only [u3_d]
            rw [if_neg (nI_ge hi (by omega)), g2, if_pos rfl]
          · -- the class goes on, and nothing is done
            refine ok_m (ok_P (n - i) (fun k s => s = (x, nI (i + k), T)) rfl ?_ ?_) (P := fun p => p = (x, T)) (fun p hp => by subst hp; exact ⟨rfl, hTU⟩)
            · rintro k s hk rfl
              simp only [u3_d]
              rw [if_neg (nI_ge (by omega) (by omega)), g1, bB_s, bO_0, nI_1]
              exact ok_s rfl
            · rintro s rfl
              simp only [u3_d]
              rw [show i + (n - i) = n by omega, if_pos (nI_le (Nat.le_refl _) (by omega))]
              exact ok_s rfl
      · rintro s s' ⟨x, T, U, rfl, rfl, hTU⟩
        refine ⟨(x, U), ?_, ok_e (bP_r (r := (x, T)) ?_) ⟨rfl, hTU⟩⟩
        · simp only [u3_d]
          rw [if_pos (nI_le (Nat.le_refl _) (by omega))]
        · simp only [u3_d]
          rw [if_pos (nI_le (Nat.le_refl _) (by omega))]
      · rintro ⟨x, U⟩ ⟨y, T⟩ ⟨h1, h2⟩
        simp only [u2_d]
        exact r2_s ⟨h1, h2⟩
  · rw [h1, h2, bB_s, bO_0, if_pos rfl, ite_self]; exact r2_A hR

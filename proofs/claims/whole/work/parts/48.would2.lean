variable {gG : Nat → Int32}
/-- the right loop is followed; the left one may stand still -/
theorem r2_N {σ ρ τ υ : Type} {b : σ → Option (σ ⊕ ρ)} {s : σ} {b' : τ → Option (τ ⊕ υ)} {s' : τ} {Q : ρ → υ → Prop} (I : σ → τ → Prop) (μ : τ → Nat) (h0 : I s s') (hs : ∀ s s', I s s' → (∃ s2 t', bP b s = bP b s2 ∧ b' s' = some (.inl t') ∧ I s2 t' ∧ μ t' < μ s') ∨ ∃ r r', bP b s = some r ∧ b' s' = some (.inr r') ∧ Q r r') : R2 (bP b s) (bP b' s') Q := by
  have key : ∀ n s s', μ s' < n → I s s' → R2 (bP b s) (bP b' s') Q := by
    intro n
    induction n with
    | zero => intro s s' h; omega
    | succ n ih =>
      intro s s' h hi
      rcases hs s s' hi with ⟨t, t', h1, h2, h3, h4⟩ | ⟨r, r', h1, h2, h3⟩
      · rw [h1, bP_u h2]
        exact ih t t' (by omega) h3
      · exact ⟨r, r', h1, bP_r h2, h3⟩
  exact key (μ s' + 1) s s' (Nat.lt_succ_self _) h0
theorem min_1 {nx no : Nat} (h : nx ≤ no) (hn : no ≤ 12) : jmin (nI no) (nI nx + 1) = nI (min no (nx + 1)) := by
  rw [nI_1]
  unfold jmin
  by_cases q : nx + 1 < no
  · rw [if_pos (nI_lt q (by omega)), Nat.min_eq_right (by omega)]
  · rw [if_neg (nI_nlt (by omega) (by omega)), Nat.min_eq_left (by omega)]
/-- the class at the same point: t's own rounds -/
def WC (nt t : Nat) (Sc Um : pS) (s : Int32 × Int32 × Int32 × Int32 × Int32 × pS) (U : pS) : Prop := ∃ rd tn, WI nt rd tn Um U ∧ ∃ T : pS, fC Sc T ∧ s = (U 1 (5 + 7 * t), U 1 (6 + 7 * t), U 1 (7 + 7 * t), U 1 (8 + 7 * t), nI (if t < tn then rd + 1 else rd), T)
theorem M_would {Sc Sm : pS} (hR : (Rel gG) Sc Sm) (a1 : Int32) : R2 (F11_would Sc a1) (F12_would Sm a1) (Ans gG) := by
  obtain ⟨ns, nt, nl, ng, rd0, tn0, nu, la, np, hW, hrest⟩ := id hR
  have hE := hW.1
  have h2 := hW.2.1
  have hnt := h2.2.1
  have c5 : Sc 1 5 = nI nt := (hE 68 1 5 rfl).trans h2.2.2.2.2.2.2.2.1
  unfold F11_would F12_would
  by_cases ht : ¬ isN a1 nt
  · rw [one_f c5 hnt ht, bB_s, bO_0, thr_f h2.2.2.2.2.2.2.2.1 hnt ht, if_pos rfl]
    exact r2_A hR
  have hta := Classical.not_not.mp ht
  clear ht
  obtain ⟨t, ht, rfl⟩ := hta
  have ht8 : t < 8 := by omega
  rw [one_t c5 hnt ht, bB_s, bO_1, thr_t h2.2.2.2.2.2.2.2.1 hnt ⟨t, ht, rfl⟩, if_neg n10]
  simp only [bL_d]
  -- what is saved
  refine r2_rB (P := fun U => (∀ k, k ≠ 10 → U k = Sm k) ∧ ∀ j, j < 60 → U 10 j = Sm 1 j) (ok_P 60 (fun i s => ∃ U, s = (nI i, U) ∧ (∀ k, k ≠ 10 → U k = Sm k) ∧ ∀ j, j < i → U 10 j = Sm 1 j) ?_ ?_ ?_) ?_
  · exact ⟨Sm, rfl, fun _ _ => rfl, fun j hj => absurd hj (Nat.not_lt_zero _)⟩
  · rintro i s hi ⟨U, rfl, q1, q2⟩
    simp only [u2_d]
    rw [if_neg (nge 60 (b := 60) rfl hi (by decide)), bG_t (vp_in_nI (by omega) (by decide)), bG_t (vp_in_nI hi (by decide)), nI_clamp (by omega), nI_1, q1 1 (by decide)]
    refine ok_s ⟨_, rfl, fun k hk => by rw [sU_ne hk]; exact q1 k hk, fun j hj => ?_⟩
    rw [sU_get]
    by_cases e : j = i
    · rw [if_pos ⟨rfl, e⟩, e]
    · rw [if_neg (by omega)]; exact q2 j (by omega)
  · rintro s ⟨U, rfl, hq⟩
    simp only [u2_d]
    rw [if_pos (by decide)]
    exact ok_s hq
  rintro Um ⟨hUm, hU10⟩
  have m1 : Um 1 = Sm 1 := hUm 1 (by decide)
  obtain ⟨b1, b2, b3, nx0, no0, b4, b5, b6, b7, -⟩ := hW.2.2.1 t ht
  have hst : (if Sc 1 3 ≤ nI t then Sc 1 2 else Sc 1 2 + 1) = nI (if t < tn0 then rd0 + 1 else rd0) := by
    rw [(hE 0 1 2 rfl).trans h2.2.2.2.2.2.2.2.2.2.2.1, (hE 1 1 3 rfl).trans h2.2.2.2.2.2.2.2.2.2.2.2.1]
    have hb0 := h2.2.2.2.2.2.1
    by_cases e : t < tn0
    · rw [if_neg (nI_ge e (by omega)), if_pos e, nI_1]
    · rw [if_pos (nI_le (by omega) (by omega)), if_neg e]
  have hI0 : WI nt rd0 tn0 Um Um := by
    refine ⟨h2.2.2.2.2.1, h2.2.2.2.2.2.1, by rw [m1]; exact h2.2.2.2.2.2.2.2.2.2.2.1, by rw [m1]; exact h2.2.2.2.2.2.2.2.2.2.2.2.1, fun _ _ _ _ _ => rfl, fun _ _ => rfl, fun _ _ => rfl, fun s hs => ?_⟩
    obtain ⟨d1, d2, d3, mx, mo, d4, d5, d6, d7, -⟩ := hW.2.2.1 s hs
    rw [m1]
    exact ⟨rfl, d2, d3, mx, mo, d4, d5, d7, d6⟩
  simp only [u1_d]
  have hgo : ∀ (x : Int32), x = nI (if t < tn0 then rd0 + 1 else rd0) → WC nt t Sc Um (Sc (29 + 2 * t) 1, Sc (29 + 2 * t) 2, Sc (29 + 2 * t) 3, Sc (29 + 2 * t) 5, x, Sc) Um := by
    intro x hx
    refine ⟨rd0, tn0, hI0, Sc, fC_r Sc, ?_⟩
    rw [RE_t1 hE ht8, RE_t2 hE ht8, RE_t3 hE ht8, RE_t5 hE ht8, hx, m1]
  have core : R2
      (bP (u6 fun (l3_10 : Int32) (l4_11 : Int32) (l5_12 : Int32) (l6_13 : Int32) (l8_14 : Int32) (S_15 : pS) =>
      if 6 ≤ l8_14 then
        some (.inr (l4_11, S_15))
      else
        bB (F8_wouldThrow S_15 (29 + 2 * t) l6_13 l4_11 l3_10) fun r_17 =>
        if r_17 = 0 then
          some (.inl (l3_10, l4_11, l5_12, jmin (S_15 (29 + 2 * t) 4) (l6_13 + 1), l8_14 + 1, S_15))
        else
          bB (F8_order S_15 (29 + 2 * t) l6_13 0) fun r_24 =>
          bB (F8_order S_15 (29 + 2 * t) l6_13 3) fun r_25 =>
          bB (F8_order S_15 (29 + 2 * t) l6_13 1) fun r_27 =>
          bB (F8_order (F0_ask S_15 63 (29 + 2 * t) l8_14) (29 + 2 * t) l6_13 3) fun r_29 =>
          bB2 (F0_tell (F0_askBest (F0_askState (F0_askThrow (F0_ask S_15 63 (29 + 2 * t) l8_14) 63 (jmin (r_24 + r_25) (S_15 (29 + 2 * t) 0)) r_29 r_27) 63 l3_10 l5_12) 63 l4_11) 63 15 1) fun r_33 S_34 =>
          bB (F8_order S_34 (29 + 2 * t) l6_13 2) fun r_37 =>
          bB2 (F7_goodFar S_34 59 1 (jmin (r_24 + r_25) (S_15 (29 + 2 * t) 0)) r_27 r_37 (S_34 2 0)) fun r_38 S_39 =>
          some (.inl (jmin 1000 (l3_10 + r_33), jmax l4_11 r_38, l5_12 + 1, jmin (S_39 (29 + 2 * t) 4) (l6_13 + 1), l8_14 + 1, S_39)))
        (Sc (29 + 2 * t) 1, Sc (29 + 2 * t) 2, Sc (29 + 2 * t) 3, Sc (29 + 2 * t) 5, (if Sc 1 3 ≤ nI t then Sc 1 2 else Sc 1 2 + 1), Sc))
      (bP (fun (S_11 : pS) =>
        if (F12_isOn S_11) = 0 then
          some (.inr S_11)
        else
          bB (F12_isMeant S_11) fun S_13 =>
          some (.inl S_13)) Um) (fun p U => p.1 = U 1 (6 + 7 * t) ∧ fC Sc p.2 ∧ ∃ rd tn, WI nt rd tn Um U) := by
    refine r2_N (WC nt t Sc Um) (fun U => 8 * (6 - (U 1 0).toNatClampNeg) + (8 - (U 1 1).toNatClampNeg)) ?_ ?_
    · rw [hst]; exact hgo _ rfl
    · rintro s U ⟨rd, tn, hI, T, hT, rfl⟩
      have w1 := hI.1
      have w2 := hI.2.1
      have w3 := hI.2.2.1
      have w4 := hI.2.2.2.1
      have u68 : U 1 68 = nI nt := by rw [hI.2.2.2.2.2.2.1 68 (by decide), m1]; exact h2.2.2.2.2.2.2.2.1
      by_cases hrd : rd = 6
      · subst hrd
        right
        refine ⟨(U 1 (6 + 7 * t), T), U, bP_r ?_, ?_, rfl, hT, 6, tn, hI⟩
        · simp only [u6_d]
          rw [if_pos (by split <;> decide)]
        · rw [isOn_f w3 u68 w1 (Or.inl rfl), if_pos rfl]
      · have hrd : rd ≤ 5 := by omega
        have htn : tn < nt := by omega
        left
        rw [isOn_t w3 u68 hrd (by omega) hnt, if_neg n10, w3, w4, nI_clamp (by omega), nI_clamp (by omega)]
        obtain ⟨U', rd', tn', nx, no, z, k1, k2, k3, k4, k5, k6, k7, k8, k9, ko, kp, kz1, kz0⟩ := L_meant hW hUm hI hrd htn
        have hmu : 8 * (6 - (U' 1 0).toNatClampNeg) + (8 - (U' 1 1).toNatClampNeg) < 8 * (6 - rd) + (8 - tn) := by
          have := k2.1
          rw [k2.2.2.1, k2.2.2.2.1, nI_clamp (by omega), nI_clamp (by omega)]
          omega
        by_cases e : tn = t
        · subst e
          have hcr : nI (if tn < tn' then rd' + 1 else rd') = nI rd + 1 := by
            rw [nI_1]
            congr 1
            split <;> omega
          have hT4 : T (29 + 2 * tn) 4 = nI no := by rw [hT _ (by unfold scC; omega), RE_t4 hE ht8, k7]
          have hT0 : T (29 + 2 * tn) 0 = Sm 1 (4 + 7 * tn) := by rw [hT _ (by unfold scC; omega), RE_t0 hE ht8]
          rcases k4 with rfl | rfl
          · obtain ⟨f, a, s, p, b, o1, o2, o3, o4, o5⟩ := kz0 rfl
            let T1 := F0_askBest (F0_askState (F0_askThrow (F0_ask T 63 (29 + 2 * tn) (nI rd)) 63 (nI b) (nI p) (nI a)) 63 (U 1 (5 + 7 * tn)) (U 1 (7 + 7 * tn))) 63 (U 1 (6 + 7 * tn))
            have hq : fC Sc (F0_ask T 63 (29 + 2 * tn) (nI rd)) := fC_t hT (fun k hk => ask_ne (fun e => hk (by unfold scC; omega)))
            have hT1 : fC Sc T1 := fC_t hq (fun k hk => by
              have e : k ≠ 63 + 1 := fun e => hk (by unfold scC; omega)
              show F0_askBest _ 63 _ k = _
              rw [be_ne e, st_ne e, thr_ne e])
            have hA : AV 63 T1 (nI b) (nI p) (nI a) (U 1 (5 + 7 * tn)) (Sm 1 (4 + 7 * tn)) (U 1 (7 + 7 * tn)) (U 1 (6 + 7 * tn) / 100) (nI rd) := by
              have := AV_be (b' := U 1 (6 + 7 * tn)) (AV_st (w' := U 1 (5 + 7 * tn)) (th' := U 1 (7 + 7 * tn)) (AV_thr (f' := nI b) (p' := nI p) (a' := nI a) (AV_ask (A := 63) (o := 29 + 2 * tn) (T := T) (rd := nI rd) (by omega))))
              rw [hT0] at this
              exact this
            obtain ⟨rw1, T2, l1, l2, l3⟩ := o4 T1 hT1 hA
            have hT2 := fC_t hT1 l2
            obtain ⟨gf, T3, g1, g2, g3⟩ := o5 T2 (by first | exact l2 | exact hT2)
            refine ⟨(jmin 1000 (U 1 (5 + 7 * tn) + rw1), jmax (U 1 (6 + 7 * tn)) gf, U 1 (7 + 7 * tn) + 1, jmin (T3 (29 + 2 * tn) 4) (nI nx + 1), nI rd + 1, T3), U', bP_u ?_, by rw [k1, bB_s], ⟨rd', tn', k2, T3, ?_, ?_⟩, hmu⟩
            · simp only [u6_d]
              have ha : ∀ k, F0_ask T 63 (29 + 2 * tn) (nI rd) k = F0_ask T 63 (29 + 2 * tn) (nI rd) k := fun _ => rfl
              rw [if_neg (Nat.lt_irrefl tn), if_neg (nge 6 (b := 6) rfl (by omega) (by decide)), k8, kp T hT, bB_s, if_neg (by decide), (o1 T hT).1, bB_s, (o1 T hT).2.2.2, bB_s, (o1 T hT).2.1, bB_s, (o1 _ hq).2.2.2, bB_s, hT0, o2]
              rw [show F0_tell (F0_askBest (F0_askState (F0_askThrow (F0_ask T 63 (29 + 2 * tn) (nI rd)) 63 (nI b) (nI p) (nI a)) 63 (U 1 (5 + 7 * tn)) (U 1 (7 + 7 * tn))) 63 (U 1 (6 + 7 * tn))) 63 15 1 = some (rw1, T2) from l1, bB2_s, (o1 T2 hT2).2.2.1, bB_s, hT2 2 (by unfold scC; omega), hE 60 2 0 rfl, g1, bB2_s]
            · exact fC_t hT2 g2
            · have hT34 : T3 (29 + 2 * tn) 4 = nI no := by rw [fC_t hT2 g2 _ (by unfold scC; omega), RE_t4 hE ht8, k7]
              rw [l3, g3, o3, k9, hcr, hT34, min_1 k5 k6]
          · refine ⟨(U 1 (5 + 7 * tn), U 1 (6 + 7 * tn), U 1 (7 + 7 * tn), jmin (T (29 + 2 * tn) 4) (nI nx + 1), nI rd + 1, T), U', bP_u ?_, by rw [k1, bB_s], ⟨rd', tn', k2, T, hT, ?_⟩, hmu⟩
            · simp only [u6_d]
              rw [if_neg (Nat.lt_irrefl tn), if_neg (nge 6 (b := 6) rfl (by omega) (by decide)), k8, kp T hT, bB_s, if_pos (by decide)]
            · have q := kz1 rfl
              have q1 := q 1 (by decide)
              have q2 := q 2 (by decide)
              have q3 := q 3 (by decide)
              rw [show 4 + 1 + 7 * tn = 5 + 7 * tn by omega] at q1
              rw [show 4 + 2 + 7 * tn = 6 + 7 * tn by omega] at q2
              rw [show 4 + 3 + 7 * tn = 7 + 7 * tn by omega] at q3
              rw [q1, q2, q3, k9, hcr, hT4, min_1 k5 k6]
        · refine ⟨_, U', rfl, by rw [k1, bB_s], ⟨rd', tn', k2, T, hT, ?_⟩, hmu⟩
          have q1 := ko t ht (fun q => e q.symm) 1 (by decide)
          have q2 := ko t ht (fun q => e q.symm) 2 (by decide)
          have q3 := ko t ht (fun q => e q.symm) 3 (by decide)
          have q4 := ko t ht (fun q => e q.symm) 4 (by decide)
          rw [show 4 + 1 + 7 * t = 5 + 7 * t by omega] at q1
          rw [show 4 + 2 + 7 * t = 6 + 7 * t by omega] at q2
          rw [show 4 + 3 + 7 * t = 7 + 7 * t by omega] at q3
          rw [show 4 + 4 + 7 * t = 8 + 7 * t by omega] at q4
          have hx : (if t < tn then rd + 1 else rd) = (if t < tn' then rd' + 1 else rd') := by split <;> split <;> omega
          rw [q1, q2, q3, q4, hx]
  have fin : ∀ (p : Int32 × pS) (U : pS), (p.1 = U 1 (6 + 7 * t) ∧ fC Sc p.2 ∧ ∃ rd tn, WI nt rd tn Um U) → R2 (some p)
      (bB (F12_own U (nI t) 2) fun r_3 =>
        bB (bP (u2 fun (l3_5 : Int32) (S_6 : pS) =>
          if 60 ≤ l3_5 then
            some (.inr S_6)
          else
            bG (vp_in l3_5 60) <|
            bG (vp_in l3_5 4296) <|
            some (.inl (l3_5 + 1, sU S_6 1 l3_5.toNatClampNeg (S_6 10 l3_5.toNatClampNeg)))) ((0 : Int32), U)) fun S_4 => some (r_3, S_4)) (Ans gG) := by
    rintro ⟨x, T⟩ U ⟨hx, hT, rd, tn, hI⟩
    simp only at hx hT
    obtain ⟨-, -, -, -, w5, w6, w7, -⟩ := hI
    rw [own2 _ ht8, bB_s]
    refine r2_rB (P := fun (V : pS) => (∀ k, k ≠ 1 → V k = U k) ∧ (∀ j, j < 60 → V 1 j = Sm 1 j) ∧ ∀ j, 60 ≤ j → V 1 j = Sm 1 j) (ok_P 60 (fun i s => ∃ V : pS, s = (nI i, V) ∧ (∀ k, k ≠ 1 → V k = U k) ∧ (∀ j, j < i → V 1 j = Sm 1 j) ∧ ∀ j, 60 ≤ j → V 1 j = Sm 1 j) ?_ ?_ ?_) ?_
    · exact ⟨U, rfl, fun _ _ => rfl, fun j hj => absurd hj (Nat.not_lt_zero _), fun j hj => by rw [w7 j hj, m1]⟩
    · rintro i s hi ⟨V, rfl, q1, q2, q3⟩
      simp only [u2_d]
      rw [if_neg (nge 60 (b := 60) rfl hi (by decide)), bG_t (vp_in_nI hi (by decide)), bG_t (vp_in_nI (by omega) (by decide)), nI_clamp (by omega), nI_1, q1 10 (by decide), w5 10 (by decide) (by decide) (by decide) (by decide)]
      refine ok_s ⟨_, rfl, fun k hk => by rw [sU_ne hk]; exact q1 k hk, fun j hj => ?_, fun j hj => ?_⟩
      · rw [sU_get]
        by_cases e : j = i
        · rw [if_pos ⟨rfl, e⟩, e, hU10 i hi]
        · rw [if_neg (by omega)]; exact q2 j (by omega)
      · rw [sU_n (by omega)]; exact q3 j hj
    · rintro s ⟨V, rfl, hq⟩
      simp only [u2_d]
      rw [if_pos (by decide)]
      exact ok_s hq
    rintro V ⟨q1, q2, q3⟩
    refine r2_s ⟨hx, Rel_fr hR hT ⟨fun k h0 hk => ?_, fun j hj => ?_⟩⟩
    · by_cases e : k = 1
      · subst e
        funext j
        by_cases hj : j < 60
        · exact q2 j hj
        · exact q3 j (by omega)
      · show V k = Sm k
        rw [q1 k e, w5 k h0 e (fun e => hk (by unfold scM; omega)) (fun e => hk (by unfold scM; omega)), hUm k (fun e => hk (by unfold scM; omega))]
    · show V 0 j = Sm 0 j
      rw [q1 0 (by decide), w6 j hj, hUm 0 (by decide)]
  by_cases hc : Sc 1 3 ≤ nI t
  · rw [if_pos hc] at core ⊢
    exact r2_B core (fun p U h => fin p U h)
  · rw [if_neg hc] at core ⊢
    exact r2_B core (fun p U h => fin p U h)

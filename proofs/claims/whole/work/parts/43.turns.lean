variable {gG : Nat → Int32}
/-! throwIt, turnsGo -/
theorem Rel_thr {Sc Sm T U T1 U1 T' U' : pS} {ns nt nl ng rd tn nu la : Nat} {x : Int32} (hR : (Rel gG) Sc Sm) (hW : RW 1 1 ns nt nl ng rd tn Sc Sm) (hP : PastR nu la nt Sc Sm) (hrd : rd ≤ 5) (htn : tn < nt)
    (hT : T 65 0 = nI (min 8 (nu + 1)) ∧ T 65 1 = nI ((la + 1) % 8) ∧ (∀ k, k ≠ 65 → k ≠ 67 + (la + 1) % 8 → T k = Sc k) ∧ T (67 + (la + 1) % 8) 0 = Sc 1 0 ∧ T (67 + (la + 1) % 8) 1 = Sc 1 6 ∧ T (67 + (la + 1) % 8) 2 = Sc 1 2 ∧ T (67 + (la + 1) % 8) 3 = Sc 1 3 ∧ T (67 + (la + 1) % 8) 4 = Sc (29 + 2 * tn) 1 ∧ T (67 + (la + 1) % 8) 5 = Sc (29 + 2 * tn) 2 ∧ T (67 + (la + 1) % 8) 6 = Sc (29 + 2 * tn) 3 ∧ T (67 + (la + 1) % 8) 7 = Sc (29 + 2 * tn) 5)
    (hU : U 0 3 = nI (min 8 (nu + 1)) ∧ (∀ k, k ≠ 0 → k ≠ 3 → U k = Sm k) ∧ (∀ j, j ≠ 3 → U 0 j = Sm 0 j) ∧ (∀ i, i < 60 → U 3 (60 * (min 8 (nu + 1) - 1) + i) = Sm 1 i) ∧ ∀ j i, j + 1 < min 8 (nu + 1) → i < 60 → U 3 (60 * (min 8 (nu + 1) - 1 - (j + 1)) + i) = Sm 3 (60 * (nu - 1 - j) + i))
    (hT1 : T1 = T) (hU1 : (∀ k, k ≠ 1 → U1 k = U k) ∧ ∀ j, j ≠ 8 + 7 * tn → U1 1 j = U 1 j) (h : ThrS ns nt nl ng tn x T1 U1 T' U') (hx : RW 1 1 ns nt nl ng rd tn (sU T (29 + 2 * tn) 5 x) U1) : (Rel gG) (sU T' (29 + 2 * tn) 5 x) U' := by
  subst hT1
  obtain ⟨nl2, rd', tn', l1, l2, l3, l4, l5, l6, l7, l8⟩ := h
  have hnt := hW.2.1.2.1
  have e1 : ∀ j, j ≠ 8 + 7 * tn → (4 ≤ j ∧ j < 60 ∧ j ≠ 5 + 7 * tn ∧ j ≠ 6 + 7 * tn ∧ j ≠ 7 + 7 * tn) ∨ (60 ≤ j ∧ j < 3296) → U' 1 j = Sm 1 j := fun j a b => by
    rw [l8 j b, hU1.2 j a, hU.2.1 1 (by decide) (by decide)]
  refine Rel_of hR l3 (Past_push (nl2 := nl2) hW hP hrd htn hT hU (fun k hk => ?_) ?_ ?_ ⟨l1, l2⟩ ?_ ?_ ?_ ?_) ?_ ?_
  · rw [sU_ne (by omega)]; exact l5 k (by omega) (by unfold scC; omega)
  · rw [l7 3 (by decide), hU1.1 0 (by decide)]
  · rw [l6 3 (by decide) (by decide) (by unfold scM; omega), hU1.1 3 (by decide)]
  · exact l3.2.1.2.2.2.2.2.2.2.2.1
  · exact e1 _ (by omega) (by omega)
  · intro t ht hne f hf
    exact e1 _ (by omega) (by omega)
  · intro t ht
    exact e1 _ (by omega) (by omega)
  · intro k a b c d
    rw [sU_ne (by omega), l5 k (by omega) d]
    exact hT.2.2.1 k b (by omega)
  · refine ⟨fun k a b c d => ?_, fun j a b => ?_⟩
    · rw [l6 k a b d, hU1.1 k b]; exact hU.2.1 k a c
    · rw [l7 j a, hU1.1 0 (by decide)]; exact hU.2.2.1 j b
theorem M_throwIt {Sc Sm : pS} (hR : (Rel gG) Sc Sm) (a1 a2 a3 a4 : Int32) : R2 (F11_throwIt Sc a1 a2 a3 a4) (F12_throwIt Sm a1 a2 a3 a4) (Ans gG) := by
  obtain ⟨ns, nt, nl, ng, rd, tn, nu, la, np, hW, hP, -⟩ := id hR
  have h2 := hW.2.1
  have hnt := h2.2.1
  have h1 : Sm 1 1 = nI tn := hW.2.1.2.2.2.2.2.2.2.2.2.2.2.1
  have h0 : Sm 1 0 = nI rd := hW.2.1.2.2.2.2.2.2.2.2.2.2.1
  have h68 : Sm 1 68 = nI nt := hW.2.1.2.2.2.2.2.2.2.1
  have h67 : Sm 1 67 = nI ns := hW.2.1.2.2.2.2.2.2.1
  have c3 : Sc 1 3 = nI tn := (hW.1 1 1 3 rfl).trans h1
  have c2 : Sc 1 2 = nI rd := (hW.1 0 1 2 rfl).trans h0
  have c5 : Sc 1 5 = nI nt := (hW.1 68 1 5 rfl).trans h68
  have c4 : Sc 1 4 = nI ns := (hW.1 67 1 4 rfl).trans h67
  unfold F11_throwIt F12_throwIt
  by_cases h : rd ≤ 5 ∧ tn < nt
  · have ht8 : tn < 8 := by omega
    rw [whose_t c2 c3 c5 h.1 h.2 hnt, bB_s, bO_1, isOn_t h0 h68 h.1 (by omega) hnt, if_neg n10, RE_t1 hW.1 ht8, wie, h1, own1 _ ht8, bB_s]
    obtain ⟨w, hw, ew⟩ := (hW.2.2.1 tn h.2).2.1
    rw [ew]
    by_cases g1 : isN a1 100
    · rw [in_t (m := 99) (n := 99) rfl (by decide) g1, if_neg n10]
      by_cases g2 : isN a2 61
      · rw [in_t (m := 60) (n := 60) rfl (by decide) g2, if_neg n10]
        by_cases g3 : isN a3 ns
        · rw [spe_t h67 h2.1 g3, if_neg n10, cth_t c4 h2.1 g1 g2 g3, if_neg n10]
          by_cases g4 : isN a4 10
          · rw [in_t (m := 9) (n := 9) rfl (by decide) g4, if_neg n10, if_neg n10]
            by_cases gw : w = 1000
            · subst gw
              rw [if_pos (show (1000 : Int32) ≤ nI 1000 by decide), if_pos (show nI 1000 = 1000 from rfl)]; exact r2_A hR
            · rw [if_neg (nge 1000 (b := 1000) rfl (by omega) (by decide)), if_neg (xne 1000 (b := 1000) rfl gw (by omega) (by decide)), hurl_d]
              obtain ⟨f, hf, rfl⟩ := g1
              obtain ⟨a, ha, rfl⟩ := g2
              obtain ⟨s, hs, rfl⟩ := g3
              obtain ⟨p, hp, rfl⟩ := g4
              obtain ⟨T, hT, hT'⟩ := L_remember (t := tn) hP.1 hP.2.1 (by omega) hP.2.2.2.1 hP.2.2.2.2.1
              obtain ⟨U, hU, hU'⟩ := L_keeps hP.1 hP.2.2.1
              rw [hT, bB_s, hU, bB_s]
              have hWT : RW 1 1 ns nt nl ng rd tn T U := RW_fr hW (fun k a b _ _ _ => hT'.2.2.1 k (by omega) (by omega)) (hU'.2.1 1 (by decide) (by decide))
              have hWx : RW 1 1 ns nt nl ng rd tn (sU T (29 + 2 * tn) 5 (T (29 + 2 * tn) 5)) U := by rw [sU_id]; exact hWT
              refine r2_C (L_throw hWx h.2 h.1 hf ha hs hp) ?_
              rintro v T' v' U' ⟨rfl, hq⟩
              have := Rel_thr hR hW hP h.1 h.2 hT' hU' rfl ⟨fun _ _ => rfl, fun _ _ => rfl⟩ hq hWx
              obtain ⟨_, _, _, _, _, _, e5, _⟩ := hq
              have e5' : T' (29 + 2 * tn) 5 = T (29 + 2 * tn) 5 := e5
              have : (Rel gG) (sU T' (29 + 2 * tn) 5 (T (29 + 2 * tn) 5)) U' := this
              rw [← e5', sU_id] at this
              exact r2_ans this
          · rw [in_f (m := 9) (n := 9) rfl (by decide) g4, if_pos rfl, if_pos rfl, ite_self]; exact r2_A hR
        · rw [spe_f h67 h2.1 g3, if_pos rfl, cth_f c4 h2.1 (fun q => g3 q.2.2), if_pos rfl, ite_self]; exact r2_A hR
      · rw [in_f (m := 60) (n := 60) rfl (by decide) g2, if_pos rfl, cth_f c4 h2.1 (fun q => g2 q.2.1), if_pos rfl, ite_self]; exact r2_A hR
    · rw [in_f (m := 99) (n := 99) rfl (by decide) g1, if_pos rfl, cth_f c4 h2.1 (fun q => g1 q.1), if_pos rfl, ite_self]; exact r2_A hR
  · have h6 : rd = 6 ∨ nt = 0 := by have := h2.2.2.2.2.1; have := h2.2.2.2.2.2.1; omega
    rw [whose_f c2 c3 c5 h2.2.2.2.2.1 h6, bB_s, bO_0, isOn_f h0 h68 h2.2.2.2.2.1 h6, if_pos rfl]
    exact r2_A hR

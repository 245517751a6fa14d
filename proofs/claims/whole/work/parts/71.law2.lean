section
/-! a whole law, side by side -/
def LK (r : Nat) (T U : pS) : Prop := ∃ nl st, nl ≤ 16 ∧ T 51 0 = nI nl ∧ U 0 13 = nI nl ∧ T 51 1 = nI st ∧ U 0 14 = nI st ∧ st ≤ 400 ∧ (∀ q, q < st → SR (lix r) (kS T q) (nS T q) (T 56 q) (U 5 (2 * q)) (U 5 (2 * q + 1))) ∧ ∀ i, i < nl → lnOK r i st T U
def GL (b : Nat → Nat) (n r m : Nat) (K V P A : Nat → Nat) (i : Nat) (T U : pS) : Prop := ∃ nl j st, PL b n r m K V P A j st T U ∧ st ≤ j ∧ i ≤ j ∧ nl ≤ 16 ∧ T 51 0 = nI nl ∧ U 0 13 = nI nl ∧ T 45 2 = -1 ∧ ∀ i, i < nl → lnOK r i st T U
theorem bB_a3 {α β γ : Type} (x : Option α) (f : α → Option β) (g : β → Option γ) : bB (bB x f) g = bB x fun a => bB (f a) g := by cases x <;> rfl
theorem bB_b3 {α σ β γ : Type} (x : Option (α × σ)) (f : α → σ → Option β) (g : β → Option γ) : bB (bB2 x f) g = bB2 x fun a s => bB (f a s) g := by cases x <;> rfl
theorem bB_i3 {β γ : Type} {c : Prop} [h : Decidable c] (x y : Option β) (g : β → Option γ) : bB (if c then x else y) g = if c then bB x g else bB y g := by
  by_cases q : c
  · rw [if_pos q, if_pos q]
  · rw [if_neg q, if_neg q]
theorem P_laws {b : Nat → Nat} {n r m : Nat} {K V P A : Nat → Nat} (hr : r = 0 ∨ r = 1 ∨ r = 3) (hK : Toks b n r m K V P A) {T0 U0 : pS} {bC : Int32 × pS → Option ((Int32 × pS) ⊕ pS)} {bM : Int32 × pS → Option ((Int32 × pS) ⊕ (Int32 × pS))}
    (hC : bC = u2 fun (l3_5 : Int32) (S_6 : pS) => if 400 ≤ l3_5 then some (.inr S_6) else if (S_6 45 1) = 0 then if (S_6 46 1) = 2 then some (.inr S_6) else if (S_6 46 1) < 260 then some (.inl (l3_5 + 1, F5_fail S_6 45 1)) else if (S_6 46 1) < (S_6 45 6) then if (S_6 51 0) < 16 then bB (bB (F6_next S_6 46) fun S_12 => bB (F3_beginLine S_12 51 ((S_6 46 1) - 260)) fun S_13 => bB (F5_sum S_13 45) fun S_14 => bB (F3_beginWhen S_14 51) fun S_15 => bB2 (F5_taken S_15 45 256) fun r_16 S_17 => if r_16 = 0 then (bB (F5_take S_17 45 59) fun S_19 => bB (F3_endLine S_19 51) fun S_20 => some S_20) else bB (F5_anyOf S_17 45 0) fun S_21 => bB (F5_take S_21 45 59) fun S_19 => bB (F3_endLine S_19 51) fun S_20 => some S_20) fun S => some (.inl (l3_5 + 1, S)) else some (.inl (l3_5 + 1, F5_fail S_6 45 3)) else some (.inl (l3_5 + 1, F5_fail S_6 45 1)) else some (.inr S_6))
    (hM : bM = u2 fun (l1_5 : Int32) (S_6 : pS) => if l1_5 = 0 then some (.inr (l1_5, S_6)) else if (S_6 0 18) = 0 then some (.inr (l1_5, S_6)) else bB2 (F12_aLine S_6) fun r_8 S_9 => if r_8 = 0 then some (.inl (r_8, sU S_9 0 13 ((S_9 0 13) + 0))) else some (.inl (r_8, sU S_9 0 13 ((S_9 0 13) + 1))))
    (h0 : GL b n r m K V P A 0 T0 U0) :
    R2 (bP bC (0, T0)) (bP bM (1, U0)) (fun T' q => frC T0 T' ∧ frW U0 q.2 ∧ ((q.1 = 1 ∧ GL b n r m K V P A 0 T' q.2) ∨ (q.1 = 0 ∧ BD n m K V P (faN r) T' (q.2 0 21) (q.2 0 22)))) := by
  subst hC; subst hM
  refine r2_P 400 (fun i s s' => ∃ T v U, s = (nI i, T) ∧ s' = (v, U) ∧ frC T0 T ∧ frW U0 U ∧ ((v = 1 ∧ GL b n r m K V P A i T U) ∨ (v = 0 ∧ BD n m K V P (faN r) T (U 0 21) (U 0 22)))) ?_ ?_ ?_
  · exact ⟨T0, 1, U0, rfl, rfl, frC_r _, frW_r _, Or.inl ⟨rfl, h0⟩⟩
  · rintro i s s' hi ⟨T, v, U, rfl, rfl, hfC, hfW, ⟨rfl, nl, j, st, h, hst, hij, hnl, e51, e13, e452, hln⟩ | ⟨rfl, hb⟩⟩
    · obtain ⟨hT, h1, hU, hj⟩ := P_ty h
      obtain ⟨tf, tk, tv, tl, tm⟩ := tkF hr hK hj
      obtain ⟨-, -, -, t4, -, -, -, -, -, -, -, -, -, -, -, -, -, -, t0, t20, -⟩ := tmF tf
      have tkk := (tkG hK hj).2.2.2.2
      have e0 : nI (tmN r (K j)) = 0 ↔ K j = 2 := (tmq t4 (x := 0) (by decide)).trans t0
      have c2 : nI (K j) = 2 ↔ K j = 2 := nI_eq (b := 2) (by omega) (by decide)
      simp only [u2_d]
      rw [if_neg (nge 400 (b := 400) rfl hi (by decide)), if_pos h1, hT, if_neg n10, hU]
      have hin : F12_isIn (nI (tmN r (K j))) 20 28 = if 260 ≤ K j ∧ K j < faN r then 1 else 0 := by
        rw [isIn_d]
        have e1 : (20 : Int32) ≤ nI (tmN r (K j)) ↔ 20 ≤ tmN r (K j) := nI_leI (a := 20) (by decide) (by omega)
        have e2 : nI (tmN r (K j)) ≤ (28 : Int32) ↔ tmN r (K j) ≤ 28 := nI_leI (b := 28) (by omega) (by decide)
        by_cases z : 260 ≤ K j ∧ K j < faN r
        · rw [if_pos z, if_pos ⟨e1.mpr (t20.mpr z).1, e2.mpr (t20.mpr z).2⟩]
        · rw [if_neg z, if_neg (fun q => z (t20.mp ⟨e1.mp q.1, e2.mp q.2⟩))]
      by_cases q2 : K j = 2
      · rw [if_pos (c2.mpr q2), if_pos (e0.mpr q2)]
        exact r2_s ⟨hfC, hfW, Or.inl ⟨rfl, nl, j, st, h, hst, Nat.zero_le _, hnl, e51, e13, e452, hln⟩⟩
      · rw [if_neg (fun z => q2 (c2.mp z)), if_neg (fun z => q2 (e0.mp z))]
        have hbad : ∀ x : Nat, 0 < x → x < 4 → F12_aLine U = (bT2 (F12_bad U (nI x)) fun r_21 S_22 => some ((r_21 &&& 1), S_22)) → R2 (some (Sum.inl (nI i + 1, F5_fail T 45 (nI x))) : Option ((Int32 × pS) ⊕ pS)) (bB2 (F12_aLine U) fun r_8 S_9 => if r_8 = 0 then some (Sum.inl (r_8, sU S_9 0 13 ((S_9 0 13) + 0))) else some (Sum.inl (r_8, sU S_9 0 13 ((S_9 0 13) + 1)))) (sumR (fun s s' => ∃ T v U, s = (nI (i + 1), T) ∧ s' = (v, U) ∧ frC T0 T ∧ frW U0 U ∧ ((v = 1 ∧ GL b n r m K V P A (i + 1) T U) ∨ (v = 0 ∧ BD n m K V P (faN r) T (U 0 21) (U 0 22)))) (fun T' (q : Int32 × pS) => frC T0 T' ∧ frW U0 q.2 ∧ ((q.1 = 1 ∧ GL b n r m K V P A 0 T' q.2) ∨ (q.1 = 0 ∧ BD n m K V P (faN r) T' (q.2 0 21) (q.2 0 22))))) := by
          intro x hx0 hx4 hal
          obtain ⟨U', a1, a2, a3, a4⟩ := P_fail (x := x) h (show st ≤ 400 by omega) hx0 hx4
          rw [hal, a1, bT2_s, show (0 : Int32) &&& 1 = 0 by decide, bB2_s, if_pos rfl, nI_1]
          refine r2_s ⟨_, 0, _, rfl, rfl, frC_t hfC a3, frW_t hfW (frW_t (frU_W a2) (frW_13 _ _)), Or.inr ⟨rfl, ?_⟩⟩
          rw [sU_n (show ¬ (0 = 0 ∧ 21 = 13) by omega), sU_n (show ¬ (0 = 0 ∧ 22 = 13) by omega)]
          exact a4
        by_cases q260 : K j < 260
        · rw [if_pos (show nI (K j) < 260 from nI_lt (b := 260) q260 (by decide))]
          refine hbad 1 (by decide) (by decide) ?_
          unfold F12_aLine
          rw [hU, hin, if_neg (show ¬ (260 ≤ K j ∧ K j < faN r) by omega), if_pos rfl]
          rfl
        · rw [if_neg (show ¬ nI (K j) < 260 from nI_nlt (b := 260) (by omega) (by omega)), show T 45 6 = nI (faN r) from h.2.1]
          have hfa := fa_b (r := r)
          by_cases qfa : K j < faN r
          · rw [if_pos (nI_lt qfa (by omega)), e51]
            by_cases q16 : nl = 16
            · rw [if_neg (show ¬ nI nl < 16 from nI_nlt (b := 16) (by omega) (by omega))]
              refine hbad 3 (by decide) (by decide) ?_
              unfold F12_aLine
              rw [hU, hin, if_pos (show 260 ≤ K j ∧ K j < faN r by omega), if_neg n10, e13, if_pos (by rw [q16]; rfl)]
              rfl
            · rw [if_pos (show nI nl < 16 from nI_lt (b := 16) (by omega) (by decide))]
              obtain ⟨T', ⟨p1, U'⟩, a1, a2, a3, a4, a5⟩ := P_line hr hK h hst (by omega) qfa (by omega) e51 e13 hln
              simp only at a4 a5
              rw [a1, bB_s, a2, bB2_s]
              rcases a5 with ⟨rfl, b1, j', st', b2, b3, b4, b5, b6, b7, b8⟩ | ⟨rfl, b1⟩
              · rw [if_neg n10, b1, nI_1, nI_1]
                refine r2_s ⟨T', 1, _, rfl, rfl, frC_t hfC a3, frW_t hfW (frW_t a4 (frW_13 _ _)), Or.inl ⟨rfl, nl + 1, j', st', ?_, by omega, by omega, by omega, b6, sU_s _ _ _ _, b7.trans e452, fun i hi => ?_⟩⟩
                · exact PL_fr b2 (fun _ _ => rfl) rfl ⟨nl + 1, by omega, b6⟩ (fun x hx => by rw [sU_n (by omega)]) (by rw [sU_ne (by decide)]) (by rw [sU_ne (by decide)])
                · exact lnOK_f (b8 i hi) (Nat.le_refl _) ⟨rfl, rfl, rfl, rfl⟩ (fun x _ => by rw [sU_ne (by decide)]) (fun _ _ => rfl)
              · rw [if_pos rfl, nI_1]
                refine r2_s ⟨T', 0, _, rfl, rfl, frC_t hfC a3, frW_t hfW (frW_t a4 (frW_13 _ _)), Or.inr ⟨rfl, ?_⟩⟩
                rw [sU_n (show ¬ (0 = 0 ∧ 21 = 13) by omega), sU_n (show ¬ (0 = 0 ∧ 22 = 13) by omega)]
                exact b1
          · rw [if_neg (nI_nlt (by omega) (by omega))]
            refine hbad 1 (by decide) (by decide) ?_
            unfold F12_aLine
            rw [hU, hin, if_neg (show ¬ (260 ≤ K j ∧ K j < faN r) by omega), if_pos rfl]
            rfl
    · simp only [u2_d]
      rw [if_neg (nge 400 (b := 400) rfl hi (by decide)), if_neg (show ¬ T 45 1 = 0 by rw [hb.1]; exact hb.2.2.1), if_pos trivial]
      exact r2_s ⟨hfC, hfW, Or.inr ⟨rfl, hb⟩⟩
  · rintro s s' ⟨T, v, U, rfl, rfl, hfC, hfW, ⟨rfl, nl, j, st, h, hst, hij, hnl, e51, e13, e452, hln⟩ | ⟨rfl, hb⟩⟩
    · obtain ⟨hT, h1, hU, hj⟩ := P_ty h
      obtain ⟨tf, tk, tv, tl, tm⟩ := tkF hr hK hj
      obtain ⟨-, -, -, t4, -, -, -, -, -, -, -, -, -, -, -, -, -, -, t0, -⟩ := tmF tf
      have e0 : nI (tmN r (K j)) = 0 ↔ K j = 2 := (tmq t4 (x := 0) (by decide)).trans t0
      simp only [u2_d]
      rw [if_pos (show (400 : Int32) ≤ nI 400 by decide), if_neg n10, hU, if_pos (e0.mpr (tl.mpr (by omega)))]
      exact r2_s ⟨hfC, hfW, Or.inl ⟨rfl, nl, j, st, h, hst, Nat.zero_le _, hnl, e51, e13, e452, hln⟩⟩
    · simp only [u2_d]
      rw [if_pos (show (400 : Int32) ≤ nI 400 by decide), if_pos trivial]
      exact r2_s ⟨hfC, hfW, Or.inr ⟨rfl, hb⟩⟩
theorem P_law {b : Nat → Nat} {n r : Nat} (hr : r = 0 ∨ r = 1 ∨ r = 3) {T U : pS} (hT : byT b n T) (c1 : T 45 1 = 0) (c2 : T 45 2 = -1) (c3 : T 51 0 = 0) (c4 : T 51 1 = 0) (hU : byR b n U) (u17 : U 0 17 = 0) (u12 : U 0 12 = nI r) :
    ∃ v T' p U1, F5_law T 45 (litL r) (nI (faN r - 260)) = some (v, T') ∧ F12_next0 U = some U1 ∧ F12_readsLaw U1 = some p ∧ frC T T' ∧ frW U p.2 ∧ ((v = 1 ∧ p.1 = 1 ∧ T' 45 1 = 0 ∧ T' 45 2 = -1 ∧ LK r T' p.2) ∨ (v = 0 ∧ p.1 = 0 ∧ T' 45 1 = p.2 0 21 ∧ T' 45 2 = p.2 0 22)) := by
  obtain ⟨m, K, V, P, A, hK⟩ := Toks_ex (b := b) (n := n) (r := r) hT.2.1 (fun j hj => (hT.2.2 j hj).2)
  have hr4 : r < 4 := by omega
  obtain ⟨T1, a1, a2, a3⟩ := L_cut hr4 hT hK
  obtain ⟨U1, b1, b2, b3, b4, b5, b6⟩ := L_next0 (hK.2.2.2.2.2.1 0 hK.2.2.1) hU (by rw [u17, hK.2.2.2.2.1]; rfl) u12 hr4
  have hfa := fa_b (r := r)
  have hfa2 : 262 ≤ faN r := by unfold faN; split <;> (try split) <;> omega
  have e6 : (260 : Int32) + nI (faN r - 260) = nI (faN r) := by
    rw [show (260 : Int32) = nI 260 from rfl, nI_add, show 260 + (faN r - 260) = faN r by omega]
  have t1 : ∀ k', k' ≠ 46 → k' ≠ 48 → k' ≠ 49 → k' ≠ 50 → T1 k' = T k' := a2.1
  have hGL : GL b n r m K V P A 0 (sU T1 45 6 (nI (faN r))) (sU (sU U1 0 13 0) 0 14 0) := by
    refine ⟨0, 0, 0, ⟨?_, sU_s _ _ _ _, ?_, ⟨?_, hU.2.1, fun j hj => ?_⟩, ?_, ?_, ?_, ?_, fun z => ?_, ?_, sU_s _ _ _ _, ⟨0, by decide, ?_⟩, fun q hq => absurd hq (Nat.not_lt_zero _)⟩, Nat.le_refl _, Nat.le_refl _, by decide, ?_, ?_, ?_, fun i hi => absurd hi (Nat.not_lt_zero _)⟩
    · rw [sU_n (by omega), t1 45 (by decide) (by decide) (by decide) (by decide)]; exact c1
    · unfold CT at a3 ⊢
      rw [sU_ne (k' := 46) (by decide), sU_ne (k' := 48) (by decide), sU_ne (k' := 49) (by decide), sU_ne (k' := 50) (by decide)]
      exact a3
    · rw [sU_n (by omega), sU_n (by omega)]; exact (b2.2 16 (by omega)).trans hU.1
    · rw [sU_ne (by decide), sU_ne (by decide), b2.1 7 (by decide)]; exact hU.2.2 j hj
    · rw [sU_n (by omega), sU_n (by omega)]; exact (b2.2 12 (by omega)).trans u12
    · rw [sU_n (by omega), sU_n (by omega)]; exact b3
    · rw [sU_n (by omega), sU_n (by omega)]; exact b4
    · rw [sU_n (by omega), sU_n (by omega)]; exact b5
    · rw [sU_n (by omega), sU_n (by omega)]; exact b6 z
    · rw [sU_ne (by decide), t1 51 (by decide) (by decide) (by decide) (by decide)]; exact c4
    · rw [sU_ne (by decide), t1 51 (by decide) (by decide) (by decide) (by decide)]; exact c3
    · rw [sU_ne (by decide), t1 51 (by decide) (by decide) (by decide) (by decide)]; exact c3
    · rw [sU_n (by omega), sU_s]; rfl
    · rw [sU_n (by omega), t1 45 (by decide) (by decide) (by decide) (by decide)]; exact c2
  obtain ⟨T', ⟨q1, U'⟩, g1, g2, g3, g4, g5⟩ := P_laws hr hK rfl rfl hGL
  simp only at g4 g5
  have hC : frC T (sU T1 45 6 (nI (faN r))) := fun k hk => by rw [sU_ne (by omega), t1 k (by omega) (by omega) (by omega) (by omega)]
  have hW : frW U (sU (sU U1 0 13 0) 0 14 0) := ⟨fun k a c d => by rw [sU_ne a, sU_ne a, b2.1 k a], fun j hj => by rw [sU_n (by omega), sU_n (by omega)]; exact b2.2 j (by omega)⟩
  have hlaw : F5_law T 45 (litL r) (nI (faN r - 260)) = if T' 45 1 = 0 then some (1, T') else some (0, T') := by
    unfold F5_law
    simp only [bL_d, Nat.reduceAdd]
    rw [a1, bB_s, e6]
    refine Eq.trans (congrArg (fun z => bB z _) (Eq.trans ?_ g1)) ?_
    · congr 1
      funext s
      obtain ⟨s1, s2⟩ := s
      simp only [u2_d, bB_a3, bB_b3, bB_i3, bB_s]
    · rw [bB_s]
      rfl
  have hread : F12_readsLaw U1 = some (q1 &&& 1, U') := by
    unfold F12_readsLaw
    simp only [bL_d]
    refine Eq.trans (congrArg (fun z => bB z _) g2) ?_
    rw [bB_s]
    rfl
  refine ⟨if T' 45 1 = 0 then 1 else 0, T', (q1 &&& 1, U'), U1, ?_, b1, hread, frC_t hC g3, frW_t hW g4, ?_⟩
  · rw [hlaw]
    split <;> rfl
  · rcases g5 with ⟨rfl, nl, j, st, h, hst, hij, hnl, e51, e13, e452, hln⟩ | ⟨rfl, hb⟩
    · refine Or.inl ⟨if_pos h.1, show (1 : Int32) &&& 1 = 1 by decide, h.1, e452, nl, st, hnl, e51, e13, h.2.2.2.2.2.2.2.2.2.1, h.2.2.2.2.2.2.2.2.2.2.1, ?_, h.2.2.2.2.2.2.2.2.2.2.2.2, hln⟩
      have := (tkG hK (P_ty h).2.2.2).2.2.1
      have := (P_ty h).2.2.2
      omega
    · exact Or.inr ⟨if_neg (by rw [hb.1]; exact hb.2.2.1), show (0 : Int32) &&& 1 = 0 by decide, hb.1, hb.2.1⟩
end

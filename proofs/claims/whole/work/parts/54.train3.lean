section
/-! training: the reference's rows -/
def tQ (U : pS) (D : Nat → Prop) (m : Nat) (S : pS) : Prop := ∃ ry : Nat → Nat, (∀ j, j < m → S 12 j = nI (ry j) ∧ ry j < 100100) ∧ (∀ i j, i < m → j < m → ry i = ry j → i = j) ∧ (∀ y, y < 100100 → (S 13 y = 1 ∧ ∃ j, j < m ∧ ry j = y) ∨ (S 13 y = 0 ∧ ¬ ∃ j, j < m ∧ ry j = y)) ∧ (∀ y, (∃ j, j < m ∧ ry j = y) ↔ D y) ∧ ∀ k', k' ≠ 8 → k' ≠ 9 → k' ≠ 12 → k' ≠ 13 → S k' = U k'
theorem tQ_fr {U S S' : pS} {D : Nat → Prop} {m : Nat} (h : tQ U D m S) (hs : ∀ k', k' ≠ 8 → k' ≠ 9 → S' k' = S k') : tQ U D m S' := by
  obtain ⟨ry, h1, h2, h3, h4, h5⟩ := h
  refine ⟨ry, fun j hj => by rw [hs 12 (by decide) (by decide)]; exact h1 j hj, h2, fun y hy => by rw [hs 13 (by decide) (by decide)]; exact h3 y hy, h4, fun k' a b c d => (hs k' a b).trans (h5 k' a b c d)⟩
theorem tQ_D {U S : pS} {D D' : Nat → Prop} {m : Nat} (h : tQ U D m S) (hd : ∀ y, D y ↔ D' y) : tQ U D' m S := by
  obtain ⟨ry, h1, h2, h3, h4, h5⟩ := h
  exact ⟨ry, h1, h2, h3, fun y => (h4 y).trans (hd y), h5⟩
theorem tQ_add {U S : pS} {D : Nat → Prop} {m y : Nat} (h : tQ U D m S) (hy : y < 100100) (hm : S 13 y = 0) : m < 100100 ∧ tQ U (fun z => D z ∨ z = y) (m + 1) (sU (sU S 13 y 1) 12 m (nI y)) := by
  obtain ⟨ry, h1, h2, h3, h4, h5⟩ := h
  have hn : ¬ ∃ j, j < m ∧ ry j = y := by
    rcases h3 y hy with ⟨a, -⟩ | ⟨-, b⟩
    · rw [hm] at a; exact absurd a (by decide)
    · exact b
  have inj : ∀ i j, i < m + 1 → j < m + 1 → (if i = m then y else ry i) = (if j = m then y else ry j) → i = j := by
    intro i j hi hj e
    split at e <;> split at e
    · omega
    · exact absurd ⟨j, by omega, e.symm⟩ hn
    · exact absurd ⟨i, by omega, e⟩ hn
    · exact h2 i j (by omega) (by omega) e
  have bnd : ∀ i, i < m + 1 → (if i = m then y else ry i) < 100100 := by
    intro i hi
    split
    · exact hy
    · exact (h1 i (by omega)).2
  refine ⟨pig 100100 (m + 1) _ bnd inj, fun j => if j = m then y else ry j, fun j hj => ⟨?_, bnd j hj⟩, inj, fun z hz => ?_, fun z => ?_, fun k' a b c d => ?_⟩
  · by_cases q : j = m
    · subst q
      rw [sU_s]
      show _ = nI (if j = j then y else ry j)
      rw [if_pos rfl]
    · show _ = nI (if j = m then y else ry j)
      rw [sU_n (fun p => q p.2), sU_ne (by decide), if_neg q]
      exact (h1 j (by omega)).1
  · rw [sU_ne (k' := 13) (k := 12) (by decide)]
    by_cases q : z = y
    · subst q
      rw [sU_s]
      exact Or.inl ⟨rfl, m, by omega, if_pos rfl⟩
    · rw [sU_n (fun p => q p.2)]
      rcases h3 z hz with ⟨a, j, hj, e⟩ | ⟨a, b⟩
      · exact Or.inl ⟨a, j, by omega, by simp only [if_neg (show ¬ j = m by omega)]; exact e⟩
      · refine Or.inr ⟨a, fun ⟨j, hj, e⟩ => ?_⟩
        simp only at e
        by_cases q2 : j = m
        · rw [if_pos q2] at e; exact q e.symm
        · rw [if_neg q2] at e; exact b ⟨j, by omega, e⟩
  · constructor
    · rintro ⟨j, hj, e⟩
      by_cases q2 : j = m
      · simp only [if_pos q2] at e; exact Or.inr e.symm
      · simp only [if_neg q2] at e; exact Or.inl ((h4 z).mp ⟨j, by omega, e⟩)
    · rintro (q | q)
      · obtain ⟨j, hj, e⟩ := (h4 z).mpr q
        exact ⟨j, by omega, by simp only [if_neg (show ¬ j = m by omega)]; exact e⟩
      · exact ⟨m, by omega, by simp only [if_true]; exact q.symm⟩
  · rw [sU_ne c, sU_ne d]; exact h5 k' a b c d
theorem lesN {a b : Nat} (ha : a < 2 ^ 31) (hb : b < 2 ^ 31) : F12_lesser (nI a) (nI b) = nI (min a b) := by
  rw [les]
  unfold jmin
  by_cases h : b < a
  · rw [if_pos (nI_lt h ha), Nat.min_eq_right (by omega)]
  · rw [if_neg (nI_nlt (by omega) hb), Nat.min_eq_left (by omega)]
theorem L_trains {ns n k lo nb most : Nat} {rx : Nat → Nat} {Sc Sm U : pS} (hV : VR ns Sc Sm) (hU : U 1 = Sm 1) (hn : n ≤ 100100) (hnb : lo + nb ≤ 4) (h0 : 0 < nb) (hmo : most ≤ 1000) (hr : ∀ i, i < n → U 11 i = nI (rx i) ∧ rx i < 100100) (hm : ∀ i, i < 100100 → U 13 i = 0) :
    Ok (F12_trains U (nI n) (nI k) (nI lo) (nI (lo + nb - 1)) (nI most)) (fun q => ∃ (m : Nat) (ry : Nat → Nat), q.1 = nI m ∧ m ≤ 100100 ∧ (∀ i, i < m → q.2 11 i = nI (ry i) ∧ ry i < 100100) ∧ (∀ y, (∃ i, i < m ∧ ry i = y) ↔ ∃ i b, i < n ∧ lo ≤ b ∧ b < lo + nb ∧ y = nx Sm k b (rx i) ∧ y % 1001 ≤ most) ∧ (∀ i, i < 100100 → q.2 13 i = 0) ∧ ∀ k', k' ≠ 8 → k' ≠ 9 → k' ≠ 11 → k' ≠ 12 → k' ≠ 13 → q.2 k' = U k') := by
  unfold F12_trains
  simp only [bL_d]
  refine ok_B (P := fun (z : Int32 × pS) => ∃ m, z.1 = nI m ∧ tQ U (fun y => ∃ i b, i < n ∧ lo ≤ b ∧ b < lo + nb ∧ y = nx Sm k b (rx i) ∧ y % 1001 ≤ most) m z.2) (ok_P n (fun i s => ∃ (m : Nat) (T : pS), s = (nI m, nI i, T) ∧ tQ U (fun y => ∃ i' b, i' < i ∧ lo ≤ b ∧ b < lo + nb ∧ y = nx Sm k b (rx i') ∧ y % 1001 ≤ most) m T) ?_ ?_ ?_) ?_
  · exact ⟨0, U, rfl, fun _ => 0, fun j hj => absurd hj (Nat.not_lt_zero _), fun i j hi => absurd hi (Nat.not_lt_zero _), fun y hy => Or.inr ⟨hm y hy, fun ⟨j, hj, _⟩ => absurd hj (Nat.not_lt_zero _)⟩, fun y => ⟨fun ⟨j, hj, _⟩ => absurd hj (Nat.not_lt_zero _), fun ⟨i', b, hi', _⟩ => absurd hi' (Nat.not_lt_zero _)⟩, fun _ _ _ _ _ => rfl⟩
  · rintro i s hi ⟨m, T, rfl, hT⟩
    rw [u3_d, if_neg (nI_ge hi (by omega))]
    refine ok_B (P := fun (z : Int32 × pS) => ∃ m, z.1 = nI m ∧ tQ U (fun y => ∃ i' b, i' < i + 1 ∧ lo ≤ b ∧ b < lo + nb ∧ y = nx Sm k b (rx i') ∧ y % 1001 ≤ most) m z.2) (ok_P nb (fun j s => ∃ (m : Nat) (T : pS), s = (nI m, nI (lo + j), T) ∧ tQ U (fun y => (∃ i' b, i' < i ∧ lo ≤ b ∧ b < lo + nb ∧ y = nx Sm k b (rx i') ∧ y % 1001 ≤ most) ∨ ∃ b, lo ≤ b ∧ b < lo + j ∧ y = nx Sm k b (rx i) ∧ y % 1001 ≤ most) m T) ?_ ?_ ?_) ?_
    · exact ⟨m, T, rfl, tQ_D hT (fun y => ⟨Or.inl, fun h => h.elim id (fun ⟨b, h1, h2, _⟩ => absurd h2 (by omega))⟩)⟩
    · rintro j s hj ⟨m, T, rfl, hT⟩
      obtain ⟨er, hrx⟩ := hr i hi
      have hf : ∀ k', k' ≠ 8 → k' ≠ 9 → k' ≠ 12 → k' ≠ 13 → T k' = U k' := by obtain ⟨_, _, _, _, _, h5⟩ := hT; exact h5
      have e11 : T 11 i = nI (rx i) := by rw [hf 11 (by decide) (by decide) (by decide) (by decide)]; exact er
      have s11 : ∀ (S : pS) (j : Nat) (v : Int32), sU S 9 j v 11 = S 11 := fun _ _ _ => sU_ne (by decide)
      have d1 : nI (rx i) / 1001 = nI (rx i / 1001) := by rw [show (1001 : Int32) = nI 1001 from rfl, pk_div (by omega) (by omega) (by omega)]
      have d2 : nI (rx i) - nI (rx i / 1001) * 1001 = nI (rx i % 1001) := by
        rw [show (1001 : Int32) = nI 1001 from rfl, pk_mul, pk_sub (by omega)]
        congr 1; omega
      simp only [u3_d]
      rw [if_neg (nI_nlt (by omega) (by omega))]
      simp only [s11, bG_N (n := i) (L := 100100) (by omega) (by decide), nI_clamp (n := i) (by omega), e11, d1, d2]
      rw [show sU (sU (sU (sU T 9 18 (nI (lo + j))) 9 14 (nI (rx i / 1001))) 9 13 (nI (rx i % 1001))) 9 19 (nI k) = tU T k (lo + j) (rx i / 1001) (rx i % 1001) from rfl]
      have u1 : T 1 = Sm 1 := (hf 1 (by decide) (by decide) (by decide) (by decide)).trans hU
      obtain ⟨T1, k1, f1⟩ := L_trU (wd := 0) (lo := 0) (hi := 9) hV (U := tU T k (lo + j) (rx i / 1001) (rx i % 1001)) (by rw [tU_ne (by decide)]; exact u1) (fU_tU _ _ _ _ _) (by decide) (by decide) (by decide)
      have g := gN_e (k := k) (b := lo + j) (p := rx i / 1001) (w := rx i % 1001) hV
      have k1' : F12_lawSays (tU T k (lo + j) (rx i / 1001) (rx i % 1001)) 2 27 0 9 = some (nI (gN Sm k (lo + j) (rx i / 1001) (rx i % 1001)), T1) := by
        rw [← g.1]; exact k1
      rw [k1', bB2_s, f1 11 (by decide), tU_ne (by decide), e11, d1, d2]
      obtain ⟨T2, k2, f2⟩ := L_trU (wd := 1) (lo := -200) (hi := 200) hV (U := T1) (by rw [f1 1 (by decide), tU_ne (by decide)]; exact u1) (by
        unfold fU
        rw [f1 9 (by decide)]
        exact fU_tU T k (lo + j) (rx i / 1001) (rx i % 1001)) (by decide) (by decide) (by decide)
      have k2' : F12_lawSays T1 2 28 (-200) 200 = some (vI (F12_lawSays (tU Sm k (lo + j) (rx i / 1001) (rx i % 1001)) 2 28 (-200) 200), T2) := k2
      have hx := hN_e (k := k) (b := lo + j) (p := rx i / 1001) (w := rx i % 1001) (Sm := Sm)
      rw [k2', bB2_s, hx.1, show (99 : Int32) = nI 99 from rfl, nI_add, lesN (by decide) (by omega), show (1001 : Int32) = nI 1001 from rfl, pk_mul, nI_add]
      have hy := nx_d (S := Sm) (k := k) (b := lo + j) (x := rx i)
      have ey : 1001 * min 99 (rx i / 1001 + gN Sm k (lo + j) (rx i / 1001) (rx i % 1001)) + hN Sm k (lo + j) (rx i / 1001) (rx i % 1001) = nx Sm k (lo + j) (rx i) := rfl
      rw [ey, ← hy.2.2]
      have hT2 := tQ_fr hT (S' := T2) (fun k' a b => by rw [f2 k' a, f1 k' a, tU_ne b])
      generalize hY : nx Sm k (lo + j) (rx i) = y at hy ⊢
      have hD : ∀ z, ((((∃ i' b, i' < i ∧ lo ≤ b ∧ b < lo + nb ∧ z = nx Sm k b (rx i') ∧ z % 1001 ≤ most) ∨ ∃ b, lo ≤ b ∧ b < lo + j ∧ z = nx Sm k b (rx i) ∧ z % 1001 ≤ most) ∨ (z = y ∧ z % 1001 ≤ most)) ↔ ((∃ i' b, i' < i ∧ lo ≤ b ∧ b < lo + nb ∧ z = nx Sm k b (rx i') ∧ z % 1001 ≤ most) ∨ ∃ b, lo ≤ b ∧ b < lo + (j + 1) ∧ z = nx Sm k b (rx i) ∧ z % 1001 ≤ most)) := by
        intro z
        constructor
        · rintro ((q | ⟨b, q1, q2, q3⟩) | ⟨q1, q2⟩)
          · exact Or.inl q
          · exact Or.inr ⟨b, q1, by omega, q3⟩
          · exact Or.inr ⟨lo + j, by omega, by omega, by rw [hY]; exact q1, q2⟩
        · rintro (q | ⟨b, q1, q2, q3, q4⟩)
          · exact Or.inl (Or.inl q)
          · by_cases qb : b = lo + j
            · subst qb
              exact Or.inr ⟨by rw [← hY]; exact q3, q4⟩
            · exact Or.inl (Or.inr ⟨b, q1, by omega, q3, q4⟩)
      by_cases hw : most < y % 1001
      · rw [if_pos (nI_lt hw (by omega)), nI_1]
        exact ok_s ⟨m, T2, rfl, tQ_D hT2 (fun z => ⟨fun q => (hD z).mp (Or.inl q), fun q => ((hD z).mpr q).elim id (fun p => absurd p.2 (by rw [p.1]; omega))⟩)⟩
      · rw [if_neg (nI_nlt (by omega) (by omega)), bG_N (by omega) (by decide), nI_clamp (by omega)]
        have hz : T2 13 y = 1 ∨ T2 13 y = 0 := by
          obtain ⟨ry, -, -, h3, -⟩ := hT2
          rcases h3 y (by omega) with q | q
          · exact Or.inl q.1
          · exact Or.inr q.1
        rcases hz with hz | hz
        · rw [hz, if_neg (by decide), nI_1]
          refine ok_s ⟨m, T2, rfl, tQ_D hT2 (fun z => ⟨fun q => (hD z).mp (Or.inl q), fun q => ((hD z).mpr q).elim id (fun p => ?_)⟩)⟩
          obtain ⟨ry, -, -, h3, h4, -⟩ := hT2
          rcases h3 y (by omega) with q | q
          · have := (h4 y).mp q.2
            rw [p.1]; exact this
          · rw [hz] at q; exact absurd q.1 (by decide)
        · obtain ⟨hm1, hT3⟩ := tQ_add hT2 (y := y) (by omega) hz
          rw [hz, if_pos rfl, bG_N (by omega) (by decide), bG_N hm1 (by decide), nI_clamp (by omega), nI_1, nI_1]
          refine ok_s ⟨m + 1, _, rfl, tQ_D hT3 (fun z => ⟨fun q => (hD z).mp (q.imp id (fun e => ⟨e, by rw [e]; omega⟩)), fun q => ((hD z).mpr q).imp id (fun p => p.1)⟩)⟩
    · rintro s ⟨m, T, rfl, hT⟩
      simp only [u3_d]
      rw [if_pos (nI_lt (by omega) (by omega))]
      refine ok_s ⟨m, rfl, tQ_D hT (fun z => ⟨?_, ?_⟩)⟩
      · rintro (⟨i', b, q1, q2⟩ | ⟨b, q1, q2, q3⟩)
        · exact ⟨i', b, by omega, q2⟩
        · exact ⟨i, b, by omega, q1, q2, q3⟩
      · rintro ⟨i', b, q1, q2⟩
        by_cases qi : i' = i
        · subst qi
          exact Or.inr ⟨b, q2⟩
        · exact Or.inl ⟨i', b, by omega, q2⟩
    · rintro ⟨v, T⟩ ⟨m, hv, hT⟩
      simp only at hv hT
      subst hv
      simp only [u2_d]
      rw [nI_1]
      exact ok_s ⟨m, T, rfl, hT⟩
  · rintro s ⟨m, T, rfl, hT⟩
    rw [u3_d, if_pos (nI_le (Nat.le_refl _) (by omega))]
    exact ok_s ⟨m, rfl, hT⟩
  · rintro ⟨v, T⟩ ⟨m, hv, hT⟩
    simp only at hv hT
    subst hv
    simp only [u2_d]
    obtain ⟨ry, h1, h2, h3, h4, h5⟩ := hT
    have hm1 : m ≤ 100100 := pig 100100 m ry (fun i hi => (h1 i hi).2) h2
    refine ok_B (P := fun (T' : pS) => (∀ i, i < m → T' 11 i = nI (ry i)) ∧ (∀ i, i < 100100 → T' 13 i = 0) ∧ ∀ k', k' ≠ 8 → k' ≠ 9 → k' ≠ 11 → k' ≠ 12 → k' ≠ 13 → T' k' = U k') (ok_P m (fun i s => ∃ T', s = (nI i, T') ∧ T' 12 = T 12 ∧ (∀ j, j < i → T' 11 j = nI (ry j)) ∧ (∀ y, y < 100100 → T' 13 y = 0 ∨ ∃ j, i ≤ j ∧ j < m ∧ ry j = y) ∧ ∀ k', k' ≠ 8 → k' ≠ 9 → k' ≠ 11 → k' ≠ 12 → k' ≠ 13 → T' k' = U k') ?_ ?_ ?_) ?_
    · refine ⟨T, rfl, rfl, fun j hj => absurd hj (Nat.not_lt_zero _), fun y hy => ?_, fun k' a b c d e => h5 k' a b d e⟩
      rcases h3 y hy with ⟨-, j, hj, e⟩ | ⟨q, -⟩
      · exact Or.inr ⟨j, Nat.zero_le _, hj, e⟩
      · exact Or.inl q
    · rintro i s hi ⟨T', rfl, a1, a2, a3, a4⟩
      simp only [u2_d]
      rw [if_neg (nI_ge hi (by omega))]
      simp only [bG_N (n := i) (L := 100100) (by omega) (by decide), nI_clamp (n := i) (by omega)]
      rw [a1, (h1 i hi).1, sU_s, bG_N (h1 i hi).2 (by decide), nI_clamp (by have := (h1 i hi).2; omega), nI_1]
      refine ok_s ⟨_, rfl, ?_, fun j hj => ?_, fun y hy => ?_, fun k' b1 b2 b3 b4 b5 => ?_⟩
      · rw [sU_ne (by decide), sU_ne (by decide)]; exact a1
      · rw [sU_ne (k := 13) (by decide)]
        by_cases q : j = i
        · rw [q, sU_s]
        · rw [sU_n (fun p => q p.2)]; exact a2 j (by omega)
      · by_cases q : y = ry i
        · rw [q, sU_s]; exact Or.inl (by decide)
        · rw [sU_n (fun p => q p.2), sU_ne (by decide)]
          rcases a3 y hy with p | ⟨j, b1, b2, b3⟩
          · exact Or.inl p
          · exact Or.inr ⟨j, by
              have : j ≠ i := fun e => q (by rw [← b3, e])
              omega, b2, b3⟩
      · rw [sU_ne b5, sU_ne b3]; exact a4 k' b1 b2 b3 b4 b5
    · rintro s ⟨T', rfl, a1, a2, a3, a4⟩
      simp only [u2_d]
      rw [if_pos (nI_le (Nat.le_refl _) (by omega))]
      refine ok_s ⟨a2, fun y hy => ?_, a4⟩
      rcases a3 y hy with p | ⟨j, b1, b2, b3⟩
      · exact p
      · omega
    · rintro T' ⟨a1, a2, a3⟩
      rw [u1_d]
      exact ok_s ⟨m, ry, rfl, hm1, fun i hi => ⟨a1 i hi, (h1 i hi).2⟩, h4, a2, a3⟩
end

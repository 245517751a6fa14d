variable {gG : Nat → Int32}
section
/-! training: the class' answer -/
def bitC (x : Int64) (c : Nat) : Prop := ∃ i, i < 16 ∧ (N64 x).testBit (4 * i + c) = true
theorem bitC_K {x : Int64} {c : Nat} (hc : c < 4) : (x &&& ((1229782938247303441 : Int64) <<< ((nI c).toInt64 &&& 63))) = 0 ↔ ¬ bitC x c := by
  rw [N64_K hc]
  constructor
  · rintro h ⟨i, hi, e⟩
    rw [h i hi] at e; cases e
  · intro h i hi
    cases e : (N64 x).testBit (4 * i + c) with
    | false => rfl
    | true => exact absurd ⟨i, hi, e⟩ h
theorem testBit_ex {n : Nat} (h : n ≠ 0) : ∃ j, n.testBit j = true := Nat.exists_testBit_of_ne_zero h
def JI (T : pS) (h n : Nat) (v : Int32) (x : Int64) : Prop :=
  (v = -1 ∧ N64 x = 0 ∧ ∀ l, n ≤ l → l < 6300 → wN T h l = 0) ∨ ∃ P, P < 100 ∧ v = nI P ∧ (∀ l, n ≤ l → l < 6300 → wN T h l ≠ 0 → l / 63 ≤ P) ∧ (∃ l, n ≤ l ∧ l < 6300 ∧ l / 63 = P ∧ wN T h l ≠ 0) ∧ ∀ j, (N64 x).testBit j = true ↔ ∃ l, n ≤ l ∧ l < 6300 ∧ l / 63 = P ∧ (wN T h l).testBit j = true
theorem JI_0 {T : pS} {h l : Nat} {v : Int32} {x : Int64} (hJ : JI T h (l + 1) v x) (h0 : wN T h l = 0) : JI T h l v x := by
  rcases hJ with ⟨a, b, c⟩ | ⟨P, hP, a, b, ⟨l1, c1, c2, c3, c4⟩, d⟩
  · refine Or.inl ⟨a, b, fun l' q1 q2 => ?_⟩
    by_cases q : l' = l
    · rw [q]; exact h0
    · exact c l' (by omega) q2
  · refine Or.inr ⟨P, hP, a, fun l' q1 q2 q3 => ?_, ⟨l1, by omega, c2, c3, c4⟩, fun j => (d j).trans ?_⟩
    · by_cases q : l' = l
      · rw [q] at q3; exact absurd h0 q3
      · exact b l' (by omega) q2 q3
    · constructor
      · rintro ⟨l2, q1, q2⟩; exact ⟨l2, by omega, q2⟩
      · rintro ⟨l2, q1, q2, q3, q4⟩
        refine ⟨l2, ?_, q2, q3, q4⟩
        by_cases q : l2 = l
        · rw [q, h0, Nat.zero_testBit] at q4; cases q4
        · omega
theorem JI_1 {T : pS} {h l : Nat} {v : Int32} {x y : Int64} (hl : l < 6300) (hJ : JI T h (l + 1) v x) (h0 : wN T h l ≠ 0) (hy : N64 y = wN T h l) (hv : v = -1 ∨ v = nI (l / 63)) : JI T h l (nI (l / 63)) (x ||| y) := by
  refine Or.inr ⟨l / 63, by omega, rfl, ?_, ⟨l, Nat.le_refl _, hl, rfl, h0⟩, ?_⟩
  · intro l' q1 q2 q3
    by_cases q : l' = l
    · rw [q]; exact Nat.le_refl _
    · rcases hJ with ⟨a, b, c⟩ | ⟨P, hP, a, b, c, d⟩
      · exact absurd (c l' (by omega) q2) q3
      · rcases hv with hv | hv
        · rw [a] at hv
          exact absurd (hv ▸ nI_pos' (n := P) (by omega)) (by decide)
        · have : P = l / 63 := nI_inj (by rw [← a, hv]) (by omega) (by omega)
          rw [← this]
          exact b l' (by omega) q2 q3
  · intro j
    rw [N64_or, Nat.testBit_or, Bool.or_eq_true, hy]
    rcases hJ with ⟨a, b, c⟩ | ⟨P, hP, a, b, c, d⟩
    · rw [b, Nat.zero_testBit]
      constructor
      · rintro (q | q)
        · cases q
        · exact ⟨l, Nat.le_refl _, hl, rfl, q⟩
      · rintro ⟨l2, q1, q2, q3, q4⟩
        by_cases q : l2 = l
        · rw [q] at q4; exact Or.inr q4
        · rw [c l2 (by omega) q2, Nat.zero_testBit] at q4; cases q4
    · have hP2 : P = l / 63 := by
        rcases hv with hv | hv
        · rw [a] at hv
          exact absurd (hv ▸ nI_pos' (n := P) (by omega)) (by decide)
        · exact nI_inj (by rw [← a, hv]) (by omega) (by omega)
      rw [d j]
      constructor
      · rintro (⟨l2, q1, q2, q3, q4⟩ | q)
        · exact ⟨l2, by omega, q2, by omega, q4⟩
        · exact ⟨l, Nat.le_refl _, hl, rfl, q⟩
      · rintro ⟨l2, q1, q2, q3, q4⟩
        by_cases q : l2 = l
        · rw [q] at q4; exact Or.inr q4
        · exact Or.inl ⟨l2, by omega, q2, by omega, q4⟩
theorem JI_2 {T : pS} {h l : Nat} {v : Int32} {x : Int64} (hJ : JI T h (l + 1) v x) (h1 : v ≠ -1) (h2 : nI (l / 63) ≠ v) : JI T h l v x := by
  rcases hJ with ⟨a, b, c⟩ | ⟨P, hP, a, b, ⟨l1, c1, c2, c3, c4⟩, d⟩
  · exact absurd a h1
  · have hne : l / 63 ≠ P := fun e => h2 (by rw [e, a])
    refine Or.inr ⟨P, hP, a, fun l' q1 q2 q3 => ?_, ⟨l1, by omega, c2, c3, c4⟩, fun j => (d j).trans ?_⟩
    · by_cases q : l' = l
      · omega
      · exact b l' (by omega) q2 q3
    · constructor
      · rintro ⟨l2, q1, q2⟩; exact ⟨l2, by omega, q2⟩
      · rintro ⟨l2, q1, q2, q3, q4⟩
        exact ⟨l2, by omega, q2, q3, q4⟩
theorem m1_lt (n : Nat) (h : n < 2 ^ 31) : nI (n + 1) - 1 = nI n ∧ nI n + -1 = nI n - 1 := ⟨nI_pred n, (Int32.sub_eq_add_neg _ _).symm⟩
theorem L_judge {h : Nat} {R : Nat → Nat → Prop} {T : pS} (hh : h = 132 ∨ h = 133) (h2 : T 131 2 = nI h) (hR : ∀ c, c < 4 → ∀ x, R c x → x < 100100)
    (hB : ∀ p w c, p < 100 → w < 1008 → c < 4 → (BB T h p w c = true ↔ w < 1001 ∧ R c (1001 * p + w))) :
    Ok (F9_judge T 131) (fun T' => isBest R (T' 131 0) (T' 131 1) ∧ (∀ k', k' ≠ 131 → T' k' = T k') ∧ ∀ j, 2 ≤ j → T' 131 j = T 131 j) := by
  unfold F9_judge
  simp only [bL_d]
  rw [sU_n (by omega), sU_n (by omega), h2, pmu_t hh, bO_1, bG_t hh]
  refine ok_B (P := fun (z : Int64 × pS) => JI T h 0 (z.2 131 0) z.1 ∧ z.2 131 1 = -1 ∧ (∀ k', k' ≠ 131 → z.2 k' = T k') ∧ ∀ j, 2 ≤ j → z.2 131 j = T 131 j) (ok_P 6300 (fun i s => ∃ (x : Int64) (T' : pS), s = (x, nI (6300 - i) - 1, T') ∧ JI T h (6300 - i) (T' 131 0) x ∧ T' 131 1 = -1 ∧ (∀ k', k' ≠ 131 → T' k' = T k') ∧ ∀ j, 2 ≤ j → T' 131 j = T 131 j) ?_ ?_ ?_) ?_
  · refine ⟨0, _, rfl, Or.inl ⟨?_, N64_0, fun l q1 q2 => by omega⟩, ?_, fun k' a => ?_, fun j hj => ?_⟩
    · rw [sU_n (by omega), sU_s]
    · rw [sU_s]
    · rw [sU_ne a, sU_ne a]
    · rw [sU_n (by omega), sU_n (by omega)]
  · rintro i s hi ⟨x, T1, rfl, a1, a2, a3, a4⟩
    obtain ⟨l, hl⟩ : ∃ l, 6300 - i = l + 1 := ⟨6300 - i - 1, by omega⟩
    have hl63 : l < 6300 := by omega
    rw [hl] at a1 ⊢
    rw [nI_pred]
    simp only [u3_d]
    have eh : T1 h = T h := a3 h (by omega)
    have ew : N64 (pjn (T1 h (2 * l)) (T1 h (2 * l + 1))) = wN T h l := by
      show wN T1 h l = _
      exact wN_c eh
    have ei : 6300 - (i + 1) = l := by omega
    rw [if_neg (nI_pos (by omega)), a4 2 (by decide), h2, pmu_t hh, bO_1, bG_t hh, bG_N hl63 (by decide), nI_clamp (by omega), (m1_lt l (by omega)).2, ei]
    by_cases h0 : pjn (T1 h (2 * l)) (T1 h (2 * l + 1)) = 0
    · rw [if_pos h0]
      have h0' : wN T h l = 0 := by rw [← ew]; exact N64_z.mp h0
      exact ok_s ⟨x, T1, rfl, JI_0 a1 h0', a2, a3, a4⟩
    · rw [if_neg h0]
      have h0' : wN T h l ≠ 0 := fun q => h0 (N64_z.mpr (by rw [ew]; exact q))
      have d1 : nI l / 63 = nI (l / 63) := by rw [show (63 : Int32) = nI 63 from rfl, pk_div (by omega) (by omega) (by omega)]
      rw [d1, sU_n (show ¬ (131 = 131 ∧ 2 = 0) by omega), a4 2 (by decide), h2, pmu_t hh, bO_1, bG_t hh, bG_N hl63 (by decide), sU_ne (show h ≠ 131 by omega)]
      have go : (T1 131 0 = -1 ∨ T1 131 0 = nI (l / 63)) → Ok (some (Sum.inl (x ||| pjn (T1 h (2 * l)) (T1 h (2 * l + 1)), nI l - 1, sU T1 131 0 (nI (l / 63)))) : Option ((Int64 × Int32 × pS) ⊕ (Int64 × pS))) (fun z => Sum.elim (fun s => ∃ (x : Int64) (T' : pS), s = (x, nI l - 1, T') ∧ JI T h l (T' 131 0) x ∧ T' 131 1 = -1 ∧ (∀ k', k' ≠ 131 → T' k' = T k') ∧ ∀ j, 2 ≤ j → T' 131 j = T 131 j) (fun (z : Int64 × pS) => JI T h 0 (z.2 131 0) z.1 ∧ z.2 131 1 = -1 ∧ (∀ k', k' ≠ 131 → z.2 k' = T k') ∧ ∀ j, 2 ≤ j → z.2 131 j = T 131 j) z) := fun hv => by
        refine ok_s ⟨_, _, rfl, ?_, ?_, fun k' a => ?_, fun j hj => ?_⟩
        · rw [sU_s]; exact JI_1 hl63 a1 h0' ew hv
        · rw [sU_n (by omega)]; exact a2
        · rw [sU_ne a]; exact a3 k' a
        · rw [sU_n (by omega)]; exact a4 j hj
      by_cases q1 : T1 131 0 = -1
      · rw [if_pos q1]
        exact go (Or.inl q1)
      · rw [if_neg q1]
        by_cases q2 : nI (l / 63) = T1 131 0
        · rw [if_pos q2]
          exact go (Or.inr q2.symm)
        · rw [if_neg q2]
          exact ok_s ⟨x, T1, rfl, JI_2 a1 q1 q2, a2, a3, a4⟩
  · rintro s ⟨x, T1, rfl, a1, a2, a3, a4⟩
    simp only [u3_d]
    rw [if_pos (show nI (6300 - 6300) - 1 < 0 by decide)]
    exact ok_s ⟨a1, a2, a3, a4⟩
  · rintro ⟨x, T1⟩ ⟨a1, a2, a3, a4⟩
    simp only at a1 a2 a3 a4
    simp only [u2_d]
    refine ok_B (P := fun (T' : pS) => ((T' 131 1 = -1 ∧ ∀ c, c < 4 → ¬ bitC x c) ∨ ∃ c, c < 4 ∧ T' 131 1 = nI c ∧ bitC x c ∧ ∀ c', c' < c → ¬ bitC x c') ∧ T' 131 0 = T1 131 0 ∧ (∀ k', k' ≠ 131 → T' k' = T k') ∧ ∀ j, 2 ≤ j → T' 131 j = T 131 j) (ok_P 4 (fun i s => ∃ (T' : pS), s = (nI (4 - i) - 1, T') ∧ ((T' 131 1 = -1 ∧ ∀ c, 4 - i ≤ c → c < 4 → ¬ bitC x c) ∨ ∃ c, 4 - i ≤ c ∧ c < 4 ∧ T' 131 1 = nI c ∧ bitC x c ∧ ∀ c', 4 - i ≤ c' → c' < c → ¬ bitC x c') ∧ T' 131 0 = T1 131 0 ∧ (∀ k', k' ≠ 131 → T' k' = T k') ∧ ∀ j, 2 ≤ j → T' 131 j = T 131 j) ?_ ?_ ?_) ?_
    · exact ⟨T1, rfl, Or.inl ⟨a2, fun c q1 q2 => by omega⟩, rfl, a3, a4⟩
    · rintro i s hi ⟨T2, rfl, b1, b2, b3, b4⟩
      obtain ⟨l, hl⟩ : ∃ l, 4 - i = l + 1 := ⟨4 - i - 1, by omega⟩
      have hl4 : l < 4 := by omega
      have ei : 4 - (i + 1) = l := by omega
      rw [hl] at b1 ⊢
      rw [nI_pred]
      simp only [u2_d]
      rw [if_neg (nI_pos (by omega)), (m1_lt l (by omega)).2, ei]
      by_cases hb : bitC x l
      · rw [if_neg (fun q => (bitC_K hl4).mp q hb)]
        refine ok_s ⟨_, rfl, Or.inr ⟨l, Nat.le_refl _, hl4, by rw [sU_s], hb, fun c' q1 q2 => by omega⟩, by rw [sU_n (by omega)]; exact b2, fun k' a => by rw [sU_ne a]; exact b3 k' a, fun j hj => by rw [sU_n (by omega)]; exact b4 j hj⟩
      · rw [if_pos ((bitC_K hl4).mpr hb)]
        refine ok_s ⟨T2, rfl, ?_, b2, b3, b4⟩
        rcases b1 with ⟨c1, c2⟩ | ⟨c, c1, c2, c3, c4, c5⟩
        · refine Or.inl ⟨c1, fun c q1 q2 => ?_⟩
          by_cases q : c = l
          · rw [q]; exact hb
          · exact c2 c (by omega) q2
        · refine Or.inr ⟨c, by omega, c2, c3, c4, fun c' q1 q2 => ?_⟩
          by_cases q : c' = l
          · rw [q]; exact hb
          · exact c5 c' (by omega) q2
    · rintro s ⟨T2, rfl, b1, b2, b3, b4⟩
      simp only [u2_d]
      rw [if_pos (show nI (4 - 4) - 1 < 0 by decide)]
      refine ok_s ⟨?_, b2, b3, b4⟩
      rcases b1 with ⟨c1, c2⟩ | ⟨c, c1, c2, c3, c4, c5⟩
      · exact Or.inl ⟨c1, fun c q => c2 c (by omega) q⟩
      · exact Or.inr ⟨c, c2, c3, c4, fun c' q => c5 c' (by omega) q⟩
    · rintro T2 ⟨b1, b2, b3, b4⟩
      rw [u1_d]
      refine ok_s ⟨?_, b3, b4⟩
      have hRB : ∀ c, c < 4 → ∀ y, R c y → (wN T h (y / 1001 * 63 + y % 1001 / 16)).testBit (4 * (y % 1001 % 16) + c) = true ∧ y < 100100 := by
        intro c hc y hy
        have hlt := hR c hc y hy
        exact ⟨(hB (y / 1001) (y % 1001) c (by omega) (by omega) hc).mpr ⟨by omega, by rw [show 1001 * (y / 1001) + y % 1001 = y by omega]; exact hy⟩, hlt⟩
      have hBR : ∀ l i c, l < 6300 → i < 16 → c < 4 → (wN T h l).testBit (4 * i + c) = true → R c (1001 * (l / 63) + (l % 63 * 16 + i)) ∧ l % 63 * 16 + i < 1001 := by
        intro l i c hl hi hc hb
        have := (hB (l / 63) (l % 63 * 16 + i) c (by omega) (by omega) hc).mp (by
          unfold BB
          rw [show l / 63 * 63 + (l % 63 * 16 + i) / 16 = l by omega, show (l % 63 * 16 + i) % 16 = i by omega]
          exact hb)
        exact ⟨this.2, this.1⟩
      rcases a1 with ⟨c1, c2, c3⟩ | ⟨P, hP, c1, c2, ⟨l1, c3, c4, c5, c6⟩, c7⟩
      · have hnb : ∀ c, ¬ bitC x c := by
          rintro c ⟨i, hi, e⟩
          rw [c2, Nat.zero_testBit] at e; cases e
        rcases b1 with ⟨d1, -⟩ | ⟨c, d1, d2, d3, d4⟩
        · refine Or.inl ⟨b2.trans c1, d1, fun c hc y hy => ?_⟩
          have := hRB c hc y hy
          rw [c3 _ (Nat.zero_le _) (by omega), Nat.zero_testBit] at this
          cases this.1
        · exact absurd d3 (hnb c)
      · rcases b1 with ⟨d1, d2⟩ | ⟨c, d1, d2, ⟨i, hi, d3⟩, d4⟩
        · exfalso
          obtain ⟨j, hj⟩ := testBit_ex c6
          have hj64 : j < 64 := by
            by_cases q : j < 64
            · exact q
            · exfalso
              have : (wN T h l1).testBit j = false := Nat.testBit_lt_two_pow (Nat.lt_of_lt_of_le (N64_lt _) (Nat.pow_le_pow_right (by decide) (by omega)))
              rw [this] at hj; cases hj
          have := (c7 j).mpr ⟨l1, c3, c4, c5, hj⟩
          exact d2 (j % 4) (by omega) ⟨j / 4, by omega, by rw [show 4 * (j / 4) + j % 4 = j by omega]; exact this⟩
        · refine Or.inr ⟨P, c, hP, d1, b2.trans c1, d2, ?_, fun c' hc' y hy => ?_, fun c' hc' y hy e => ?_⟩
          · obtain ⟨l, e1, e2, e3, e4⟩ := (c7 _).mp d3
            have := hBR l i c e2 hi d1 e4
            exact ⟨_, this.1, by omega⟩
          · have := hRB c' hc' y hy
            have h3 := c2 (y / 1001 * 63 + y % 1001 / 16) (Nat.zero_le _) (by omega) (fun q => by
              rw [q, Nat.zero_testBit] at this
              cases this.1)
            omega
          · have := hRB c' (by omega) y hy
            exact d4 c' hc' ⟨y % 1001 % 16, by omega, (c7 _).mpr ⟨_, Nat.zero_le _, by omega, by omega, this.1⟩⟩
theorem Rel_tr {Sc Sm Sc' Sm' : pS} (h : (Rel gG) Sc Sm) (hc : ∀ k, ¬ scC k → k ≠ 131 → Sc' k = Sc k) (hm : ∀ k, k < 8 → Sm' k = Sm k) (h13 : MarkR Sm') (h0 : (AllR gG) Sc') : (Rel gG) Sc' Sm' := by
  obtain ⟨ns, nt, nl, ng, rd, tn, nu, la, np, h1, h2, h3, h4, h5, h6, h7⟩ := h
  have m0 := hm 0 (by decide)
  have m1 := hm 1 (by decide)
  have m2 := hm 2 (by decide)
  have m3 := hm 3 (by decide)
  have m7 := hm 7 (by decide)
  have c0 := hc 0 (by unfold scC; omega) (by decide)
  have c45 := hc 45 (by unfold scC; omega) (by decide)
  have c46 := hc 46 (by unfold scC; omega) (by decide)
  have c47 := hc 47 (by unfold scC; omega) (by decide)
  have c65 := hc 65 (by unfold scC; omega) (by decide)
  refine ⟨ns, nt, nl, ng, rd, tn, nu, la, np, RW_fr h1 (fun k a1 a2 a3 a4 a5 => hc k (by unfold scC; omega) (by omega)) m1, ?_, ?_, ?_, ?_, h13, h0⟩
  · unfold PastR at h2 ⊢
    rw [m0, c65, m1, m3]
    obtain ⟨a1, a2, a3, a4, a5, a6⟩ := h2
    refine ⟨a1, a2, a3, a4, a5, fun j hj => ?_⟩
    rw [hc (67 + (la + 8 - j) % 8) (by unfold scC; omega) (by omega)]
    exact a6 j hj
  · unfold TapeR at h3 ⊢
    rw [m0, c46, c47, m7]
    exact h3
  · unfold FaultR at h4 ⊢
    rw [m0, c45]
    exact h4
  · unfold ImgR at h5 ⊢
    rw [m0, c0]
    rcases h5 with q | ⟨a1, a2, ns, nt, nl, ng, rd, tn, q⟩
    · exact Or.inl q
    · exact Or.inr ⟨a1, a2, ns, nt, nl, ng, rd, tn, RW_fr q (fun k a1 a2 a3 a4 a5 => hc k (by unfold scC; omega) (by omega)) m2⟩
theorem M_train {Sc Sm : pS} (hR : (Rel gG) Sc Sm) (h07 : Sc 0 7 = 131) (a1 a2 a3 a4 : Int32) : R2 (F11_train Sc a1 a2 a3 a4) (F12_train Sm a1 a2 a3 a4) (Ans gG) := by
  obtain ⟨ns, nt, nl, ng, rd, tn, hV, hW, hT, -, -, c5, -, -, hE⟩ := Rel_V hR
  have hnt := hW.2.1
  have hMk : MarkR Sm := by obtain ⟨_, _, _, _, _, _, _, _, _, _, _, _, _, _, h6, _⟩ := hR; exact h6
  have hAl : (AllR gG) Sc := by obtain ⟨_, _, _, _, _, _, _, _, _, _, _, _, _, _, _, h7⟩ := hR; exact h7
  by_cases h1 : isN a1 nt
  rotate_left
  · unfold F11_train F12_train
    rw [thr_f hW.2.2.2.2.2.2.2.1 hnt h1, if_pos rfl, one_f c5 hnt h1, bB_s, bO_0]; exact r2_A hR
  have q1 := thr_t hW.2.2.2.2.2.2.2.1 hnt h1
  by_cases h2 : F12_isIn a2 1 12 = 0
  · unfold F11_train F12_train
    simp only [wie]
    obtain ⟨t, ht, rfl⟩ := h1
    rw [q1, if_neg n10, h2, if_pos rfl, one_t c5 hnt ht, bB_s, bO_1, if_pos rfl]; exact r2_A hR
  by_cases h3 : F12_isIn a3 0 1000 = 0
  · unfold F11_train F12_train
    simp only [wie]
    obtain ⟨t, ht, rfl⟩ := h1
    rw [q1, if_neg n10, if_neg h2, h3, if_pos rfl, one_t c5 hnt ht, bB_s, bO_1, if_neg h2, if_pos rfl]; exact r2_A hR
  by_cases h4 : F12_isIn a4 0 1 = 0
  · unfold F11_train F12_train
    simp only [wie]
    obtain ⟨t, ht, rfl⟩ := h1
    rw [q1, if_neg n10, if_neg h2, if_neg h3, h4, if_pos rfl, one_t c5 hnt ht, bB_s, bO_1, if_neg h2, if_neg h3, if_pos rfl]; exact r2_A hR
  have i01 : ∀ a b c, ¬ F12_isIn a b c = 0 → F12_isIn a b c = 1 := fun a b c q => by
    rw [isIn_d] at q ⊢
    by_cases z : b ≤ a ∧ a ≤ c
    · rw [if_pos z]
    · rw [if_neg z] at q; exact absurd rfl q
  obtain ⟨t, ht, rfl⟩ := h1
  have ht8 : t < 8 := by omega
  have h3' : isN a3 1001 := by
    by_cases z : isN a3 1001
    · exact z
    · exact absurd (in_f (m := 1000) (n := 1000) rfl (by decide) z) h3
  obtain ⟨most, hmo, rfl⟩ := h3'
  obtain ⟨weeks, hwk1, hwk2, rfl⟩ : ∃ n, 1 ≤ n ∧ n ≤ 12 ∧ a2 = nI n := by
    rw [isIn_d] at h2
    by_cases z : (1 : Int32) ≤ a2 ∧ a2 ≤ 12
    · obtain ⟨n, hn, e⟩ := (in_N (a := a2) (m := 12) (n := 12) rfl (by decide)).mp ⟨Int32.le_trans (by decide) z.1, z.2⟩
      refine ⟨n, ?_, by omega, e⟩
      rcases n with _ | n
      · rw [e] at z; exact absurd z.1 (by decide)
      · omega
    · rw [if_neg z] at h2; exact absurd rfl h2
  obtain ⟨p0, hp0, e0⟩ := (hT t ht).1
  obtain ⟨w0, hw0, e1⟩ := (hT t ht).2.1
  obtain ⟨q, hq, b, f, hbest, hans, hmk, hfr⟩ := L_trainM (most := most) (weeks := weeks) (a4 := a4) hV ht8 e0 e1 hp0 hw0 hwk1 hwk2 (by omega) hMk q1 (i01 _ _ _ h2) (i01 _ _ _ h3) (i01 _ _ _ h4)
  obtain ⟨z, U⟩ := q
  simp only at hans hmk hfr
  have hclass : Ok (F11_train Sc (nI t) (nI weeks) (nI most) a4) (fun q => (∃ b f, isBest (fun c => RS Sm most (1001 * p0 + w0) c weeks) b f ∧ q.1 = (if a4 = 0 then b else f)) ∧ (∀ k, ¬ scC k → k ≠ 131 → q.2 k = Sc k) ∧ (AllR gG) q.2) := by
    unfold F11_train
    simp only [wie]
    rw [one_t c5 hnt ht, bB_s, bO_1, if_neg h2, if_neg h3, if_neg h4]
    simp only [bL_d]
    have pm : pmu (Sc 0 7) = some 131 := by rw [h07]; decide
    rw [bG_t pm, bG_t pm, RE_t0 hE ht8, RE_t1 hE ht8, e0, e1]
    have hhg : ∃ h g, ((h = 132 ∧ g = 133) ∨ (h = 133 ∧ g = 132)) ∧ Sc 131 2 = nI h ∧ Sc 131 3 = nI g := by
      rcases hAl.2.1 with q | ⟨-, ⟨q1, q2⟩ | ⟨q1, q2⟩⟩
      · rw [h07] at q; exact absurd q (by decide)
      · exact ⟨132, 133, Or.inl ⟨rfl, rfl⟩, q1, q2⟩
      · exact ⟨133, 132, Or.inr ⟨rfl, rfl⟩, q1, q2⟩
    obtain ⟨h, g, hhg, g2, g3⟩ := hhg
    have hh : h = 132 ∨ h = 133 := by omega
    have hx0 : 1001 * p0 + w0 < 100100 := by omega
    unfold F9_begin
    rw [g2, pmu_t hh, bO_1, bG_t hh]
    obtain ⟨T0, f0, f1, f2⟩ := L_fill8 (S := Sc) (k := h)
    rw [f0, bB_s, f1 131 (by omega), g2, pmu_t hh, bO_1, bG_t hh]
    obtain ⟨T1, p1, p2, p3⟩ := L_put (S := T0) (k := h) (p := p0) (w := w0) (m := 15) hp0 (by omega) (by decide)
    have p1' : F9_put T0 h 6300 (nI p0) (nI w0) 15 = some T1 := p1
    rw [p1', bB_s, bB_s]
    have f15 : ∀ c : Fin 4, (15 : Nat).testBit c.val = true := by decide
    have hT1 : ∀ k', k' ≠ h → T1 k' = Sc k' := fun k' a => (p2 k' a).trans (f1 k' a)
    refine ok_B (P := fun (T : pS) => ∃ h g, ((h = 132 ∧ g = 133) ∨ (h = 133 ∧ g = 132)) ∧ T 131 2 = nI h ∧ T 131 3 = nI g ∧ (∀ k', k' ≠ 28 → k' ≠ 131 → k' ≠ 132 → k' ≠ 133 → k' ≠ 134 → T k' = Sc k') ∧ ∀ p w c, p < 100 → w < 1008 → c < 4 → (BB T h p w c = true ↔ w < 1001 ∧ RS Sm most (1001 * p0 + w0) c weeks (1001 * p + w))) (ok_P weeks (fun i s => ∃ (T : pS) (h g : Nat), s = (nI i, T) ∧ ((h = 132 ∧ g = 133) ∨ (h = 133 ∧ g = 132)) ∧ T 131 2 = nI h ∧ T 131 3 = nI g ∧ (∀ k', k' ≠ 28 → k' ≠ 131 → k' ≠ 132 → k' ≠ 133 → k' ≠ 134 → T k' = Sc k') ∧ ∀ p w c, p < 100 → w < 1008 → c < 4 → (BB T h p w c = true ↔ w < 1001 ∧ RS Sm most (1001 * p0 + w0) c i (1001 * p + w))) ?_ ?_ ?_) ?_
    · refine ⟨T1, h, g, rfl, hhg, by rw [hT1 131 (by omega)]; exact g2, by rw [hT1 131 (by omega)]; exact g3, fun k' a1 a2 a3 a4 a5 => hT1 k' (by omega), fun p w c a b d => ?_⟩
      have hb0 : BB T0 h p w c = false := by
        unfold BB
        rw [f2 _ (by omega), Nat.zero_testBit]
      have hf := f15 ⟨c, d⟩
      simp only at hf
      rw [p3 p w c a b d, hb0, Bool.false_or, hf, Bool.and_true, decide_eq_true_iff]
      show _ ↔ w < 1001 ∧ 1001 * p + w = 1001 * p0 + w0
      constructor
      · rintro ⟨rfl, rfl⟩; exact ⟨hw0, rfl⟩
      · rintro ⟨q1, q2⟩; exact ⟨by omega, by omega⟩
    · rintro i s hi ⟨T, h, g, rfl, b1, b2, b3, b4, b5⟩
      simp only [u2_d]
      rw [if_neg (nI_ge hi (by omega)), b4 0 (by decide) (by decide) (by decide) (by decide) (by decide), bG_t pm]
      obtain ⟨T2, d1, d2, d3, d4, d5⟩ := L_week (k := i) hV (by omega) (show most ≤ 1000 by omega) hx0 b1 b2 b3 (fun j hj => b4 _ (by omega) (by omega) (by omega) (by omega) (by omega)) b5
      rw [d1, bB_s, nI_1]
      exact ok_s ⟨T2, g, h, rfl, by omega, d2, d3, fun k' a1 a2 a3 a4 a5 => (d4 k' a1 a2 a3 a4 a5).trans (b4 k' a1 a2 a3 a4 a5), d5⟩
    · rintro s ⟨T, h, g, rfl, b1, b2, b3, b4, b5⟩
      simp only [u2_d]
      rw [if_pos (nI_le (Nat.le_refl _) (by omega))]
      exact ok_s ⟨h, g, b1, b2, b3, b4, b5⟩
    · rintro T ⟨h, g, b1, b2, b3, b4, b5⟩
      rw [u1_d, b4 0 (by decide) (by decide) (by decide) (by decide) (by decide), bG_t pm]
      obtain ⟨T2, d1, d2, d3, d4⟩ := L_judge (by omega) b2 (fun c hc x hx => RS_lt hx0 weeks x hx) b5
      rw [d1, bB_s]
      have hall : (AllR gG) T2 := by
        unfold AllR
        rw [d3 0 (by decide), b4 0 (by decide) (by decide) (by decide) (by decide) (by decide), d4 2 (by decide), d4 3 (by decide), b2, b3]
        refine ⟨hAl.1, Or.inr ⟨h07, ?_⟩, hAl.2.2⟩
        rcases b1 with ⟨rfl, rfl⟩ | ⟨rfl, rfl⟩
        · exact Or.inl ⟨rfl, rfl⟩
        · exact Or.inr ⟨rfl, rfl⟩
      have hfr2 : ∀ k, ¬ scC k → k ≠ 131 → T2 k = Sc k := fun k a b => by
        unfold scC at a
        rw [d3 k b, b4 k (by omega) (by omega) (by omega) (by omega) (by omega)]
      have pm2 : pmu (T2 0 7) = some 131 := by
        rw [hfr2 0 (by unfold scC; omega) (by decide)]; exact pm
      by_cases z : a4 = 0
      · rw [if_pos z, bG_t pm2]
        exact ok_s ⟨⟨_, _, d2, by rw [if_pos z]⟩, hfr2, hall⟩
      · rw [if_neg z, bG_t pm2]
        exact ok_s ⟨⟨_, _, d2, by rw [if_neg z]⟩, hfr2, hall⟩
  obtain ⟨⟨y, T⟩, k1, ⟨b', f', hb', ha'⟩, k3, k4⟩ := hclass
  simp only at ha' k3 k4
  obtain ⟨u1, u2⟩ := isBest_u hb' hbest
  refine ⟨(y, T), (z, U), k1, hq, ?_, Rel_tr hR k3 (fun k hk => hfr k (by omega) (by omega) (by omega) (by omega) (by omega)) hmk k4⟩
  show y = z
  rw [ha', hans, u1, u2]
end

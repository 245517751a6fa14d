section
/-! training: a week of the class -/
def PW (Sm T : pS) (h k most l i p' w' c : Nat) : Prop := ∃ p w, p < 100 ∧ w < 1008 ∧ (p * 63 + w / 16 < l ∨ (p * 63 + w / 16 = l ∧ w % 16 < i)) ∧ fB T h p w ≠ 0 ∧ SpP Sm k most (fB T h p w) p w p' w' c
theorem PW_n {Sm T : pS} {h k most l i p' w' c : Nat} (h0 : wN T h l / 2 ^ (4 * i) = 0 ∨ 16 ≤ i) : PW Sm T h k most l i p' w' c ↔ PW Sm T h k most (l + 1) 0 p' w' c := by
  constructor
  · rintro ⟨p, w, h1, h2, h3, h4⟩
    exact ⟨p, w, h1, h2, Or.inl (by omega), h4⟩
  · rintro ⟨p, w, h1, h2, h3, h4, h5⟩
    refine ⟨p, w, h1, h2, ?_, h4, h5⟩
    by_cases q : p * 63 + w / 16 < l
    · exact Or.inl q
    · have e : p * 63 + w / 16 = l := by omega
      refine Or.inr ⟨e, ?_⟩
      by_cases q2 : w % 16 < i
      · exact q2
      · exfalso
        rcases h0 with h0 | h0
        · apply h4
          unfold fB
          rw [e, show 4 * (w % 16) = 4 * i + 4 * (w % 16 - i) by omega, Nat.pow_add, ← Nat.div_div_eq_div_mul, h0, Nat.zero_div]
        · omega
theorem PW_1 {Sm T : pS} {h k most l i p' w' c : Nat} (hl : l < 6300) (hi : i < 16) : PW Sm T h k most l (i + 1) p' w' c ↔ PW Sm T h k most l i p' w' c ∨ (fB T h (l / 63) (l % 63 * 16 + i) ≠ 0 ∧ SpP Sm k most (fB T h (l / 63) (l % 63 * 16 + i)) (l / 63) (l % 63 * 16 + i) p' w' c) := by
  constructor
  · rintro ⟨p, w, h1, h2, h3, h4, h5⟩
    by_cases q : p * 63 + w / 16 < l ∨ (p * 63 + w / 16 = l ∧ w % 16 < i)
    · exact Or.inl ⟨p, w, h1, h2, q, h4, h5⟩
    · have e1 : p = l / 63 := by omega
      have e2 : w = l % 63 * 16 + i := by omega
      subst e1; subst e2
      exact Or.inr ⟨h4, h5⟩
  · rintro (⟨p, w, h1, h2, h3, h4⟩ | ⟨h4, h5⟩)
    · exact ⟨p, w, h1, h2, by omega, h4⟩
    · exact ⟨l / 63, l % 63 * 16 + i, by omega, by omega, Or.inr ⟨by omega, by omega⟩, h4, h5⟩
theorem L_week {ns k most x0 h g : Nat} {Sc Sm T : pS} (hV : VR ns Sc Sm) (hk : k < 12) (hmo : most ≤ 1000) (hx0 : x0 < 100100) (hhg : (h = 132 ∧ g = 133) ∨ (h = 133 ∧ g = 132)) (h2 : T 131 2 = nI h) (h3 : T 131 3 = nI g) (hT : ∀ i, i < 6 → T (22 + i) = Sc (22 + i))
    (hB : ∀ p w c, p < 100 → w < 1008 → c < 4 → (BB T h p w c = true ↔ w < 1001 ∧ RS Sm most x0 c k (1001 * p + w))) :
    Ok (F9_week T 131 22 (nI k) (nI most)) (fun T' => T' 131 2 = nI g ∧ T' 131 3 = nI h ∧ (∀ k', k' ≠ 28 → k' ≠ 131 → k' ≠ 132 → k' ≠ 133 → k' ≠ 134 → T' k' = T k') ∧ ∀ p w c, p < 100 → w < 1008 → c < 4 → (BB T' g p w c = true ↔ w < 1001 ∧ RS Sm most x0 c (k + 1) (1001 * p + w))) := by
  have hg : g = 132 ∨ g = 133 := by omega
  have hh : h = 132 ∨ h = 133 := by omega
  have hne : h ≠ g := by omega
  have hw1 : ∀ p w, p < 100 → w < 1008 → fB T h p w ≠ 0 → w < 1001 := fun p w a b q => by
    obtain ⟨c, hc, e⟩ := fB_ne q
    exact ((hB p w c a b hc).mp e).1
  unfold F9_week
  simp only [bL_d]
  rw [h3, pmu_t hg, bO_1, bG_t hg]
  obtain ⟨T0, e0, e1, e2⟩ := L_fill8 (S := T) (k := g)
  rw [e0, bB_s]
  refine ok_B (P := fun (T' : pS) => T' 131 2 = nI h ∧ T' 131 3 = nI g ∧ (∀ k', k' ≠ 28 → k' ≠ 134 → k' ≠ g → T' k' = T k') ∧ ∀ p w c, p < 100 → w < 1008 → c < 4 → (BB T' g p w c = true ↔ PW Sm T h k most 6300 0 p w c)) (ok_P 6300 (fun l s => ∃ T', s = (nI l, T') ∧ T' 131 2 = nI h ∧ T' 131 3 = nI g ∧ (∀ k', k' ≠ 28 → k' ≠ 134 → k' ≠ g → T' k' = T k') ∧ ∀ p w c, p < 100 → w < 1008 → c < 4 → (BB T' g p w c = true ↔ PW Sm T h k most l 0 p w c)) ?_ ?_ ?_) ?_
  · refine ⟨T0, rfl, by rw [e1 131 (by omega)]; exact h2, by rw [e1 131 (by omega)]; exact h3, fun k' _ _ a => e1 k' a, fun p w c a b d => ?_⟩
    constructor
    · intro q
      unfold BB at q
      rw [e2 _ (by omega), Nat.zero_testBit] at q
      cases q
    · rintro ⟨p, w, -, -, q, -⟩
      omega
  · rintro l s hl ⟨T1, rfl, a2, a3, a4, a5⟩
    simp only [u2_d]
    rw [a2, pmu_t hh, bO_1, bG_t hh, if_neg (nge 6300 (b := 6300) rfl hl (by decide)), bO_1, bG_t hh, bG_N hl (by decide), nI_clamp (by omega)]
    have ew : N64 (pjn (T1 h (2 * l)) (T1 h (2 * l + 1))) = wN T h l := by
      show wN T1 h l = _
      exact wN_c (a4 h (by omega) (by omega) (by omega))
    have d1 : nI l / 63 = nI (l / 63) := by rw [show (63 : Int32) = nI 63 from rfl, pk_div (by omega) (by omega) (by omega)]
    have d2 : nI l - nI (l / 63) * 63 = nI (l % 63) := by
      rw [show (63 : Int32) = nI 63 from rfl, pk_mul, pk_sub (by omega)]
      congr 1; omega
    refine ok_B (P := fun (T' : pS) => T' 131 2 = nI h ∧ T' 131 3 = nI g ∧ (∀ k', k' ≠ 28 → k' ≠ 134 → k' ≠ g → T' k' = T k') ∧ ∀ p w c, p < 100 → w < 1008 → c < 4 → (BB T' g p w c = true ↔ PW Sm T h k most (l + 1) 0 p w c)) (ok_P 16 (fun i s => ∃ (x : Int64) (T' : pS), s = (x, nI i, T') ∧ N64 x = wN T h l / 2 ^ (4 * i) ∧ T' 131 2 = nI h ∧ T' 131 3 = nI g ∧ (∀ k', k' ≠ 28 → k' ≠ 134 → k' ≠ g → T' k' = T k') ∧ ∀ p w c, p < 100 → w < 1008 → c < 4 → (BB T' g p w c = true ↔ PW Sm T h k most l i p w c)) ?_ ?_ ?_) ?_
    · exact ⟨_, T1, rfl, by rw [ew]; simp only [Nat.mul_zero, Nat.pow_zero, Nat.div_one], a2, a3, a4, a5⟩
    · rintro i s hi ⟨x, T2, rfl, b1, b2, b3, b4, b5⟩
      simp only [u3_d]
      rw [if_neg (nge 16 (b := 16) rfl hi (by decide))]
      by_cases hx : x = 0
      · rw [if_pos hx]
        refine ok_s ⟨b2, b3, b4, fun p w c a b d => (b5 p w c a b d).trans (PW_n (Or.inl ?_))⟩
        rw [← b1, hx]; rfl
      · rw [if_neg hx, N64_15, d1, d2, show (16 : Int32) = nI 16 from rfl, pk_mul, nI_add, nI_1]
        have eN : N64 x % 16 = fB T h (l / 63) (l % 63 * 16 + i) := by
          unfold fB
          rw [b1, show l / 63 * 63 + (l % 63 * 16 + i) / 16 = l by omega, show (l % 63 * 16 + i) % 16 = i by omega]
        have eS : N64 ((x.toUInt64 >>> ((4 : Int32).toInt64.toUInt64 &&& Int64.toUInt64 63)).toInt64) = wN T h l / 2 ^ (4 * (i + 1)) := by
          rw [N64_sh, b1, Nat.div_div_eq_div_mul, show (16 : Nat) = 2 ^ 4 from rfl, ← Nat.pow_add]
          congr 1
        rw [eN]
        by_cases hf0 : fB T h (l / 63) (l % 63 * 16 + i) = 0
        · rw [hf0, if_pos nI_0]
          refine ok_s ⟨_, T2, rfl, eS, b2, b3, b4, fun p w c a b d => (b5 p w c a b d).trans ?_⟩
          rw [PW_1 hl hi]
          exact ⟨Or.inl, fun q => q.elim id (fun q => absurd hf0 q.1)⟩
        · have hf16 := fB_lt (S := T) (k := h) (p := l / 63) (w := l % 63 * 16 + i)
          rw [if_neg (nI_ne0 (Nat.pos_of_ne_zero hf0) (by omega))]
          have hsp := L_spread (T := T2) (f := fB T h (l / 63) (l % 63 * 16 + i)) (p := l / 63) (w := l % 63 * 16 + i) hV hk hmo (by omega) (hw1 _ _ (by omega) (by omega) hf0) hf16 hg b3 (fun i hi => by rw [b4 _ (by omega) (by omega) (by omega)]; exact hT i hi)
          obtain ⟨T3, c1, c2, c3⟩ := hsp
          rw [c1, bB_s]
          refine ok_s ⟨_, T3, rfl, eS, by rw [c2 131 (by decide) (by decide) (by omega)]; exact b2, by rw [c2 131 (by decide) (by decide) (by omega)]; exact b3, fun k' q1 q2 q3 => (c2 k' q1 q2 q3).trans (b4 k' q1 q2 q3), fun p w c a b d => ?_⟩
          rw [c3 p w c a b d, b5 p w c a b d, PW_1 hl hi]
          exact ⟨fun q => q.imp id (fun q => ⟨hf0, q⟩), fun q => q.imp id (fun q => q.2)⟩
    · rintro s ⟨x, T2, rfl, b1, b2, b3, b4, b5⟩
      simp only [u3_d]
      rw [if_pos (show (16 : Int32) ≤ nI 16 by decide)]
      exact ok_s ⟨b2, b3, b4, fun p w c a b d => (b5 p w c a b d).trans (PW_n (Or.inr (Nat.le_refl _)))⟩
    · rintro T' hq
      rw [u1_d, nI_1]
      exact ok_s ⟨T', rfl, hq⟩
  · rintro s ⟨T1, rfl, a2, a3, a4, a5⟩
    simp only [u2_d]
    rw [a2, pmu_t hh, bO_1, bG_t hh, if_pos (show (6300 : Int32) ≤ nI 6300 by decide)]
    exact ok_s ⟨a2, a3, a4, a5⟩
  · rintro T1 ⟨a2, a3, a4, a5⟩
    rw [u1_d, a2, pmu_t hh, bO_1, bG_t hh, a3, pmu_t hg, bO_1, bG_t hg, bG_t (pmu_t hg), bG_t (pmu_t hh)]
    refine ok_s ⟨?_, ?_, fun k' q1 q2 q3 q4 q5 => ?_, fun p w c a b d => ?_⟩
    · rw [sU_n (by omega), sU_s]
    · rw [sU_s]
    · rw [sU_ne q2, sU_ne q2]; exact a4 k' q1 q5 (by omega)
    · rw [BB_c (S' := T1) (by rw [sU_ne (by omega), sU_ne (by omega)]), a5 p w c a b d]
      constructor
      · rintro ⟨p1, w1, q1, q2, -, q4, b', q5, q6, q7, q8, q9⟩
        have hw' := hw1 p1 w1 q1 q2 q4
        obtain ⟨c0, hc0, hb0⟩ := fB_ne q4
        have r0 := ((hB p1 w1 c0 q1 q2 hc0).mp hb0).2
        have hwN := (hN_e (k := k) (b := b') (p := p1) (w := w1) (Sm := Sm)).2
        have en : nx Sm k b' (1001 * p1 + w1) = 1001 * p + w := by
          unfold nx
          rw [show (1001 * p1 + w1) / 1001 = p1 by omega, show (1001 * p1 + w1) % 1001 = w1 by omega, ← q6, ← q7]
        refine ⟨by omega, 1001 * p1 + w1, b', ?_, q5, ?_, en.symm, by omega⟩
        · rcases q9 with ⟨z1, z2⟩ | ⟨z1, z2⟩
          · subst z1
            exact r0
          · rw [fB_bit d] at z2
            exact ((hB p1 w1 c q1 q2 d).mp z2).2
        · intro z
          rcases q9 with ⟨z1, z2⟩ | ⟨z1, z2⟩
          · exact z2.symm
          · exact absurd z z1
      · rintro ⟨q0, x, b', r0, q5, q6, q7, q8⟩
        have hx := RS_lt hx0 k x r0
        have hnx := nx_d (S := Sm) (k := k) (b := b') (x := x)
        rw [← q7] at hnx
        have hbb : BB T h (x / 1001) (x % 1001) c = true := (hB _ _ c (by omega) (by omega) d).mpr ⟨by omega, by rw [show 1001 * (x / 1001) + x % 1001 = x by omega]; exact r0⟩
        refine ⟨x / 1001, x % 1001, by omega, by omega, Or.inl (by omega), fB_of d hbb, b', q5, by omega, by omega, by omega, ?_⟩
        by_cases z : k = 0
        · exact Or.inl ⟨z, (q6 z).symm⟩
        · exact Or.inr ⟨z, by rw [fB_bit d]; exact hbb⟩
end

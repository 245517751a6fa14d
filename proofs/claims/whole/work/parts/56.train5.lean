section
/-! training: the class' rows -/
theorem BB_c {S S' : pS} {k p w c : Nat} (h : S k = S' k) : BB S k p w c = BB S' k p w c := by
  unfold BB wN
  rw [h]
theorem wN_c {S S' : pS} {k l : Nat} (h : S k = S' k) : wN S k l = wN S' k l := by
  unfold wN
  rw [h]
theorem pmu_t {k : Nat} (h : k = 132 ∨ k = 133) : pmu (nI k) = some k := by
  rcases h with rfl | rfl <;> decide
def SpP (Sm : pS) (k most f p w p' w' c : Nat) : Prop := ∃ b, b < 4 ∧ p' = min 99 (p + gN Sm k b p w) ∧ w' = hN Sm k b p w ∧ w' ≤ most ∧ ((k = 0 ∧ c = b) ∨ (k ≠ 0 ∧ f.testBit c = true))
theorem shl_1 : ∀ j : Fin 4, (1 : Int32) <<< (nI j.val &&& 31) = nI (2 ^ j.val) := by decide
theorem bit_1 : ∀ j : Fin 4, ∀ c : Fin 4, (2 ^ j.val).testBit c.val = decide (c.val = j.val) := by decide
theorem L_spread {ns k most p w f kt : Nat} {Sc Sm T : pS} (hV : VR ns Sc Sm) (hk : k < 12) (hmo : most ≤ 1000) (hp : p < 100) (hw : w < 1001) (hf : f < 16) (hkt : kt = 132 ∨ kt = 133) (h3 : T 131 3 = nI kt) (hT : ∀ i, i < 6 → T (22 + i) = Sc (22 + i)) :
    Ok (F9_spread T 131 22 (nI k) (nI most) (nI p) (nI w) (nI f)) (fun T' => (∀ k', k' ≠ 28 → k' ≠ 134 → k' ≠ kt → T' k' = T k') ∧ ∀ p' w' c, p' < 100 → w' < 1008 → c < 4 → (BB T' kt p' w' c = true ↔ BB T kt p' w' c = true ∨ SpP Sm k most f p w p' w' c)) := by
  unfold F9_spread
  simp only [bL_d, Nat.reduceAdd]
  refine ok_B (P := fun (T' : pS) => (∀ k', k' ≠ 28 → k' ≠ 134 → k' ≠ kt → T' k' = T k') ∧ ∀ p' w' c, p' < 100 → w' < 1008 → c < 4 → (BB T' kt p' w' c = true ↔ BB T kt p' w' c = true ∨ SpP Sm k most f p w p' w' c)) (ok_P 4 (fun j s => ∃ T', s = (nI j, T') ∧ (∀ k', k' ≠ 28 → k' ≠ 134 → k' ≠ kt → T' k' = T k') ∧ ∀ p' w' c, p' < 100 → w' < 1008 → c < 4 → (BB T' kt p' w' c = true ↔ BB T kt p' w' c = true ∨ ∃ b, b < j ∧ p' = min 99 (p + gN Sm k b p w) ∧ w' = hN Sm k b p w ∧ w' ≤ most ∧ ((k = 0 ∧ c = b) ∨ (k ≠ 0 ∧ f.testBit c = true)))) ?_ ?_ ?_) ?_
  · exact ⟨T, rfl, fun _ _ _ _ => rfl, fun p' w' c _ _ _ => ⟨Or.inl, fun q => q.elim id (fun ⟨b, hb, _⟩ => absurd hb (Nat.not_lt_zero _))⟩⟩
  · rintro j s hj ⟨T', rfl, hfr, hB⟩
    simp only [u2_d]
    rw [if_neg (show ¬ (3 : Int32) < nI j from nI_nlt (a := 3) (b := j) (by omega) (by omega))]
    rw [show sU (sU (sU (sU T' 134 0 (nI j)) 134 1 (nI p)) 134 2 (nI w)) 134 3 (nI k) = tT T' k j p w from rfl]
    have hT' : ∀ i, i < 6 → tT T' k j p w (22 + i) = Sc (22 + i) := fun i hi => by
      rw [tT_ne (by omega), hfr _ (by omega) (by omega) (by omega)]; exact hT i hi
    obtain ⟨v, T1, k1, k2, f1⟩ := L_trT (wd := 0) (lo := 0) (hi := 9) hV hT' (fT_tT T' k j p w) (by decide) (by decide) (by decide)
    have g := gN_e (k := k) (b := j) (p := p) (w := w) hV
    have k1' : F3_tell (tT T' k j p w) 22 0 134 4 = some (v, T1) := k1
    have k2' : F11_hold v 0 9 = nI (gN Sm k j p w) := by rw [← g.1]; exact k2
    obtain ⟨v2, T2, m1, m2, f2⟩ := L_trT (wd := 1) (lo := -200) (hi := 200) (T := T1) (k := k) (b := j) (p := p) (w := w) hV (fun i hi => by rw [f1 _ (by omega)]; exact hT' i hi) (by
      unfold fT
      rw [f1 134 (by decide)]
      exact fT_tT T' k j p w) (by decide) (by decide) (by decide)
    have m1' : F3_tell T1 22 1 134 4 = some (v2, T2) := m1
    have m2' : F11_hold v2 (-200) 200 = vI (F12_lawSays (tU Sm k j p w) 2 28 (-200) 200) := m2
    have hx := hN_e (k := k) (b := j) (p := p) (w := w) (Sm := Sm)
    have f3 : ∀ k', k' ≠ 28 → k' ≠ 134 → T2 k' = T' k' := fun k' a b => by rw [f2 k' a, f1 k' a, tT_ne b]
    rw [k1', bB2_s, k2', m1', bB2_s, m2', hol (by decide), hx.1, nI_1]
    have hfr2 : ∀ k', k' ≠ 28 → k' ≠ 134 → k' ≠ kt → T2 k' = T k' := fun k' a b c => by rw [f3 k' a b]; exact hfr k' a b c
    have hB2 : ∀ p' w' c, p' < 100 → w' < 1008 → c < 4 → (BB T2 kt p' w' c = true ↔ BB T kt p' w' c = true ∨ ∃ b, b < j ∧ p' = min 99 (p + gN Sm k b p w) ∧ w' = hN Sm k b p w ∧ w' ≤ most ∧ ((k = 0 ∧ c = b) ∨ (k ≠ 0 ∧ f.testBit c = true))) := fun p' w' c a b d => by
      rw [BB_c (f3 kt (by omega) (by omega))]; exact hB p' w' c a b d
    by_cases hlt : most < hN Sm k j p w
    · rw [if_pos (nI_lt hlt (by omega))]
      refine ok_s ⟨T2, rfl, hfr2, fun p' w' c a b d => (hB2 p' w' c a b d).trans ?_⟩
      constructor
      · rintro (q | ⟨b', q1, q2⟩)
        · exact Or.inl q
        · exact Or.inr ⟨b', by omega, q2⟩
      · rintro (q | ⟨b', q1, q2, q3, q4, q5⟩)
        · exact Or.inl q
        · by_cases qb : b' = j
          · subst qb; omega
          · exact Or.inr ⟨b', by omega, q2, q3, q4, q5⟩
    · rw [if_neg (nI_nlt (by omega) (by omega)), f3 131 (by decide) (by decide), hfr 131 (by decide) (by decide) (by omega), h3, pmu_t hkt, bO_1, bG_t hkt]
      have key : ∀ m, m < 16 → (∀ c, c < 4 → (m.testBit c = true ↔ ((k = 0 ∧ c = j) ∨ (k ≠ 0 ∧ f.testBit c = true)))) → Ok (bB (F9_put T2 kt 6300 (jmin 99 (nI p + nI (gN Sm k j p w))) (nI (hN Sm k j p w)) (nI m)) fun S_19 => some (Sum.inl (nI (j + 1), S_19)) : Option ((Int32 × pS) ⊕ pS)) (fun z => Sum.elim (fun s => ∃ T', s = (nI (j + 1), T') ∧ (∀ k', k' ≠ 28 → k' ≠ 134 → k' ≠ kt → T' k' = T k') ∧ ∀ p' w' c, p' < 100 → w' < 1008 → c < 4 → (BB T' kt p' w' c = true ↔ BB T kt p' w' c = true ∨ ∃ b, b < j + 1 ∧ p' = min 99 (p + gN Sm k b p w) ∧ w' = hN Sm k b p w ∧ w' ≤ most ∧ ((k = 0 ∧ c = b) ∨ (k ≠ 0 ∧ f.testBit c = true)))) (fun (T' : pS) => (∀ k', k' ≠ 28 → k' ≠ 134 → k' ≠ kt → T' k' = T k') ∧ ∀ p' w' c, p' < 100 → w' < 1008 → c < 4 → (BB T' kt p' w' c = true ↔ BB T kt p' w' c = true ∨ SpP Sm k most f p w p' w' c)) z) := by
        intro m hm hmb
        rw [nI_add, ← les, show (99 : Int32) = nI 99 from rfl, lesN (by decide) (by omega)]
        obtain ⟨T3, n1, n2, n3⟩ := L_put (S := T2) (k := kt) (p := min 99 (p + gN Sm k j p w)) (w := hN Sm k j p w) (m := m) (by omega) (by omega) hm
        rw [n1, bB_s]
        refine ok_s ⟨T3, rfl, fun k' a b c => (n2 k' c).trans (hfr2 k' a b c), fun p' w' c a b d => ?_⟩
        rw [n3 p' w' c a b d, Bool.or_eq_true, Bool.and_eq_true, decide_eq_true_iff, hB2 p' w' c a b d, hmb c d]
        constructor
        · rintro ((q | ⟨b', q1, q2⟩) | ⟨⟨q1, q2⟩, q3⟩)
          · exact Or.inl q
          · exact Or.inr ⟨b', by omega, q2⟩
          · exact Or.inr ⟨j, by omega, q1, q2, by omega, q3⟩
        · rintro (q | ⟨b', q1, q2, q3, q4, q5⟩)
          · exact Or.inl (Or.inl q)
          · by_cases qb : b' = j
            · subst qb
              exact Or.inr ⟨⟨q2, q3⟩, q5⟩
            · exact Or.inl (Or.inr ⟨b', by omega, q2, q3, q4, q5⟩)
      by_cases hk0 : k = 0
      · subst hk0
        rw [if_pos (show nI 0 = 0 from nI_0), shl_1 ⟨j, hj⟩]
        refine key (2 ^ j) (show 2 ^ j < 2 ^ 4 from Nat.pow_lt_pow_right (by decide) hj) (fun c hc => ?_)
        have := bit_1 ⟨j, hj⟩ ⟨c, hc⟩
        simp only at this
        rw [this, decide_eq_true_iff]
        exact ⟨fun q => Or.inl ⟨rfl, q⟩, fun q => q.elim (fun q => q.2) (fun q => absurd rfl q.1)⟩
      · rw [if_neg (nI_ne0 (by omega) (by omega))]
        exact key f hf (fun c hc => ⟨fun q => Or.inr ⟨hk0, q⟩, fun q => q.elim (fun q => absurd q.1 hk0) (fun q => q.2)⟩)
  · rintro s ⟨T', rfl, hfr, hB⟩
    simp only [u2_d]
    rw [if_pos (show (3 : Int32) < nI 4 by decide)]
    exact ok_s ⟨hfr, hB⟩
  · intro T' h
    rw [u1_d]
    exact ok_s h
theorem bit_ne0 : ∀ f : Fin 16, f.val ≠ 0 → ∃ c, c < 4 ∧ f.val.testBit c = true := by
  intro f hf
  have : ∀ f : Fin 16, f.val ≠ 0 → (f.val.testBit 0 || f.val.testBit 1 || f.val.testBit 2 || f.val.testBit 3) = true := by decide
  have h := this f hf
  simp only [Bool.or_eq_true] at h
  rcases h with ((h | h) | h) | h
  · exact ⟨0, by decide, h⟩
  · exact ⟨1, by decide, h⟩
  · exact ⟨2, by decide, h⟩
  · exact ⟨3, by decide, h⟩
/-- the four bits of a POWER and a WEAR -/
def fB (S : pS) (k p w : Nat) : Nat := wN S k (p * 63 + w / 16) / 2 ^ (4 * (w % 16)) % 16
theorem fB_lt {S : pS} {k p w : Nat} : fB S k p w < 16 := Nat.mod_lt _ (by decide)
theorem fB_bit {S : pS} {k p w c : Nat} (hc : c < 4) : (fB S k p w).testBit c = BB S k p w c := by
  unfold fB BB
  have e : ∀ n : Nat, (n % 16).testBit c = n.testBit c := fun n => by rw [show (16 : Nat) = 2 ^ 4 from rfl, Nat.testBit_mod_two_pow, decide_eq_true hc, Bool.true_and]
  rw [e, Nat.testBit_div_two_pow, Nat.add_comm c]
theorem fB_ne {S : pS} {k p w : Nat} (h : fB S k p w ≠ 0) : ∃ c, c < 4 ∧ BB S k p w c = true := by
  obtain ⟨c, hc, h⟩ := bit_ne0 ⟨_, fB_lt⟩ h
  exact ⟨c, hc, by rw [← fB_bit hc]; exact h⟩
theorem fB_of {S : pS} {k p w c : Nat} (hc : c < 4) (h : BB S k p w c = true) : fB S k p w ≠ 0 := by
  intro q
  rw [← fB_bit hc, q, Nat.zero_testBit] at h
  cases h
end

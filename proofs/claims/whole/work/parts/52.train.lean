/-! training -/
def wN (S : pS) (k l : Nat) : Nat := N64 (pjn (S k (2 * l)) (S k (2 * l + 1)))
def BB (S : pS) (k p w c : Nat) : Bool := (wN S k (p * 63 + w / 16)).testBit (4 * (w % 16) + c)
theorem L_put {S : pS} {k p w m : Nat} (hp : p < 100) (hw : w < 1008) (hm : m < 16) : ∃ S', F9_put S k 6300 (nI p) (nI w) (nI m) = some S' ∧ (∀ k', k' ≠ k → S' k' = S k') ∧ ∀ p' w' c, p' < 100 → w' < 1008 → c < 4 → BB S' k p' w' c = (BB S k p' w' c || (decide (p' = p ∧ w' = w) && m.testBit c)) := by
  have el : nI p * 63 + nI w / 16 = nI (p * 63 + w / 16) := by
    rw [show (63 : Int32) = nI 63 from rfl, show (16 : Int32) = nI 16 from rfl, pk_mul, pk_div (by omega) (by omega) (by omega), nI_add]
  have es : (nI w - nI w / 16 * 16) * 4 = nI (w % 16 * 4) := by
    rw [show (4 : Int32) = nI 4 from rfl, show (16 : Int32) = nI 16 from rfl, pk_div (by omega) (by omega) (by omega), pk_mul, pk_sub (by omega), pk_mul]
    congr 2; omega
  unfold F9_put
  simp only [bL_d]
  rw [el, if_neg (nI_pos (by omega)), if_neg (nI_ge (by omega) (by omega)), bG_t (vp_in_nI (by omega) (by omega)), bG_t (vp_in_nI (by omega) (by omega)), nI_clamp (by omega), es]
  refine ⟨_, rfl, fun k' hk => by rw [sU_ne hk, sU_ne hk], fun p' w' c hp' hw' hc => ?_⟩
  unfold BB wN
  by_cases hl : p' * 63 + w' / 16 = p * 63 + w / 16
  · rw [hl, sU_n (by omega), sU_s, sU_s, pjn_s, N64_or]
    have := N64_put ⟨m, hm⟩ ⟨w % 16, by omega⟩
    simp only at this
    rw [this, Nat.testBit_or, Nat.testBit_shiftLeft]
    congr 1
    by_cases hi : w' % 16 = w % 16
    · rw [hi, decide_eq_true (show 4 * (w % 16) + c ≥ 4 * (w % 16) by omega), Nat.add_sub_cancel_left, decide_eq_true (show p' = p ∧ w' = w by omega)]
    · rw [decide_eq_false (show ¬ (p' = p ∧ w' = w) by omega)]
      by_cases hlt : w' % 16 < w % 16
      · rw [decide_eq_false (by omega)]; rfl
      · rw [Nat.testBit_lt_two_pow (show m < 2 ^ (4 * (w' % 16) + c - 4 * (w % 16)) from Nat.lt_of_lt_of_le hm (show 2 ^ 4 ≤ 2 ^ (4 * (w' % 16) + c - 4 * (w % 16)) from Nat.pow_le_pow_right (by omega) (by omega))), Bool.and_false, Bool.false_and]
  · rw [sU_n (by omega), sU_n (by omega), sU_n (by omega), sU_n (by omega), decide_eq_false (by omega), Bool.false_and, Bool.or_false]
theorem L_fill8 {S : pS} {k : Nat} : ∃ S', FJ7_fill_d0a16 S k 6300 0 = some S' ∧ (∀ k', k' ≠ k → S' k' = S k') ∧ ∀ l, l < 6300 → wN S' k l = 0 := by
  have key : Ok (FJ7_fill_d0a16 S k 6300 0) (fun S' => (∀ k', k' ≠ k → S' k' = S k') ∧ ∀ l, l < 6300 → wN S' k l = 0) := by
    unfold FJ7_fill_d0a16
    simp only [bL_d]
    refine ok_B (P := fun (T' : pS) => (∀ k', k' ≠ k → T' k' = S k') ∧ ∀ l, l < 6300 → wN T' k l = 0) (ok_P 6300 (fun i s => ∃ T', s = (nI i, T') ∧ (∀ k', k' ≠ k → T' k' = S k') ∧ ∀ l, l < i → wN T' k l = 0) ?_ ?_ ?_) (fun x hx => ok_s hx)
    · exact ⟨S, rfl, fun _ _ => rfl, fun j hj => absurd hj (Nat.not_lt_zero _)⟩
    · rintro i s hi ⟨T', rfl, h1, h2⟩
      rw [u2_d, if_neg (nI_ge hi (by decide)), bG_t (vp_in_nI hi (by decide)), nI_clamp (by omega), nI_1]
      refine ok_s ⟨_, rfl, fun k' hk => by rw [sU_ne hk, sU_ne hk]; exact h1 k' hk, fun l hl => ?_⟩
      unfold wN
      by_cases e : l = i
      · rw [e, sU_n (by omega), sU_s, sU_s, pjn_s, N64_0]
      · rw [sU_n (by omega), sU_n (by omega), sU_n (by omega), sU_n (by omega)]
        exact h2 l (by omega)
    · rintro s ⟨T', rfl, hq⟩
      rw [u2_d, if_pos (nI_le (Nat.le_refl _) (by decide))]
      exact ok_s hq
  obtain ⟨S', h1, h2⟩ := key
  exact ⟨S', h1, h2⟩

def Sc0 : pS := sx (fun _ _ => 0) 0 75 rPF
def Sm0 : pS := sx (fun _ _ => 0) 0 17 rModel
theorem Sc0_z {k i : Nat} (h1 : ¬ (k = 2 ∧ i = 4)) (h2 : ¬ (k = 45 ∧ i = 2)) : Sc0 k i = 0 := by
  unfold Sc0 sx
  split
  · show rPF (k - 0) i = 0
    unfold rPF
    rw [if_neg (by omega), if_neg (by omega)]
  · rfl
theorem Sm0_z {k i : Nat} (h1 : ¬ (k = 0 ∧ i = 25)) (h2 : ¬ (k = 1 ∧ i = 64)) : Sm0 k i = 0 := by
  unfold Sm0 sx
  split
  · show rModel (k - 0) i = 0
    unfold rModel
    rw [if_neg (by omega), if_neg (by omega)]
  · rfl
theorem Rel_0 : (Rel (Sc0 0)) Sc0 Sm0 := by
  have hLR : ∀ K k, k < 3 → LR K k 1 Sc0 Sm0 := fun K k hk => ⟨0, fun _ => 0, fun _ => 0, by decide, by rw [Sm0_z (by omega) (by omega)]; rfl, fun i hi => absurd hi (Nat.not_lt_zero _)⟩
  refine ⟨0, 0, 0, 0, 0, 0, 0, 0, 0, ⟨?_, ?_, fun t ht => absurd ht (Nat.not_lt_zero _), fun t ht => absurd ht (Nat.not_lt_zero _), hLR _ 0 (by decide), hLR _ 1 (by decide), hLR _ 2 (by decide)⟩, ?_, ?_, ?_, ?_, ?_, ?_⟩
  · intro j k i hl
    have e := lcv_loc hl
    have e2 := loc_in hl
    by_cases q : k = 2 ∧ i = 4
    · obtain ⟨rfl, rfl⟩ := q
      have : j = 64 := by rw [← e]; rfl
      subst this
      rfl
    · have h45 : k ≠ 45 := by unfold inL at e2; omega
      have hj : j ≠ 64 := fun r => by
        subst r
        have : loc 1 64 = some (2, 4) := by decide
        rw [this] at hl
        cases hl
        exact q ⟨rfl, rfl⟩
      rw [Sc0_z q (fun r => h45 r.1), Sm0_z (by omega) (by omega)]
  · unfold Wn
    rw [Sm0_z (k := 1) (i := 67) (by decide) (by decide), Sm0_z (k := 1) (i := 68) (by decide) (by decide), Sm0_z (k := 1) (i := 2) (by decide) (by decide), Sm0_z (k := 1) (i := 69) (by decide) (by decide), Sm0_z (k := 1) (i := 0) (by decide) (by decide), Sm0_z (k := 1) (i := 1) (by decide) (by decide), Sm0_z (k := 1) (i := 66) (by decide) (by decide), Sm0_z (k := 1) (i := 62) (by decide) (by decide), Sm0_z (k := 1) (i := 63) (by decide) (by decide)]
    exact ⟨by decide, by decide, by decide, by decide, by decide, Or.inr ⟨rfl, rfl, rfl⟩, rfl, rfl, rfl, rfl, rfl, rfl, isN_0 (by decide), isN_0 (by decide), isN_0 (by decide)⟩
  · exact ⟨by decide, by decide, Sm0_z (by decide) (by decide), Sc0_z (by decide) (by decide), Sc0_z (by decide) (by decide), fun j hj => absurd hj (Nat.not_lt_zero _)⟩
  · exact ⟨by decide, Sm0_z (by decide) (by decide), Sc0_z (by decide) (by decide), fun j hj => absurd hj (Nat.not_lt_zero _)⟩
  · exact ⟨(Sc0_z (by decide) (by decide)).trans (Sm0_z (by decide) (by decide)).symm, rfl⟩
  · exact Or.inl ⟨Sm0_z (by decide) (by decide), Sc0_z (by decide) (by decide)⟩
  · exact fun i _ => Sm0_z (by omega) (by omega)
  · exact ⟨Or.inl (Sc0_z (by decide) (by decide)), Or.inl (Sc0_z (by decide) (by decide)), fun _ _ _ => rfl⟩

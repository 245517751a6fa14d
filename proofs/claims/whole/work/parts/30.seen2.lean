variable {gG : Nat → Int32}
/-! more that is seen: the record, the place, one of a thrower -/
theorem L_rule {Sc Sm : pS} {ns nt nl ng rd tn t : Nat} (hE : RE 1 1 Sc Sm) (hW : Wn 1 Sm ns nt nl ng rd tn) (c6 : Sc 1 6 = nI nl) : R2 (F10_rule Sc 1 (nI t)) (F12_ruled Sm (nI t)) (fun a b => a = b) := by
  have hnl := hW.2.2.1
  have e2 := hW.2.2.2.2.2.2.2.2.1
  have e66 := hE 66 1 1 rfl
  unfold F10_rule F12_ruled
  simp only [bL_d]
  refine r2_B (r2_F1 nl (fun _ => True) trivial ?_ ?_) (fun a b h => r2_s h.1)
  · intro i v hi _
    simp only [u2_d]
    rw [c6, e2, if_neg (nI_ge hi (by omega)), if_neg (nI_ge hi (by omega))]
    unfold F10_isToday
    simp only [bL_d, Nat.reduceAdd]
    rw [col8 c6 hnl hi, bB_s, col2 c6 hnl hi, bB_s, col0 c6 hnl hi, bB_s, col7 c6 hnl hi]
    rw [RE_bk hE (by omega) (by decide), RE_bk hE (by omega) (by decide), RE_bk hE (by omega) (by decide), RE_bk hE (by omega) (by decide), e66]
    simp only [lit_I 3296, lit_I 10, lit_I 2, lit_I 8, lit_I 7, lit_I 1, pk_mul, nI_add]
    simp (disch := omega) only [bG_N, nI_clamp, bB_s, gre, Nat.add_zero]
    by_cases q1 : Sm 1 (3296 + 10 * i) = Sm 1 66
    · by_cases q2 : Sm 1 (3296 + 10 * i + 2) = nI t
      · by_cases q3 : Sm 1 (3296 + 10 * i + 8) = 0
        · refine ⟨jmax v (Sm 1 (3296 + 10 * i + 7)), ?_, ?_, trivial⟩ <;> simp only [q1, q2, q3, if_true, bB_s, if_neg (show ¬ nI 1 = 0 by decide)]
        · by_cases q4 : Sm 1 (3296 + 10 * i + 8) = nI 2
          · have q3' : ¬ nI 2 = 0 := by decide
            refine ⟨jmax v (Sm 1 (3296 + 10 * i + 7)), ?_, ?_, trivial⟩ <;> simp only [q1, q2, q4, q3', if_true, if_false, bB_s, if_neg (show ¬ nI 1 = 0 by decide)]
          · refine ⟨v, ?_, ?_, trivial⟩ <;> simp only [q1, q2, q3, q4, if_true, if_false, bB_s, if_neg (show ¬ nI 1 = 0 by decide)]
      · refine ⟨v, ?_, ?_, trivial⟩ <;> simp only [q1, q2, if_true, if_false, bB_s]
    · refine ⟨v, ?_, ?_, trivial⟩
      · by_cases q2 : Sm 1 (3296 + 10 * i + 2) = nI t
        · simp only [q1, q2, if_true, if_false, bB_s]
        · simp only [q1, q2, if_true, if_false, bB_s]
      · simp only [q1, if_false]
  · intro v
    simp only [u2_d]
    rw [c6, e2, if_pos (nI_le (Nat.le_refl _) (by omega)), if_pos (nI_le (Nat.le_refl _) (by omega))]
    exact ⟨rfl, rfl⟩
theorem L_rank {Sc Sm : pS} {ns nt nl ng rd tn t : Nat} (hE : RE 1 1 Sc Sm) (hW : Wn 1 Sm ns nt nl ng rd tn) (c5 : Sc 1 5 = nI nt) (ht : t < nt) : R2 (F10_rank Sc 1 (29 + 2 * t)) (F12_rank Sm (nI t)) (fun a b => a = b) := by
  have hnt := hW.2.1
  have e2 := hW.2.2.2.2.2.2.2.1
  unfold F10_rank F12_rank
  simp only [bL_d, Nat.reduceAdd]
  refine r2_B (r2_F1 nt (fun _ => True) trivial ?_ ?_) (fun a b h => r2_s h.1)
  · intro i v hi _
    simp only [u2_d]
    rw [c5, e2, if_neg (nI_ge hi (by omega)), if_neg (nI_ge hi (by omega)), if_neg (nge 8 (b := 8) rfl (by omega) (by decide)), bG_t (vp_in_nI (by omega) (by omega)), nI_clamp (by omega), own2 _ (by omega), own2 _ (by omega), bB_s, bB_s, RE_t2 hE (by omega), RE_t2 hE (by omega), nI_1, Int32.add_zero]
    by_cases q : Sm 1 (6 + 7 * i) ≤ Sm 1 (6 + 7 * t)
    · simp only [if_pos q]; exact ⟨_, rfl, rfl, trivial⟩
    · simp only [if_neg q]; exact ⟨_, rfl, rfl, trivial⟩
  · intro v
    simp only [u2_d]
    rw [c5, e2, if_pos (nI_le (Nat.le_refl _) (by omega)), if_pos (nI_le (Nat.le_refl _) (by omega))]
    exact ⟨rfl, rfl⟩
theorem isN_le {x : Int32} {n : Nat} (hn : n + 1 < 2 ^ 31) (h : isN x (n + 1)) : 0 ≤ x ∧ x ≤ nI n := by
  obtain ⟨j, hj, rfl⟩ := h
  exact ⟨nI_pos' (by omega), nI_le (by omega) (by omega)⟩
theorem sm_1 {a : Int32} (h : a ≤ 475200) (h0 : -1 ≤ a) : (a + 1).toInt = a.toInt + 1 := by
  rw [Int32.le_iff_toInt_le] at h h0
  have e1 : (475200 : Int32).toInt = 475200 := by decide
  have e2 : (-1 : Int32).toInt = -1 := by decide
  have e3 : (1 : Int32).toInt = 1 := by decide
  rw [Int32.toInt_add, e3]
  apply Int.bmod_eq_of_le <;> omega
theorem sm_2 {a u : Int32} (h : a ≤ 475200) (h0 : -1 ≤ a) (h5 : 0 ≤ u) (h6 : u ≤ 475200) : (a + 1 - u).toInt = a.toInt + 1 - u.toInt := by
  rw [Int32.toInt_sub, sm_1 h h0]
  rw [Int32.le_iff_toInt_le] at h h0 h5 h6
  have e1 : (475200 : Int32).toInt = 475200 := by decide
  have e2 : (-1 : Int32).toInt = -1 := by decide
  have e3 : (0 : Int32).toInt = 0 := by decide
  apply Int.bmod_eq_of_le <;> omega
theorem need_s {m b u : Int32} (h1 : -1 ≤ m) (h2 : m ≤ 475200) (h3 : 0 ≤ b) (h4 : b ≤ 475200) (h5 : 0 ≤ u) (h6 : u ≤ 475200) : jmax (jmax 0 (m + 1 - u)) (b + 1 - u) = jmax 0 (jmax m b + 1 - u) := by
  have k1 : m + 1 - u < b + 1 - u ↔ m < b := by
    rw [Int32.lt_iff_toInt_lt, Int32.lt_iff_toInt_lt, sm_2 h2 h1 h5 h6, sm_2 h4 (Int32.le_trans (by decide) h3) h5 h6]
    omega
  unfold jmax
  by_cases c2 : m < b
  · have k2 := k1.mpr c2
    simp only [if_pos c2]
    by_cases c1 : 0 < m + 1 - u
    · simp only [if_pos c1, if_pos k2, if_pos (Int32.lt_trans c1 k2)]
    · simp only [if_neg c1]
  · have k2 := fun q => c2 (k1.mp q)
    simp only [if_neg c2]
    by_cases c1 : 0 < m + 1 - u
    · simp only [if_pos c1, if_neg k2]
    · simp only [if_neg c1]
      have : ¬ 0 < b + 1 - u := fun q => c1 (Int32.lt_of_lt_of_le q (Int32.not_lt.mp k2))
      rw [if_neg this]
theorem need_0 {u : Int32} (h5 : 0 ≤ u) (h6 : u ≤ 475200) : (0 : Int32) = jmax 0 (-1 + 1 - u) := by
  unfold jmax
  grind
theorem L_needs {Sc Sm : pS} {ns nt nl ng rd tn t : Nat} (hE : RE 1 1 Sc Sm) (hW : Wn 1 Sm ns nt nl ng rd tn) (hT : ∀ t, t < nt → thrOK 1 1 ns t Sc Sm) (c5 : Sc 1 5 = nI nt) (ht : t < nt) : R2 (F10_needs Sc 1 (nI t)) (F12_needs Sm (nI t)) (fun a b => a = b) := by
  have hnt := hW.2.1
  have e2 := hW.2.2.2.2.2.2.2.1
  have hb : ∀ k, k < nt → 0 ≤ Sm 1 (6 + 7 * k) ∧ Sm 1 (6 + 7 * k) ≤ 475200 := fun k hk => isN_le (n := 475200) (by decide) (hT k hk).2.2.1
  have hu := hb t ht
  unfold F10_needs F12_needs
  simp only [bL_d, Nat.reduceAdd]
  rw [one_t c5 hnt ht, bB_s, bO_1]
  refine r2_B (P := fun a b => a = jmax 0 (b + 1 - Sm 1 (6 + 7 * t))) (r2_P nt (fun i s s' => ∃ m : Int32, s = (jmax 0 (m + 1 - Sm 1 (6 + 7 * t)), nI i) ∧ s' = (m, nI i) ∧ -1 ≤ m ∧ m ≤ 475200) ?_ ?_ ?_) ?_
  · exact ⟨-1, by rw [← need_0 hu.1 hu.2]; rfl, rfl, by decide, by decide⟩
  · rintro i s s' hi ⟨m, rfl, rfl, h1, h2⟩
    have hi2 := hb i hi
    simp only [u2_d]
    rw [c5, e2, if_neg (nI_ge hi (by omega)), if_neg (nI_ge hi (by omega)), if_neg (nge 8 (b := 8) rfl (by omega) (by decide)), bG_t (vp_in_nI (by omega) (by omega)), nI_clamp (by omega), own2 _ (by omega), bB_s, RE_t2 hE (by omega), RE_t2 hE (by omega), nI_1, gre]
    by_cases q : nI i = nI t
    · simp only [if_pos q]; exact r2_s ⟨m, rfl, rfl, h1, h2⟩
    · simp only [if_neg q]
      refine r2_s ⟨jmax m (Sm 1 (6 + 7 * i)), ?_, rfl, ?_, ?_⟩
      · rw [need_s h1 h2 hi2.1 hi2.2 hu.1 hu.2]
      · unfold jmax; grind
      · unfold jmax; grind
  · rintro s s' ⟨m, rfl, rfl, h1, h2⟩
    simp only [u2_d]
    rw [c5, e2, if_pos (nI_le (Nat.le_refl _) (by omega)), if_pos (nI_le (Nat.le_refl _) (by omega))]
    exact r2_s rfl
  · rintro a b rfl
    simp only [u1_d]
    rw [own2 _ (by omega), bB_s, gre]
    exact r2_s rfl
theorem M_of {Sc Sm : pS} (hR : (Rel gG) Sc Sm) (a1 a2 : Int32) : R2 (F11_of Sc a1 a2) (F12_of Sm a1 a2) (fun a b => a = b) := by
  obtain ⟨ns, nt, nl, ng, rd, tn, hV, hW, hT, hB, c4, c5, c6, c7, hE⟩ := Rel_V hR
  have hnt := hW.2.1
  unfold F11_of F12_of
  by_cases h1 : isN a1 nt
  · rw [thr_t hW.2.2.2.2.2.2.2.1 hnt h1, if_neg n10]
    obtain ⟨t, ht, rfl⟩ := h1
    have ht8 : t < 8 := by omega
    rw [one_t c5 hnt ht, bB_s, bO_1, own0 _ ht8, own1 _ ht8, own2 _ ht8, own3 _ ht8, own4 _ ht8, RE_t0 hE ht8, RE_t1 hE ht8, RE_t2 hE ht8, RE_t3 hE ht8, RE_t4 hE ht8, RE_t5 hE ht8]
    refine r2_if (r2_s rfl) ?_
    refine r2_if (r2_s rfl) ?_
    refine r2_if (r2_s rfl) ?_
    refine r2_if (r2_s rfl) ?_
    refine r2_if (r2_B (L_rank hE hW c5 ht) (fun a b h => r2_s h)) ?_
    refine r2_if (r2_B (L_needs hE hW hT c5 ht) (fun a b h => r2_s h)) ?_
    refine r2_if ?_ ?_
    · simp only [lit_I 82, nI_add]
      rw [bG_t (vp_in_nI (by omega) (by omega)), nI_clamp (by omega), bB_s]
      exact r2_s rfl
    refine r2_if (r2_B (L_rule hE hW c6) (fun a b h => r2_s h)) ?_
    exact r2_s rfl
  · rw [thr_f hW.2.2.2.2.2.2.2.1 hnt h1, if_pos rfl, one_f c5 hnt h1, bB_s, bO_0]; exact r2_s rfl
theorem M_place {Sc Sm : pS} (hR : (Rel gG) Sc Sm) (a1 : Int32) : R2 (F11_place Sc a1) (F12_place Sm a1) (fun a b => a = b) := by
  obtain ⟨ns, nt, nl, ng, rd, tn, hV, hW, hT, hB, c4, c5, c6, c7, hE⟩ := Rel_V hR
  have hnt := hW.2.1
  have e2 := hW.2.2.2.2.2.2.2.1
  unfold F11_place F12_place
  simp only [bL_d]
  refine r2_B (P := fun (z z' : Unit ⊕ Int32) => z = z') (r2_P nt (fun i s s' => s = nI i ∧ s' = nI i) ⟨rfl, rfl⟩ ?_ ?_) ?_
  · rintro k s s' hk ⟨rfl, rfl⟩
    simp only [u1_d]
    rw [c5, e2, if_neg (nI_ge hk (by omega)), if_neg (nI_ge hk (by omega))]
    unfold F10_ahead
    simp only [bL_d, Nat.reduceAdd]
    rw [one_t c5 hnt hk, bB_s, bO_1]
    have hbb : ∀ (x : Option Int32) (f : Int32 → Option (Int32 ⊕ (Unit ⊕ Int32))), bB (bB x (u1 fun v => some v)) f = bB x f := fun x f => by cases x <;> rfl
    rw [hbb]
    refine r2_B (P := fun (a b : Int32) => a = b) (r2_m (r2_F1 nt (fun _ => True) trivial ?_ ?_) (fun a b h => h.1)) ?_
    · intro i v hi _
      simp only [u2_d]
      rw [c5, if_neg (nI_ge hi (by omega)), if_neg (nI_ge hi (by omega)), if_neg (nge 8 (b := 8) rfl (by omega) (by decide)), bG_t (vp_in_nI (by omega) (by omega)), bG_t (vp_in_nI (by omega) (by omega)), nI_clamp (by omega), own2 _ (by omega), own2 _ (by omega), bB_s, bB_s, bB_s, bB_s, RE_t2 hE (by omega), RE_t2 hE (by omega), nI_1, Int32.add_zero]
      by_cases q1 : Sm 1 (6 + 7 * k) < Sm 1 (6 + 7 * i)
      · simp only [if_pos q1]; exact ⟨_, rfl, rfl, trivial⟩
      · simp only [if_neg q1]
        by_cases q2 : Sm 1 (6 + 7 * i) = Sm 1 (6 + 7 * k)
        · simp only [if_pos q2]
          by_cases q3 : nI k ≤ nI i
          · simp only [if_pos q3]; exact ⟨_, rfl, rfl, trivial⟩
          · simp only [if_neg q3]; exact ⟨_, rfl, rfl, trivial⟩
        · simp only [if_neg q2]; exact ⟨_, rfl, rfl, trivial⟩
    · intro v
      simp only [u2_d]
      rw [c5, if_pos (nI_le (Nat.le_refl _) (by omega)), if_pos (nI_le (Nat.le_refl _) (by omega))]
      exact ⟨rfl, rfl⟩
    · rintro a b rfl
      simp only [u1_d, nI_1]
      by_cases q : a = a1
      · rw [if_pos q]; exact r2_s rfl
      · rw [if_neg q]; exact r2_s ⟨rfl, rfl⟩
  · rintro s s' ⟨rfl, rfl⟩
    simp only [u1_d]
    rw [c5, e2, if_pos (nI_le (Nat.le_refl _) (by omega)), if_pos (nI_le (Nat.le_refl _) (by omega))]
    exact r2_s rfl
  · rintro z z' rfl
    cases z with
    | inl u => exact r2_s rfl
    | inr v => exact r2_s rfl
theorem M_record {Sc Sm : pS} (hR : (Rel gG) Sc Sm) (a1 : Int32) : R2 (F11_record Sc a1) (F12_record Sm a1) (fun a b => a = b) := by
  obtain ⟨ns, nt, nl, ng, rd, tn, hV, hW, hT, hB, c4, c5, c6, c7, hE⟩ := Rel_V hR
  have hnl := hW.2.2.1
  have hns := hW.1
  have e2 := hW.2.2.2.2.2.2.2.2.1
  unfold F11_record F12_record
  simp only [bL_d]
  by_cases h1 : isN a1 ns
  · rw [spe_t hV.2.2.1 hW.1 h1, if_neg n10]
    refine r2_B (r2_F1 nl (fun v => v = -1 ∨ isN v nl) (Or.inl rfl) ?_ ?_) (fun a b h => r2_s h.1)
    · intro i v hi hv
      simp only [u2_d]
      rw [c6, e2, if_neg (nI_ge hi (by omega)), if_neg (nI_ge hi (by omega)), col8 c6 hnl hi, bB_s, col3 c6 hnl hi, bB_s, col7 c6 hnl hi, bB_s]
      rw [RE_bk hE (by omega) (by decide), RE_bk hE (by omega) (by decide), RE_bk hE (by omega) (by decide)]
      simp only [lit_I 3296, lit_I 10, lit_I 3, lit_I 8, lit_I 7, pk_mul, nI_add, nI_1]
      simp (disch := omega) only [bG_N, nI_clamp, bB_s]
      by_cases q1 : Sm 1 (3296 + 10 * i + 8) = 0
      · by_cases q2 : Sm 1 (3296 + 10 * i + 3) = a1
        · rcases hv with rfl | ⟨j, hj, rfl⟩
          · refine ⟨nI i, ?_, ?_, Or.inr ⟨i, hi, rfl⟩⟩ <;> simp only [q1, q2, if_true]
          · have hn1 : ¬ nI j = -1 := nI_m1 (by omega)
            rw [show nI 7 = (7 : Int32) from rfl, col7 c6 hnl hj, bB_s, RE_bk hE (by omega) (by decide)]
            simp only [pk_mul, nI_add, show (7 : Int32) = nI 7 from rfl]
            simp (disch := omega) only [bG_N, nI_clamp, bB_s]
            by_cases q3 : Sm 1 (3296 + 10 * i + 7) ≤ Sm 1 (3296 + 10 * j + 7)
            · refine ⟨nI j, ?_, ?_, Or.inr ⟨j, hj, rfl⟩⟩ <;> simp only [q1, q2, q3, hn1, if_true, if_false]
            · refine ⟨nI i, ?_, ?_, Or.inr ⟨i, hi, rfl⟩⟩ <;> simp only [q1, q2, q3, hn1, if_true, if_false]
        · refine ⟨v, ?_, ?_, hv⟩ <;> simp only [q1, q2, if_true, if_false]
      · refine ⟨v, ?_, ?_, hv⟩
        · simp only [q1, if_false]
        · by_cases q2 : Sm 1 (3296 + 10 * i + 3) = a1
          · simp only [q1, q2, if_true, if_false]
          · simp only [q2, if_false]
    · intro v
      simp only [u2_d]
      rw [c6, e2, if_pos (nI_le (Nat.le_refl _) (by omega)), if_pos (nI_le (Nat.le_refl _) (by omega))]
      exact ⟨rfl, rfl⟩
  · rw [spe_f hV.2.2.1 hW.1 h1, if_pos rfl]
    refine r2_lB (P := fun (v : Int32) => v = -1) (ok_P nl (fun i s => s = ((-1 : Int32), nI i)) rfl ?_ ?_) (fun a h => by subst h; exact r2_s rfl)
    · rintro i s hi rfl
      simp only [u2_d]
      rw [c6, if_neg (nI_ge hi (by omega)), col8 c6 hnl hi, bB_s, col3 c6 hnl hi, bB_s]
      rw [RE_bk hE (by omega) (by decide), RE_bk hE (by omega) (by decide), nI_1]
      have q2 : ¬ Sm 1 (3296 + 10 * i + 3) = a1 := fun e => h1 (e ▸ (hB i hi).1)
      rw [if_neg q2]
      split <;> exact ok_s rfl
    · rintro s rfl
      simp only [u2_d]
      rw [c6, if_pos (nI_le (Nat.le_refl _) (by omega))]
      exact ok_s rfl

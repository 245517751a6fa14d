variable {gG : Nat → Int32}
/-! set, gust, end, feed -/
theorem r2_ans {α : Type} {v : α} {T U : pS} (h : (Rel gG) T U) : R2 (some (v, T)) (some (v, U)) (Ans gG) := r2_s ⟨rfl, h⟩
theorem tell_d {i : Nat} {S : pS} {v : Int32} (hi : i < 5) : F10_tell S 1 (nI i) v = if F12_isIn v (F12_leastOf (nI i)) (F12_mostOf (nI i)) = 0 then some ((0 : Int32), S) else some ((1 : Int32), sU S 2 i v) := by
  have hin : F12_isIn (nI i) 0 4 = 1 := in_t (m := 4) (n := 4) rfl (by decide) ⟨i, hi, rfl⟩
  unfold F10_tell
  simp only [bL_d, wie, hin, if_neg n10, bG_N hi (by decide), nI_clamp (n := i) (by omega), Nat.reduceAdd]
  have : i = 0 ∨ i = 1 ∨ i = 2 ∨ i = 3 ∨ i = 4 := by omega
  rcases this with rfl | rfl | rfl | rfl | rfl
  · rw [if_neg (by decide)]; rfl
  · rw [if_neg (by decide)]; rfl
  · rw [if_pos (by decide), if_neg (by decide)]; rfl
  · rw [if_pos (by decide), if_neg (by decide)]; rfl
  · rw [if_pos (by decide), if_pos (by decide)]; rfl
theorem wea_b {i : Nat} {v : Int32} (hi : i < 5) (h : ¬ F12_isIn v (F12_leastOf (nI i)) (F12_mostOf (nI i)) = 0) (h2 : i = 2 ∨ i = 3) : isN v 10 := by
  have e : F12_leastOf (nI i) = 0 ∧ F12_mostOf (nI i) = 9 := by rcases h2 with rfl | rfl <;> exact ⟨rfl, rfl⟩
  rw [e.1, e.2, isIn_d] at h
  split at h
  · rename_i q
    exact (in_N (m := 9) (n := 9) rfl (by decide)).mp q
  · exact absurd rfl h
theorem M_set {Sc Sm : pS} (hR : (Rel gG) Sc Sm) (a1 a2 a3 : Int32) : R2 (F11_set Sc a1 a2 a3) (F12_set Sm a1 a2 a3) (Ans gG) := by
  obtain ⟨ns, nt, nl, ng, rd, tn, nu, la, np, hW, hP, -⟩ := id hR
  have h2 := hW.2.1
  have h68 := h2.2.2.2.2.2.2.2.1
  have hnt := h2.2.1
  have c5 : Sc 1 5 = nI nt := (hW.1 68 1 5 rfl).trans h68
  unfold F11_set F12_set
  simp only [bL_d, wie, fgC, fgM]
  by_cases h7 : isN a1 7
  · rw [in_t (m := 6) (n := 6) rfl (by decide) h7, if_neg n10]
    obtain ⟨i, hi, rfl⟩ := h7
    by_cases h5 : i < 5
    · rw [in_t (m := 4) (n := 4) rfl (by decide) ⟨i, h5, rfl⟩, if_neg n10, tell_d h5, if_pos (xle 4 (b := 4) rfl (show i ≤ 4 by omega) (by decide)), if_neg (ngt 4 (b := 4) rfl (show i ≤ 4 by omega) (by decide))]
      by_cases hv : F12_isIn a3 (F12_leastOf (nI i)) (F12_mostOf (nI i)) = 0
      · rw [if_pos hv, if_pos hv, bB2_s, if_pos rfl]
        exact r2_s ⟨rfl, hR⟩
      · rw [if_neg hv, if_neg hv, bB2_s, if_neg n10]
        simp only [lit_I 60, nI_add]
        rw [bG_t (vp_in_nI (by omega) (by omega)), nI_clamp (by omega)]
        refine r2_s ⟨rfl, ?_⟩
        suffices hWn : Wn 1 (sU Sm 1 (60 + i) a3) ns nt nl ng rd tn from Rel_fg hR (RW_1 hW (loc_wea h5) (by omega) hWn (Nat.le_refl _) (Nat.le_refl _)) (fO_u (by omega) (fO_r _)) (fP_u (by omega) (fP_r _)) (by rw [sU_n (by omega)])
        unfold Wn at h2 ⊢
        rw [sU_n (by omega), sU_n (by omega), sU_n (by omega), sU_n (by omega), sU_n (by omega), sU_n (by omega), sU_n (by omega)]
        refine ⟨h2.1, h2.2.1, h2.2.2.1, h2.2.2.2.1, h2.2.2.2.2.1, h2.2.2.2.2.2.1, h2.2.2.2.2.2.2.1, h2.2.2.2.2.2.2.2.1, h2.2.2.2.2.2.2.2.2.1, h2.2.2.2.2.2.2.2.2.2.1, h2.2.2.2.2.2.2.2.2.2.2.1, h2.2.2.2.2.2.2.2.2.2.2.2.1, h2.2.2.2.2.2.2.2.2.2.2.2.2.1, ?_, ?_⟩
        · rw [sU_get]
          by_cases e : (1 = 1 ∧ 62 = 60 + i)
          · rw [if_pos e]; exact wea_b h5 hv (by omega)
          · rw [if_neg e]; exact h2.2.2.2.2.2.2.2.2.2.2.2.2.2.1
        · rw [sU_get]
          by_cases e : (1 = 1 ∧ 63 = 60 + i)
          · rw [if_pos e]; exact wea_b h5 hv (by omega)
          · rw [if_neg e]; exact h2.2.2.2.2.2.2.2.2.2.2.2.2.2.2
    · have hni : ¬ isN (nI i) 5 := fun ⟨j, hj, e⟩ => h5 (by have := nI_inj e (by omega) (by omega); omega)
      rw [in_f (m := 4) (n := 4) rfl (by decide) hni, if_pos rfl, if_neg (xnl 4 (b := 4) rfl (show 4 < i by omega) (by omega)), if_pos (ylt 4 (b := 4) rfl (show 4 < i by omega) (by omega))]
      unfold F11_tellThrower
      simp only [bL_d, wie]
      by_cases ht : isN a2 nt
      · rw [thr_t h68 hnt ht, if_neg n10]
        obtain ⟨t, ht, rfl⟩ := ht
        rw [one_t c5 hnt ht, bB_s, bO_1]
        have hi56 : i = 5 ∨ i = 6 := by omega
        rcases hi56 with rfl | rfl
        · rw [if_pos (show nI 5 = 5 from rfl), if_pos (show nI 5 = 5 from rfl), if_neg (show ¬ nI 5 = 6 by decide)]
          rw [show F12_leastOf (nI 5) = 0 from rfl, show F12_mostOf (nI 5) = 99 from rfl]
          by_cases hv : isN a3 100
          · rw [in_t (m := 99) (n := 99) rfl (by decide) hv, if_neg n10, if_neg n10, bB2_s, if_neg n10, giv0 _ _ (by omega), bB_s]
            refine r2_s ⟨rfl, ?_⟩
            exact Rel_fg hR (RW_t hW ht (f := 0) (by decide) (fun _ => hv) nofun nofun) (fO_u (by omega) (fO_r _)) (fP_u (by omega) (fP_r _)) (by rw [sU_n (by omega)])
          · rw [in_f (m := 99) (n := 99) rfl (by decide) hv, if_pos rfl, if_pos rfl, bB2_s, if_pos rfl]
            exact r2_s ⟨rfl, hR⟩
        · rw [if_neg (show ¬ nI 6 = 5 by decide), if_neg (show ¬ nI 6 = 5 by decide), if_pos (show nI 6 = 6 from rfl)]
          rw [show F12_leastOf (nI 6) = 0 from rfl, show F12_mostOf (nI 6) = 1000 from rfl]
          by_cases hv : isN a3 1001
          · rw [in_t (m := 1000) (n := 1000) rfl (by decide) hv, if_neg n10, if_neg n10, bB2_s, if_neg n10, giv1 _ _ (by omega), bB_s]
            refine r2_s ⟨rfl, ?_⟩
            exact Rel_fg hR (RW_t hW ht (f := 1) (by decide) nofun (fun _ => hv) nofun) (fO_u (by omega) (fO_r _)) (fP_u (by omega) (fP_r _)) (by rw [sU_n (by omega)])
          · rw [in_f (m := 1000) (n := 1000) rfl (by decide) hv, if_pos rfl, if_pos rfl, bB2_s, if_pos rfl]
            exact r2_s ⟨rfl, hR⟩
      · rw [thr_f h68 hnt ht, if_pos rfl, one_f c5 hnt ht, bB_s, bO_0, bB2_s, if_pos rfl]
        exact r2_s ⟨rfl, hR⟩
  · have hni : ¬ isN a1 5 := fun h => h7 (isN_m h (by decide))
    have h55 : ¬ a1 = 5 := fun e => h7 ⟨5, by decide, e⟩
    have h66 : ¬ a1 = 6 := fun e => h7 ⟨6, by decide, e⟩
    rw [in_f (m := 6) (n := 6) rfl (by decide) h7, if_pos rfl, in_f (m := 4) (n := 4) rfl (by decide) hni, if_pos rfl]
    unfold F11_tellThrower
    simp only [bL_d, wie, if_neg h55, if_neg h66]
    by_cases ht : isN a2 nt
    · obtain ⟨t, ht, rfl⟩ := ht
      rw [one_t c5 hnt ht, bB_s, bO_1, bB2_s, if_pos rfl]
      exact r2_s ⟨rfl, hR⟩
    · rw [one_f c5 hnt ht, bB_s, bO_0, bB2_s, if_pos rfl]
      exact r2_s ⟨rfl, hR⟩
theorem M_gust {Sc Sm : pS} (hR : (Rel gG) Sc Sm) (a1 : Int32) : R2 (F11_gust Sc a1) (F12_gust Sm a1) (Ans gG) := by
  obtain ⟨ns, nt, nl, ng, rd, tn, nu, la, np, hW, hP, -⟩ := id hR
  have h2 := hW.2.1
  have h69 := h2.2.2.2.2.2.2.2.2.2.1
  have hng := h2.2.2.2.1
  have c7 : Sc 1 7 = nI ng := (hW.1 69 1 7 rfl).trans h69
  unfold F11_gust F12_gust
  simp only [bL_d]
  have hRel : ∀ (ng' : Nat) (T U : pS), RW 1 1 ns nt nl ng' rd tn T U → (∀ k, k ≠ 1 → k ≠ 7 → T k = Sc k) → (∀ k, k ≠ 1 → U k = Sm k) → (∀ j, j < 60 ∨ (82 ≤ j ∧ j < 90) → U 1 j = Sm 1 j) → (Rel gG) T U := by
    intro ng' T U hRW hT hU hU1
    refine Rel_of hR hRW (Past_m hP h2.2.1 (by rw [hU 0 (by decide)]) (hU 3 (by decide)) (fun j hj => hU1 j (Or.inl hj)) (fun j a b => hU1 j (Or.inr ⟨a, b⟩)) (hT 65 (by decide) (by decide)) (fun k a b => hT k (by omega) (by omega))) (fun k a b c d => hT k (by omega) (by omega)) ⟨fun k a b c d => hU k b, fun j a b => by rw [hU 0 (by decide)]⟩
  by_cases h : a1 = -100
  · rw [if_pos h, if_pos h]
    exact r2_s ⟨rfl, hRel 0 _ _ (RW_1 (j := 69) hW rfl (by omega) (Wn_ng (x := 0) h2 (by decide)) (Nat.le_refl _) (Nat.le_refl _)) (fun k a b => sU_ne a) (fun k a => sU_ne a) (fun j hj => sU_n (by omega))⟩
  · rw [if_neg h, if_neg h]
    have hw : F12_isWind a1 = 0 ↔ F12_isIn a1 (-29) 29 = 0 := by
      unfold F12_isWind
      rw [isIn_d]
      split <;> decide
    rw [wie]
    by_cases hv : F12_isIn a1 (-29) 29 = 0
    · rw [if_pos hv, if_pos (hw.mpr hv)]; exact r2_A hR
    · rw [if_neg hv, if_neg (fun q => hv (hw.mp q)), c7, h69]
      by_cases h60 : ng = 60
      · subst h60
        rw [if_neg (by decide), if_pos (show nI 60 = 60 from rfl)]; exact r2_A hR
      · rw [if_pos (xlt 60 (b := 60) rfl (show ng < 60 by omega) (by decide)), if_neg (xne 60 (b := 60) rfl h60 (by omega) (by decide)), bG_t (vp_in_nI (by omega) (by omega)), nI_clamp (by omega)]
        simp only [lit_I 90, nI_add]
        rw [bG_t (vp_in_nI (by omega) (by omega)), nI_clamp (by omega)]
        have e1 : (sU Sc 7 ng a1) 1 7 = nI ng := by rw [sU_n (by omega)]; exact c7
        have e2 : (sU Sm 1 (90 + ng) a1) 1 69 = nI ng := by rw [sU_n (by omega)]; exact h69
        rw [e1, e2, nI_1, sU_s, sU_s]
        have W1 : RW 1 1 ns nt nl ng rd tn (sU Sc 7 ng a1) (sU Sm 1 (90 + ng) a1) := RW_1 hW (loc_gu (by omega)) (by omega) (Wn_o h2 (by omega)) (Nat.le_refl _) (Nat.le_refl _)
        have hWn : Wn 1 (sU (sU Sm 1 (90 + ng) a1) 1 69 (nI (ng + 1))) ns nt nl (ng + 1) rd tn := Wn_ng W1.2.1 (by omega)
        exact r2_ans (hRel (ng + 1) _ _ (RW_1 (j := 69) W1 rfl (by omega) hWn (Nat.le_refl _) (Nat.le_refl _)) (fun k a b => by rw [sU_ne a, sU_ne b]) (fun k a => by rw [sU_ne a, sU_ne a]) (fun j hj => by rw [sU_n (by omega), sU_n (by omega)]))
theorem Rel_tp {Sc Sm T U : pS} {n : Nat} (hR : (Rel gG) Sc Sm) (hT : TapeR n T U) (hF : FaultR T U) (hc : ∀ k, k < 45 ∨ 58 < k → T k = Sc k) (hm : ∀ k, 0 < k → k < 4 ∨ 7 < k → U k = Sm k) (h3 : U 0 3 = Sm 0 3) (h4 : U 0 4 = Sm 0 4) : (Rel gG) T U := by
  obtain ⟨ns, nt, nl, ng, rd, tn, nu, la, np, hW, hP, -, -, hI, hM, hA⟩ := hR
  have m1 := hm 1 (by decide) (by decide)
  have m2 := hm 2 (by decide) (by decide)
  have m3 := hm 3 (by decide) (by decide)
  have m13 := hm 13 (by decide) (by decide)
  have c0 := hc 0 (by decide)
  have c131 := hc 131 (by decide)
  refine ⟨ns, nt, nl, ng, rd, tn, nu, la, n, RW_fr hW (fun k a b _ _ _ => hc k (by omega)) m1, Past_m hP hW.2.1.2.1 h3 m3 (fun j hj => by rw [m1]) (fun j a b => by rw [m1]) (hc 65 (by decide)) (fun k a b => hc k (by omega)), hT, hF, ?_, ?_, ?_⟩
  · unfold ImgR at hI ⊢
    rw [h4, c0]
    rcases hI with q | ⟨a1, a2, ns, nt, nl, ng, rd, tn, q⟩
    · exact Or.inl q
    · exact Or.inr ⟨a1, a2, ns, nt, nl, ng, rd, tn, RW_fr q (fun k a b _ _ _ => hc k (by omega)) m2⟩
  · unfold MarkR at hM ⊢
    rw [m13]; exact hM
  · unfold AllR at hA ⊢
    rw [c0, c131]; exact hA
theorem M_end {Sc Sm : pS} (hR : (Rel gG) Sc Sm) (a1 : Int32) : (Ans gG) (F11_end Sc a1) (F12_end Sm a1) := by
  obtain ⟨ns, nt, nl, ng, rd, tn, nu, la, np, hW, hP, hT, hF, hI, hM, hA⟩ := id hR
  obtain ⟨t1, t2, t3, t4⟩ := hT
  unfold F11_end F12_end
  simp only [bL_d, wie]
  rw [t2, t3]
  by_cases h : isN a1 (np + 1)
  · rw [in_t rfl (by omega) h, if_neg n10, if_neg n10]
    obtain ⟨n, hn, rfl⟩ := h
    refine ⟨rfl, ?_⟩
    show (Rel gG) (sU Sc 46 0 (nI n)) (sU Sm 0 16 (nI n))
    exact Rel_tp (n := n) hR ⟨by omega, sU_s _ _ _ _, sU_s _ _ _ _, fun i hi => t4 i (by omega)⟩ hF (fun k hk => sU_ne (by omega)) (fun k a b => sU_ne (by omega)) (sU_n (by decide)) (sU_n (by decide))
  · rw [in_f rfl (by omega) h, if_pos rfl, if_pos rfl]
    exact ⟨rfl, hR⟩
/-- one of the four bytes of an int -/
theorem bit255 (i : Nat) (hi : i < 32) : (255#32).getLsbD i = decide (i < 8) := by
  have : i = 0 ∨ i = 1 ∨ i = 2 ∨ i = 3 ∨ i = 4 ∨ i = 5 ∨ i = 6 ∨ i = 7 ∨ 8 ≤ i := by omega
  rcases this with rfl | rfl | rfl | rfl | rfl | rfl | rfl | rfl | h
  · rfl
  · rfl
  · rfl
  · rfl
  · rfl
  · rfl
  · rfl
  · rfl
  · rw [decide_eq_false (by omega)]
    rw [BitVec.getLsbD_ofNat, Nat.testBit_lt_two_pow (Nat.lt_of_lt_of_le (by decide : 255 < 2 ^ 8) (Nat.pow_le_pow_right (by decide) h))]
    simp
theorem shrB (x : BitVec 32) (s : Nat) (hs : s ≤ 24) : x.sshiftRight s &&& 255#32 = (x >>> s) &&& 255#32 := by
  apply BitVec.eq_of_getLsbD_eq
  intro i hi
  rw [BitVec.getLsbD_and, BitVec.getLsbD_and, bit255 i hi, BitVec.getLsbD_sshiftRight, BitVec.getLsbD_ushiftRight]
  by_cases h : i < 8
  · rw [if_pos (by omega)]
    simp only [decide_eq_false (show ¬ 32 ≤ i by omega), Bool.not_false, Bool.true_and]
  · rw [decide_eq_false h, Bool.and_false, Bool.and_false]
theorem sxB (y : BitVec 32) : (y.signExtend 8).signExtend 32 &&& 255#32 = y &&& 255#32 := by
  apply BitVec.eq_of_getLsbD_eq
  intro i hi
  rw [BitVec.getLsbD_and, BitVec.getLsbD_and, bit255 i hi]
  by_cases h : i < 8
  · rw [BitVec.getLsbD_signExtend, BitVec.getLsbD_signExtend]
    simp [h, hi]
  · rw [decide_eq_false h, Bool.and_false, Bool.and_false]
def byM (x : Int32) (m : Nat) : Int32 := (x >>> (nI (24 - 8 * m) &&& 31)) &&& 255
def byC (x : Int32) (m : Nat) : Int32 := ((((x.toUInt32 >>> ((nI (24 - 8 * m)).toUInt32 &&& Int32.toUInt32 31)).toInt32 : Int32).toInt8.toInt32 : Int32).toInt8.toInt32)
theorem byteS (x : Int32) {m : Nat} (hm : m < 4) : (x >>> (nI (24 - 8 * m) &&& 31)) &&& 255 = ((x.toUInt32 >>> ((nI (24 - 8 * m)).toUInt32 &&& Int32.toUInt32 31)).toInt32) &&& 255 := by
  have : m = 0 ∨ m = 1 ∨ m = 2 ∨ m = 3 := by omega
  apply Int32.toBitVec_inj.mp
  rcases this with rfl | rfl | rfl | rfl
  · exact shrB x.toBitVec 24 (by decide)
  · exact shrB x.toBitVec 16 (by decide)
  · exact shrB x.toBitVec 8 (by decide)
  · exact shrB x.toBitVec 0 (by decide)
theorem byteE (x : Int32) {m : Nat} (hm : m < 4) : ∃ c, c < 256 ∧ byM x m = nI c ∧ byC x m = (nI c).toInt8.toInt32 := by
  obtain ⟨c, hc, h1⟩ := pk_andE (x >>> (nI (24 - 8 * m) &&& 31)) (m := 255) 8 rfl
  refine ⟨c, hc, h1, ?_⟩
  have h2 := byteS x hm
  unfold byC
  generalize (x.toUInt32 >>> ((nI (24 - 8 * m)).toUInt32 &&& Int32.toUInt32 31)).toInt32 = y at h2 ⊢
  rw [Int8.toInt8_toInt32]
  refine (sc_eq (by rw [Int8.toInt8_toInt32]) hc).mpr ?_
  rw [← h1, h2]
  apply Int32.toBitVec_inj.mp
  exact sxB y.toBitVec
theorem L_add {T : pS} {n : Nat} {a : Int32} (hn : n + 4 ≤ 400) (h : T 46 0 = nI n) : Ok (F6_add T 46 a) (fun T' => T' 46 0 = nI (n + 4) ∧ (∀ m, m < 4 → T' 47 (n + m) = byC a m) ∧ (∀ j, j < n → T' 47 j = T 47 j) ∧ ∀ k, k ≠ 46 → k ≠ 47 → T' k = T k) := by
  unfold F6_add
  simp only [bL_d, Nat.reduceAdd]
  refine ok_B (P := fun (T' : pS) => T' 46 0 = nI (n + 4) ∧ (∀ m, m < 4 → T' 47 (n + m) = byC a m) ∧ (∀ j, j < n → T' 47 j = T 47 j) ∧ ∀ k, k ≠ 46 → k ≠ 47 → T' k = T k) (ok_P 4 (fun i s => ∃ (x : Int32) (T' : pS), s = (x, T') ∧ (i < 4 → x = nI (24 - 8 * i)) ∧ (i = 4 → x < 0) ∧ T' 46 0 = nI (n + i) ∧ (∀ m, m < i → T' 47 (n + m) = byC a m) ∧ (∀ j, j < n → T' 47 j = T 47 j) ∧ ∀ k, k ≠ 46 → k ≠ 47 → T' k = T k) ?_ ?_ ?_) (fun T' q => ok_s q)
  · exact ⟨24, T, rfl, fun _ => rfl, nofun, h, fun m hm => absurd hm (Nat.not_lt_zero _), fun _ _ => rfl, fun _ _ _ => rfl⟩
  · rintro i s hi ⟨x, T', rfl, hx, -, h1, h2, h3, h4⟩
    have hx := hx hi
    subst hx
    simp only [u2_d]
    rw [if_neg (nI_pos (by omega)), h1, if_neg (nge 400 (b := 400) rfl (by omega) (by decide)), bG_t (vp_in_nI (by omega) (by omega)), nI_clamp (by omega), sU_n (by omega), h1, nI_1]
    refine ok_s ⟨_, _, rfl, fun hi4 => ?_, fun hi4 => ?_, sU_s _ _ _ _, fun m hm => ?_, fun j hj => ?_, fun k q1 q2 => ?_⟩
    · show nI (24 - 8 * i) + -8 = nI (24 - 8 * (i + 1))
      rw [lit_I 8, pk_subN (by omega), show 24 - 8 * i - 8 = 24 - 8 * (i + 1) by omega]
    · have : i = 3 := by omega
      subst this
      decide
    · rw [sU_ne (by decide), sU_get]
      by_cases e : m = i
      · rw [if_pos ⟨rfl, by omega⟩, e]; rfl
      · rw [if_neg (by omega)]; exact h2 m (by omega)
    · rw [sU_ne (by decide), sU_n (by omega)]; exact h3 j hj
    · rw [sU_ne q1, sU_ne q2]; exact h4 k q1 q2
  · rintro s ⟨x, T', rfl, -, hx, hq⟩
    simp only [u2_d]
    rw [if_pos (hx rfl)]
    exact ok_s hq
def sel5 (a1 a2 a3 a4 a5 : Int32) (q : Nat) : Int32 := if q = 0 then a1 else if q = 1 then a2 else if q = 2 then a3 else if q = 3 then a4 else a5
theorem M_feed {Sc Sm : pS} (hR : (Rel gG) Sc Sm) (a1 a2 a3 a4 a5 : Int32) : R2 (F11_feed Sc a1 a2 a3 a4 a5) (F12_feed Sm a1 a2 a3 a4 a5) (Ans gG) := by
  obtain ⟨ns, nt, nl, ng, rd, tn, nu, la, np, hW, hP, hT, hF, hI, hM, hA⟩ := id hR
  obtain ⟨t1, t2, t3, t4⟩ := hT
  unfold F11_feed F12_feed
  simp only [bL_d]
  rw [t2, t3, lit_I 20, nI_add]
  by_cases h : np + 20 ≤ 400
  · rw [if_pos (xle 400 (b := 400) rfl h (by decide)), if_pos (xle 400 (b := 400) rfl h (by decide))]
    refine r2_rB (P := fun (U : pS) => U 0 16 = nI (np + 20) ∧ (∀ m, m < 20 → U 7 (np + m) = byM (sel5 a1 a2 a3 a4 a5 (m / 4)) (m % 4)) ∧ (∀ j, j < np → U 7 j = Sm 7 j) ∧ (∀ k, k ≠ 0 → k ≠ 7 → U k = Sm k) ∧ ∀ j, j ≠ 16 → U 0 j = Sm 0 j) (ok_P 20 (fun i s => ∃ (U : pS), s = (nI i, U) ∧ U 0 16 = nI (np + i) ∧ (∀ m, m < i → U 7 (np + m) = byM (sel5 a1 a2 a3 a4 a5 (m / 4)) (m % 4)) ∧ (∀ j, j < np → U 7 j = Sm 7 j) ∧ (∀ k, k ≠ 0 → k ≠ 7 → U k = Sm k) ∧ ∀ j, j ≠ 16 → U 0 j = Sm 0 j) ?_ ?_ ?_) ?_
    · exact ⟨Sm, rfl, t2, fun m hm => absurd hm (Nat.not_lt_zero _), fun _ _ => rfl, fun _ _ _ => rfl, fun _ _ => rfl⟩
    · rintro i s hi ⟨U, rfl, h1, h2, h3, h4, h5⟩
      have key : ∀ x : Int32, x = sel5 a1 a2 a3 a4 a5 (i / 4) → Ok (bG (vp_in (U 0 16) 400) (some (.inl (nI i + 1, sU (sU U 7 (U 0 16).toNatClampNeg ((x >>> ((24 - (8 * (nI i - nI i / 4 * 4))) &&& 31)) &&& 255)) 0 16 ((sU U 7 (U 0 16).toNatClampNeg ((x >>> ((24 - (8 * (nI i - nI i / 4 * 4))) &&& 31)) &&& 255)) 0 16 + 1)))) : Option ((Int32 × pS) ⊕ pS)) (fun z => Sum.elim (fun s => ∃ (U : pS), s = (nI (i + 1), U) ∧ U 0 16 = nI (np + (i + 1)) ∧ (∀ m, m < i + 1 → U 7 (np + m) = byM (sel5 a1 a2 a3 a4 a5 (m / 4)) (m % 4)) ∧ (∀ j, j < np → U 7 j = Sm 7 j) ∧ (∀ k, k ≠ 0 → k ≠ 7 → U k = Sm k) ∧ ∀ j, j ≠ 16 → U 0 j = Sm 0 j) (fun (U : pS) => U 0 16 = nI (np + 20) ∧ (∀ m, m < 20 → U 7 (np + m) = byM (sel5 a1 a2 a3 a4 a5 (m / 4)) (m % 4)) ∧ (∀ j, j < np → U 7 j = Sm 7 j) ∧ (∀ k, k ≠ 0 → k ≠ 7 → U k = Sm k) ∧ ∀ j, j ≠ 16 → U 0 j = Sm 0 j) z) := by
        intro x hx
        have e : (24 : Int32) - (8 * (nI i - nI i / 4 * 4)) = nI (24 - 8 * (i % 4)) := by
          rw [show (4 : Int32) = nI 4 from rfl, pk_rem (by omega) (by decide) (by decide), lit_I 8, pk_mul, lit_I 24, pk_sub (by omega)]
        rw [e, h1, bG_t (vp_in_nI (by omega) (by omega)), nI_clamp (by omega), sU_n (by omega), h1, nI_1, nI_1]
        refine ok_s ⟨_, rfl, sU_s _ _ _ _, fun m hm => ?_, fun j hj => ?_, fun k q1 q2 => ?_, fun j hj => ?_⟩
        · rw [sU_ne (by decide), sU_get]
          by_cases e : m = i
          · rw [if_pos ⟨rfl, by omega⟩, e, hx]; rfl
          · rw [if_neg (by omega)]; exact h2 m (by omega)
        · rw [sU_ne (by decide), sU_n (by omega)]; exact h3 j hj
        · rw [sU_ne q1, sU_ne q2]; exact h4 k q1 q2
        · rw [sU_n (by omega), sU_ne (by decide)]; exact h5 j hj
      simp only [u2_d]
      rw [if_neg (nI_ge hi (by decide))]
      by_cases q1 : 4 ≤ i
      · rw [if_pos (yle 4 (b := 4) rfl q1 (by omega))]
        by_cases q2 : 8 ≤ i
        · rw [if_pos (yle 8 (b := 8) rfl q2 (by omega))]
          by_cases q3 : 12 ≤ i
          · rw [if_pos (yle 12 (b := 12) rfl q3 (by omega))]
            by_cases q4 : 16 ≤ i
            · rw [if_pos (yle 16 (b := 16) rfl q4 (by omega))]
              exact key a5 (by unfold sel5; rw [show i / 4 = 4 by omega]; rfl)
            · rw [if_neg (nge 16 (b := 16) rfl (by omega) (by decide))]
              exact key a4 (by unfold sel5; rw [show i / 4 = 3 by omega]; rfl)
          · rw [if_neg (nge 12 (b := 12) rfl (by omega) (by decide))]
            exact key a3 (by unfold sel5; rw [show i / 4 = 2 by omega]; rfl)
        · rw [if_neg (nge 8 (b := 8) rfl (by omega) (by decide))]
          exact key a2 (by unfold sel5; rw [show i / 4 = 1 by omega]; rfl)
      · rw [if_neg (nge 4 (b := 4) rfl (by omega) (by decide))]
        exact key a1 (by unfold sel5; rw [show i / 4 = 0 by omega]; rfl)
    · rintro s ⟨U, rfl, hq⟩
      simp only [u2_d]
      rw [if_pos (nI_le (Nat.le_refl _) (by decide))]
      exact ok_s hq
    · rintro U ⟨u1, u2, u3, u4, u5⟩
      simp only [u1_d]
      refine r2_lB (L_add (n := np) (by omega) t3) ?_
      rintro T1 ⟨p1, p2, p3, p4⟩
      refine r2_lB (L_add (n := np + 4) (by omega) p1) ?_
      rintro T2 ⟨q1, q2, q3, q4⟩
      refine r2_lB (L_add (n := np + 4 + 4) (by omega) q1) ?_
      rintro T3 ⟨r1, r2, r3, r4⟩
      refine r2_lB (L_add (n := np + 4 + 4 + 4) (by omega) r1) ?_
      rintro T4 ⟨s1, s2, s3, s4⟩
      refine r2_lB (L_add (n := np + 4 + 4 + 4 + 4) (by omega) s1) ?_
      rintro T5 ⟨v1, v2, v3, v4⟩
      rw [u1, v1, show np + 4 + 4 + 4 + 4 + 4 = np + 20 by omega]
      have hk : ∀ k, k ≠ 46 → k ≠ 47 → T5 k = Sc k := fun k a b => (v4 k a b).trans ((s4 k a b).trans ((r4 k a b).trans ((q4 k a b).trans (p4 k a b))))
      refine r2_ans (Rel_tp (n := np + 20) hR ⟨by omega, u1, by rw [v1], fun i hi => ?_⟩ ⟨by rw [hk 45 (by decide) (by decide), u5 23 (by decide)]; exact hF.1, by rw [hk 45 (by decide) (by decide), u5 25 (by decide)]; exact hF.2⟩ (fun k a => hk k (by omega) (by omega)) (fun k a b => u4 k (by omega) (by omega)) (u5 3 (by decide)) (u5 4 (by decide)))
      by_cases hi2 : i < np
      · rw [v3 i (by omega), s3 i (by omega), r3 i (by omega), q3 i (by omega), p3 i hi2, u3 i hi2]
        exact t4 i hi2
      · obtain ⟨m, rfl⟩ : ∃ m, i = np + m := ⟨i - np, by omega⟩
        rw [u2 m (by omega)]
        have hc : T5 47 (np + m) = byC (sel5 a1 a2 a3 a4 a5 (m / 4)) (m % 4) := by
          by_cases m1 : m < 4
          · rw [v3 _ (by omega), s3 _ (by omega), r3 _ (by omega), q3 _ (by omega), p2 m m1, show m / 4 = 0 by omega, show m % 4 = m by omega]; rfl
          · by_cases m2 : m < 8
            · rw [v3 _ (by omega), s3 _ (by omega), r3 _ (by omega), show np + m = np + 4 + (m - 4) by omega, q2 _ (by omega), show m / 4 = 1 by omega, show m % 4 = m - 4 by omega]; rfl
            · by_cases m3 : m < 12
              · rw [v3 _ (by omega), s3 _ (by omega), show np + m = np + 4 + 4 + (m - 8) by omega, r2 _ (by omega), show m / 4 = 2 by omega, show m % 4 = m - 8 by omega]; rfl
              · by_cases m4 : m < 16
                · rw [v3 _ (by omega), show np + m = np + 4 + 4 + 4 + (m - 12) by omega, s2 _ (by omega), show m / 4 = 3 by omega, show m % 4 = m - 12 by omega]; rfl
                · rw [show np + m = np + 4 + 4 + 4 + 4 + (m - 16) by omega, v2 _ (by omega), show m / 4 = 4 by omega, show m % 4 = m - 16 by omega]; rfl
        rw [hc]
        exact byteE _ (by omega)
  · rw [if_neg (xnl 400 (b := 400) rfl (by omega) (by omega)), if_neg (xnl 400 (b := 400) rfl (by omega) (by omega))]
    exact r2_A hR

/-! a throw: its pieces -/
theorem sU_id (S : pS) (k i : Nat) : sU S k i (S k i) = S := by
  funext a b
  rw [sU_get]
  split
  · rename_i h; rw [h.1, h.2]
  · rfl
theorem r2_LL {α β σ τ : Type} {v : σ} {v' : τ} {f : σ → Option α} {g : τ → Option β} {Q : α → β → Prop} (h : ∀ j j', j = v → j' = v' → R2 (f j) (g j') Q) : R2 (bL v f) (bL v' g) Q := h v v' rfl rfl
theorem VR_v {ns t : Nat} {x : Int32} {T U : pS} (ht : t < 8) (h : VR ns (sU T (29 + 2 * t) 5 x) U) : VR ns T U := by
  obtain ⟨h0, h1, h2, h3, h4, h5⟩ := h
  have e : ∀ k, k < 29 → sU T (29 + 2 * t) 5 x k = T k := fun k hk => sU_ne (by omega)
  refine ⟨h0, fun j k i hl hj => ?_, h2, LR_fr h3 (fun i a b => (e _ (by omega)).symm) rfl, LR_fr h4 (fun i a b => (e _ (by omega)).symm) rfl, LR_fr h5 (fun i a b => (e _ (by omega)).symm) rfl⟩
  have := h1 j k i hl hj
  rw [sU_n] at this
  · exact this
  · rintro ⟨rfl, rfl⟩
    have := (loc_hi hl hj).2.1 (by omega)
    omega
theorem L_draw {n : Nat} {T U : pS} (hn : 0 < n) (hb : n < 2 ^ 31) (h : T 1 0 = U 1 3) : ∃ d z, F10_draw T 1 (nI n) = some (d, sU T 1 0 z) ∧ F12_draw U (nI n) = some (d, sU U 1 3 z) := by
  unfold F10_draw F12_draw
  simp only [bL_d, sU_s]
  rw [if_neg (nI_nle hn hb), bG_t (nI_ne0 hn hb), bG_t (nI_ne0 hn hb), h, Int32.mul_comm]
  exact ⟨_, _, rfl, rfl⟩
theorem L_swing {sl : Nat} {T U : pS} (a : Int32) (hs : sl ≤ 9) (h : T 1 0 = U 1 3) : ∃ v z, F10_swing T 1 (nI sl) = some (v, sU T 1 0 z) ∧ F12_slipped U a (nI sl) = some (a + v, sU U 1 3 z) := by
  unfold F10_swing F12_slipped
  by_cases h0 : sl = 0
  · subst h0
    rw [if_pos (by decide), if_pos (by rfl)]
    refine ⟨0, T 1 0, by rw [sU_id], ?_⟩
    rw [h, sU_id, Int32.add_zero]
  · have e : (2 : Int32) * nI sl + 1 = nI (2 * sl + 1) := by rw [lit_I 2, pk_mul, nI_1]
    obtain ⟨d, z, h1, h2⟩ := L_draw (n := 2 * sl + 1) (by omega) (by omega) h
    rw [if_neg (nI_nle (by omega) (by omega)), if_neg (nI_ne0 (by omega) (by omega)), e, h1, h2, bB2_s, bB2_s]
    refine ⟨d - nI sl, z, rfl, ?_⟩
    rw [show a + (d - nI sl) = a + d - nI sl by grind]
theorem pow_m {f p : Nat} {pw : Int32} (hf : f < 100) (hp : p < 10) (h : isN pw 100) : ∃ b, b ≤ 99 ∧ jmin (nI f + nI p) pw = nI b := by
  obtain ⟨q, hq, rfl⟩ := h
  unfold jmin
  rw [nI_add]
  by_cases e : q < f + p
  · rw [if_pos (nI_lt e (by omega))]; exact ⟨q, by omega, rfl⟩
  · rw [if_neg (nI_nlt (by omega) (by omega))]; exact ⟨f + p, by omega, rfl⟩
theorem how_m {wi si : Int32} {sp i : Nat} {T U : pS} (h : FS wi si sp i T U) (h2 : T 2 4 = U 1 64) : (F12_landed U = 0 ∧ ∃ z, F12_isInSector U = some z ∧ ((z = 0 ∧ F2_how T 60 (T 2 4) = 4) ∨ (z = 1 ∧ F2_how T 60 (T 2 4) = 0))) ∨ (¬ F12_landed U = 0 ∧ F2_how T 60 (T 2 4) = 2 + F12_landed U - 1) := by
  have hs := secto h h2
  unfold F2_how
  simp only [bL_d]
  rw [land h]
  unfold F12_landed
  by_cases h0 : 0 ≤ U 0 33
  · simp only [if_pos h0]
    by_cases h9 : 10 ≤ U 0 33
    · simp only [if_pos h9]
      refine Or.inr ⟨by decide, ?_⟩
      rw [if_neg (by decide)]; rfl
    · simp only [if_neg h9]
      refine Or.inr ⟨by decide, ?_⟩
      rw [if_neg (by decide)]; rfl
  · simp only [if_neg h0]
    refine Or.inl ⟨trivial, _, hs, ?_⟩
    by_cases q : T 60 1 < jabs (T 60 2) * T 2 4
    · simp only [if_pos q]
      exact Or.inl ⟨trivial, if_pos (by decide)⟩
    · simp only [if_neg q]
      exact Or.inr ⟨trivial, if_pos (by decide)⟩
theorem next_v {T : pS} {o : Nat} {x : Int32} (ho : o ≠ 1) : F10_nextTurn (sU T o 5 x) 1 = sU (F10_nextTurn T 1) o 5 x := by
  have e : sU T o 5 x 1 = T 1 := sU_ne (Ne.symm ho)
  unfold F10_nextTurn
  simp only [bL_d, sU_get, Nat.reduceEqDiff, reduceCtorEq, and_true, and_false, false_and, true_and, and_self, if_true, if_false, ite_self, Nat.reduceAdd, Nat.reduceMul, Nat.reduceSub, Nat.reduceLT, Nat.reduceLeDiff, not_true_eq_false, not_false_eq_true, e]
  have e0 : ∀ j, (if 1 = o ∧ j = 5 then x else T 1 j) = T 1 j := fun j => by rw [if_neg (by omega)]
  have e1 : (if 1 = o then x else T 1 5) = T 1 5 := if_neg (Ne.symm ho)
  simp only [e1]
  split
  · rw [sU_c _ ho]
  · rw [sU_c _ ho, sU_c _ ho, sU_c _ ho]
theorem RW_nl {ns nt nl ng rd tn : Nat} {T U : pS} (h : RW 1 1 ns nt nl ng rd tn T U) (hl : nl < 100) (h3 : isN (U 1 (3296 + 10 * nl + 3)) ns) (h4 : isN (U 1 (3296 + 10 * nl + 4)) 100) (h5 : isN (U 1 (3296 + 10 * nl + 5)) 91) : RW 1 1 ns nt (nl + 1) ng rd tn (sU T 1 6 (nI (nl + 1))) (sU U 1 2 (nI (nl + 1))) := by
  obtain ⟨q1, q2, q3, q4, q5, q6, q7⟩ := h
  have hm : ∀ j, j ≠ 2 → sU U 1 2 (nI (nl + 1)) 1 j = U 1 j := fun j hj => sU_n (by omega)
  have hnt := q2.2.1
  refine ⟨RE_set q1 rfl, Wn_nl q2 (by omega), fun t ht => thr_m (q3 t ht) (Nat.le_refl _) (by omega) (fun j hj => hm j (by omega)) (sU_ne (by omega)), fun i hi => ?_, LR_m q5 (by decide) (fun i a b => sU_ne (by omega)) (fun j a b => hm j (by omega)), LR_m q6 (by decide) (fun i a b => sU_ne (by omega)) (fun j a b => hm j (by omega)), LR_m q7 (by decide) (fun i a b => sU_ne (by omega)) (fun j a b => hm j (by omega))⟩
  rw [hm _ (by omega), hm _ (by omega), hm _ (by omega)]
  by_cases e : i < nl
  · exact q4 i e
  · have : i = nl := by omega
    subst this
    exact ⟨h3, h4, h5⟩
theorem RW_bk {ns nt nl ng rd tn c : Nat} {T U : pS} {v : Int32} (h : RW 1 1 ns nt nl ng rd tn T U) (hl : nl < 100) (hc : c < 9) : RW 1 1 ns nt nl ng rd tn (sU T 6 (9 * nl + c) v) (sU U 1 (3296 + 10 * nl + c) v) :=
  RW_1 h (loc_bk hl hc) (by omega) (Wn_o h.2.1 (by omega)) (Nat.le_refl _) (Nat.le_refl _)
theorem L_write {ns nt nl ng rd tn sp b a o : Nat} {T U : pS} {x w g how : Int32} (ho : 29 ≤ o) (hW : RW 1 1 ns nt nl ng rd tn (sU T o 5 x) U) (hs : sp < ns) (hb : b ≤ 99) (ha : a ≤ 90) (hg : g = U 0 30) :
    R2 (F10_write T 1 (nI sp) (nI b) (nI a) w g how) (F12_notes U (nI tn) (nI sp) (nI b) (nI a) w how) (fun T' U' => (∃ nl2, nl ≤ nl2 ∧ RW 1 1 ns nt nl2 ng rd tn (sU T' o 5 x) U') ∧ (∀ k, k ≠ 1 → k ≠ 6 → T' k = T k) ∧ (∀ k, k ≠ 1 → U' k = U k) ∧ ∀ j, j ≠ 2 → j < 3296 → U' 1 j = U 1 j) := by
  subst hg
  have h2 : U 1 2 = nI nl := hW.2.1.2.2.2.2.2.2.2.2.1
  have e1 : sU T o 5 x 1 = T 1 := sU_ne (by omega)
  have c6 : T 1 6 = nI nl := by
    have := hW.1 2 1 6 rfl
    rw [e1] at this
    exact this.trans h2
  have c1 : T 1 1 = U 1 66 := by
    have := hW.1 66 1 1 rfl
    rw [e1] at this
    exact this
  have c2 : T 1 2 = U 1 0 := by
    have := hW.1 0 1 2 rfl
    rw [e1] at this
    exact this
  have c3 : T 1 3 = nI tn := by
    have := hW.1 1 1 3 rfl
    rw [e1] at this
    exact this.trans hW.2.1.2.2.2.2.2.2.2.2.2.2.2.1
  have hnl := hW.2.1.2.2.1
  unfold F10_write F12_notes
  rw [c6, h2]
  by_cases h100 : nl = 100
  · subst h100
    rw [if_neg (by decide), if_pos (show nI 100 = 100 from rfl)]
    exact r2_s ⟨⟨100, Nat.le_refl _, hW⟩, fun _ _ _ => rfl, fun _ _ => rfl, fun _ _ _ => rfl⟩
  · rw [if_pos (xlt 100 (b := 100) rfl (show nl < 100 by omega) (by decide)), if_neg (xne 100 (b := 100) rfl h100 (by omega) (by decide))]
    simp only [bL_d, Nat.reduceAdd]
    simp only [lit_I 0, lit_I 1, lit_I 2, lit_I 3, lit_I 4, lit_I 5, lit_I 6, lit_I 7, lit_I 8, lit_I 9, lit_I 10, lit_I 3296, pk_mul, nI_add, Nat.add_zero]
    simp (disch := omega) only [bG_N, nI_clamp]
    have k1 : ∀ (S : pS) j v, sU S 6 j v 1 = S 1 := fun S j v => sU_ne (by decide)
    have k2 : ∀ (S : pS) j v, (∀ q, q < 3296 → sU S 1 (3296 + 10 * nl + j) v 1 q = S 1 q) := fun S j v q hq => sU_n (by omega)
    have k3 : ∀ (S : pS) v, (∀ q, q < 3296 → sU S 1 (3296 + 10 * nl) v 1 q = S 1 q) := fun S v q hq => sU_n (by omega)
    have k4 : ∀ (S : pS) j v, sU S 1 j v 0 = S 0 := fun S j v => sU_ne (by decide)
    have k5 := fun (S : pS) j v => k2 S j v 0 (by decide)
    have k6 := fun (S : pS) v => k3 S v 0 (by decide)
    have k7 := fun (S : pS) j v => k2 S j v 2 (by decide)
    have k8 := fun (S : pS) v => k3 S v 2 (by decide)
    simp only [k1, k4, k5, k6, k7, k8, c1, c2, c3, c6, h2, nI_add]
    have h9 : nl < 100 := by omega
    have w0 := RW_bk hW h9 (c := 0) (v := U 1 66) (by decide)
    have w1 := RW_bk w0 h9 (c := 1) (v := U 1 0) (by decide)
    have w2 := RW_bk w1 h9 (c := 2) (v := nI tn) (by decide)
    have w3 := RW_bk w2 h9 (c := 3) (v := nI sp) (by decide)
    have w4 := RW_bk w3 h9 (c := 4) (v := nI b) (by decide)
    have w5 := RW_bk w4 h9 (c := 5) (v := nI a) (by decide)
    have w6 := RW_bk w5 h9 (c := 6) (v := w) (by decide)
    have w7 := RW_bk w6 h9 (c := 7) (v := U 0 30) (by decide)
    have w8 := RW_bk w7 h9 (c := 8) (v := how) (by decide)
    simp only [Nat.add_zero] at w8
    have w9 := RW_nl w8 h9 (by
      rw [sU_n (by omega), sU_n (by omega), sU_n (by omega), sU_n (by omega), sU_n (by omega), sU_s]; exact ⟨sp, hs, rfl⟩) (by
      rw [sU_n (by omega), sU_n (by omega), sU_n (by omega), sU_n (by omega), sU_s]; exact ⟨b, by omega, rfl⟩) (by
      rw [sU_n (by omega), sU_n (by omega), sU_n (by omega), sU_s]; exact ⟨a, by omega, rfl⟩)
    have n6 : 6 ≠ o := by omega
    have n1 : 1 ≠ o := by omega
    rw [Nat.mul_comm nl 9]
    refine r2_s ⟨⟨nl + 1, by omega, ?_⟩, fun k a b => ?_, fun k a => ?_, fun j a b => ?_⟩
    · rw [sU_c _ n1, sU_c _ n6, sU_c _ n6, sU_c _ n6, sU_c _ n6, sU_c _ n6, sU_c _ n6, sU_c _ n6, sU_c _ n6, sU_c _ n6]
      exact w9
    · rw [sU_ne a, sU_ne b, sU_ne b, sU_ne b, sU_ne b, sU_ne b, sU_ne b, sU_ne b, sU_ne b, sU_ne b]
    · rw [sU_ne a, sU_ne a, sU_ne a, sU_ne a, sU_ne a, sU_ne a, sU_ne a, sU_ne a, sU_ne a, sU_ne a]
    · rw [sU_n (by omega), sU_n (by omega), sU_n (by omega), sU_n (by omega), sU_n (by omega), sU_n (by omega), sU_n (by omega), sU_n (by omega), sU_n (by omega), sU_n (by omega)]

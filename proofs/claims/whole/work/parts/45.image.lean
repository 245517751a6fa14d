/-! the image -/
theorem cpy_i {f g : Nat → Int32} {n i : Nat} (h : i < n) : va_cpy f g 0 0 n i = f i := by
  unfold va_cpy
  rw [if_pos (by omega), show 0 + (i - 0) = i by omega]
/-- the cells of a world that count: from its number on, and the place -/
def capN (d : Nat) : Nat := if d = 0 then 8 else if d = 1 then 5 else if d < 4 then 6 else if d = 4 then 0 else if d = 5 then 900 else if d = 6 then 60 else if d < 28 then (if (d - 7) % 7 = 0 then 2 else if (d - 7) % 7 < 5 then 16 else if (d - 7) % 7 = 5 then 400 else 0) else if d < 44 then (if d % 2 = 0 then 6 else 60) else 0
def inC (d i : Nat) : Prop := i < capN d
theorem cap_p {t : Nat} (h : t < 8) : capN (29 + 2 * t) = 60 := by
  have : t = 0 ∨ t = 1 ∨ t = 2 ∨ t = 3 ∨ t = 4 ∨ t = 5 ∨ t = 6 ∨ t = 7 := by omega
  rcases this with rfl | rfl | rfl | rfl | rfl | rfl | rfl | rfl <;> rfl
theorem cap_l {x d i : Nat} (hx : x = 7 ∨ x = 14 ∨ x = 21) (hd : (1 ≤ d ∧ d < 5 ∧ i < 16) ∨ (d = 5 ∧ i < 400)) : i < capN (x + d) := by
  have : d = 1 ∨ d = 2 ∨ d = 3 ∨ d = 4 ∨ d = 5 := by omega
  rcases hx with rfl | rfl | rfl <;> rcases this with rfl | rfl | rfl | rfl | rfl
  all_goals first | (show i < 16; omega) | (show i < 400; omega)
theorem loc_shift {b b' j k i : Nat} (h : loc b' j = some (k, i)) : loc b j = some (b + (k - b'), i) ∧ b' ≤ k ∧ j < 4296 := by
  refine ⟨?_, ?_, ?_⟩ <;> grind (splits := 60) [loc]
theorem loc_cap {b' j k i : Nat} (h : loc b' j = some (k, i)) : i < capN (k - b') := by
  grind (splits := 60) [loc, capN]
theorem LR_shift {K K' d k o o' : Nat} {S U T U' : pS} (h : LR K k o S U) (hk : k < 3) (hT : ∀ d i, (1 ≤ d ∧ d < 5 ∧ i < 16) ∨ (d = 5 ∧ i < 400) → T (K' + d) i = S (K + d) i) (hU : ∀ j, j < 4296 → U' o' j = U o j) : LR K' k o' T U' := by
  obtain ⟨nl, kd, nm, h1, h2, h3⟩ := h
  refine ⟨nl, kd, nm, h1, by rw [hU _ (by omega)]; exact h2, fun i hi => ?_⟩
  obtain ⟨wd, fr, md, tt, l1, l2, l3, l4, l5, l6, l7, l8, l9, l10, l11, l12, l13, l14, l15⟩ := h3 i hi
  refine ⟨wd, fr, md, tt, l1, ?_, ?_, ?_, ?_, ?_, ?_, ?_, ?_, l10, l11, l12, l13, l14, fun p p1 p2 => ?_⟩
  · rw [hT 1 _ (by omega)]; exact l2
  · rw [hU _ (by omega)]; exact l3
  · rw [hT 2 _ (by omega)]; exact l4
  · rw [hU _ (by omega)]; exact l5
  · rw [hT 3 _ (by omega)]; exact l6
  · rw [hU _ (by omega)]; exact l7
  · rw [hT 4 _ (by omega)]; exact l8
  · rw [hU _ (by omega)]; exact l9
  · rw [hT 5 _ (by omega), hU _ (by omega), hU _ (by omega)]; exact l15 p p1 p2
theorem RW_shift {b b' o o' ns nt nl ng rd tn : Nat} {S U T U' : pS} (h : RW b o ns nt nl ng rd tn S U) (hT : ∀ d i, inC d i → T (b' + d) i = S (b + d) i) (hU : ∀ j, j < 4296 → U' o' j = U o j) : RW b' o' ns nt nl ng rd tn T U' := by
  obtain ⟨h1, h2, h3, h4, h5, h6, h7⟩ := h
  have hnt := h2.2.1
  have hnl := h2.2.2.1
  refine ⟨fun j k i hl => ?_, ?_, fun t ht => ?_, fun i hi => ?_, ?_, ?_, ?_⟩
  · obtain ⟨e1, e2, e4⟩ := loc_shift (b := b) hl
    have e3 : inC (k - b') i := loc_cap hl
    have := hT _ _ e3
    rw [show b' + (k - b') = k by omega] at this
    rw [this, hU j e4]
    exact h1 _ _ _ e1
  · unfold Wn at h2 ⊢
    rw [hU 67 (by decide), hU 68 (by decide), hU 2 (by decide), hU 69 (by decide), hU 0 (by decide), hU 1 (by decide), hU 66 (by decide), hU 62 (by decide), hU 63 (by decide)]
    exact h2
  · obtain ⟨a1, a2, a3, nx, no, a4, a5, a6, a7, a8⟩ := h3 t ht
    refine ⟨by rw [hU _ (by omega)]; exact a1, by rw [hU _ (by omega)]; exact a2, by rw [hU _ (by omega)]; exact a3, nx, no, a4, a5, by rw [hU _ (by omega)]; exact a6, by rw [hU _ (by omega)]; exact a7, fun i hi => ?_⟩
    have q := a8 i hi
    unfold ordOK at q ⊢
    have e : ∀ c, c < 60 → T (b' + 29 + 2 * t) c = S (b + 29 + 2 * t) c := fun c hc => by
      have := hT (29 + 2 * t) c (by unfold inC; rw [cap_p (by omega)]; exact hc)
      rw [show b' + 29 + 2 * t = b' + (29 + 2 * t) by omega, show b + 29 + 2 * t = b + (29 + 2 * t) by omega]
      exact this
    rw [e _ (by omega), e _ (by omega), e _ (by omega), e _ (by omega), e _ (by omega), hU _ (by omega), hU _ (by omega), hU _ (by omega), hU _ (by omega), hU _ (by omega)]
    exact q
  · rw [hU _ (by omega), hU _ (by omega), hU _ (by omega)]
    exact h4 i hi
  · refine LR_shift (d := 0) h5 (by decide) (fun d i hd => ?_) hU
    rw [show b' + 7 + d = b' + (7 + d) by omega, show b + 7 + d = b + (7 + d) by omega]
    exact hT (7 + d) i (cap_l (by omega) hd)
  · refine LR_shift (d := 0) h6 (by decide) (fun d i hd => ?_) hU
    rw [show b' + 14 + d = b' + (14 + d) by omega, show b + 14 + d = b + (14 + d) by omega]
    exact hT (14 + d) i (cap_l (by omega) hd)
  · refine LR_shift (d := 0) h7 (by decide) (fun d i hd => ?_) hU
    rw [show b' + 21 + d = b' + (21 + d) by omega, show b + 21 + d = b + (21 + d) by omega]
    exact hT (21 + d) i (cap_l (by omega) hd)
theorem sR_get (S : pS) (k : Nat) (f : Nat → Int32) (k' j : Nat) : sR S k f k' j = if k' = k then f j else S k' j := by
  unfold sR
  split <;> rfl
theorem cpyL {S : pS} {k0 k1 : Nat} (h : k0 + 6 < k1 ∨ k1 + 6 < k0) : (∀ i, i < 2 → F3_copy S k0 k1 k0 i = S k1 i) ∧ (∀ d i, (1 ≤ d ∧ d < 5 ∧ i < 16) ∨ (d = 5 ∧ i < 400) → F3_copy S k0 k1 (k0 + d) i = S (k1 + d) i) ∧ ∀ k, k < k0 ∨ k0 + 5 < k → F3_copy S k0 k1 k = S k := by
  unfold F3_copy
  simp only [bL_d]
  refine ⟨fun i hi => ?_, fun d i hd => ?_, fun k hk => ?_⟩
  · rw [sR_ne (by omega), sR_ne (by omega), sR_ne (by omega), sR_ne (by omega), sR_ne (by omega), sU_get]
    by_cases e : i = 1
    · rw [if_pos ⟨rfl, e⟩, sU_ne (by omega), e]
    · rw [if_neg (by omega), show i = 0 by omega, sU_s]
  · have e0 : ∀ k, k ≠ k0 → (sU (sU S k0 0 (S k1 0)) k0 1 ((sU S k0 0 (S k1 0)) k1 1)) k = S k := fun k hk => by rw [sU_ne hk, sU_ne hk]
    generalize sU (sU S k0 0 (S k1 0)) k0 1 ((sU S k0 0 (S k1 0)) k1 1) = A at e0 ⊢
    have : d = 1 ∨ d = 2 ∨ d = 3 ∨ d = 4 ∨ d = 5 := by omega
    rcases this with rfl | rfl | rfl | rfl | rfl
    · rw [sR_ne (by omega), sR_ne (by omega), sR_ne (by omega), sR_ne (by omega), sR_at, cpy_i (by omega), e0 _ (by omega)]
    · rw [sR_ne (by omega), sR_ne (by omega), sR_ne (by omega), sR_at, cpy_i (by omega), sR_ne (by omega), e0 _ (by omega)]
    · rw [sR_ne (by omega), sR_ne (by omega), sR_at, cpy_i (by omega), sR_ne (by omega), sR_ne (by omega), e0 _ (by omega)]
    · rw [sR_ne (by omega), sR_at, cpy_i (by omega), sR_ne (by omega), sR_ne (by omega), sR_ne (by omega), e0 _ (by omega)]
    · rw [sR_at, cpy_i (by omega), sR_ne (by omega), sR_ne (by omega), sR_ne (by omega), sR_ne (by omega), e0 _ (by omega)]
  · rw [sR_ne (by omega), sR_ne (by omega), sR_ne (by omega), sR_ne (by omega), sR_ne (by omega), sU_ne (by omega), sU_ne (by omega)]
theorem cpyT {S : pS} {k0 k1 : Nat} (h : k0 + 1 < k1 ∨ k1 + 1 < k0) : (∀ i, i < 6 → F8_copy S k0 k1 k0 i = S k1 i) ∧ (∀ i, i < 60 → F8_copy S k0 k1 (k0 + 1) i = S (k1 + 1) i) ∧ ∀ k, k < k0 ∨ k0 + 1 < k → F8_copy S k0 k1 k = S k := by
  unfold F8_copy
  have n1 : ∀ (S : pS) j v, sU S k0 j v k1 = S k1 := fun S j v => sU_ne (by omega)
  simp only [bL_d, n1]
  refine ⟨fun i hi => ?_, fun i hi => ?_, fun k hk => ?_⟩
  · rw [sR_ne (by omega)]
    have : i = 0 ∨ i = 1 ∨ i = 2 ∨ i = 3 ∨ i = 4 ∨ i = 5 := by omega
    rcases this with rfl | rfl | rfl | rfl | rfl | rfl <;> simp only [sU_get, Nat.reduceEqDiff, reduceCtorEq, and_true, and_false, false_and, true_and, and_self, if_true, if_false, ite_self, Nat.reduceAdd, Nat.reduceMul, Nat.reduceSub, Nat.reduceLT, Nat.reduceLeDiff, not_true_eq_false, not_false_eq_true]
  · rw [sR_at, cpy_i hi, sU_ne (by omega), sU_ne (by omega), sU_ne (by omega), sU_ne (by omega), sU_ne (by omega), sU_ne (by omega)]
  · rw [sR_ne (by omega), sU_ne (by omega), sU_ne (by omega), sU_ne (by omega), sU_ne (by omega), sU_ne (by omega), sU_ne (by omega)]
theorem L_copy {S : pS} {k0 k1 : Nat} (h : k0 + 44 ≤ k1 ∨ k1 + 44 ≤ k0) : Ok (F10_copy S k0 k1) (fun T => (∀ d i, inC d i → T (k0 + d) i = S (k1 + d) i) ∧ ∀ k, k < k0 ∨ k0 + 44 ≤ k → T k = S k) := by
  unfold F10_copy
  have n1 : ∀ (S : pS) j v, sU S k0 j v k1 = S k1 := fun S j v => sU_ne (by omega)
  simp only [bL_d, n1]
  have n2 : ∀ (S : pS) k f q, q ≠ k → sR S k f q = S q := fun S k f q hq => sR_ne hq
  let A : pS := sR (sR (sR (sR (sR (sU (sU (sU (sU (sU (sU (sU (sU S k0 0 (S k1 0)) k0 1 (S k1 1)) k0 2 (S k1 2)) k0 3 (S k1 3)) k0 4 (S k1 4)) k0 5 (S k1 5)) k0 6 (S k1 6)) k0 7 (S k1 7)) (k0 + 1) (va_cpy (S (k1 + 1)) (S (k0 + 1)) 0 0 5)) (k0 + 2) (va_cpy (S (k1 + 2)) (S (k0 + 2)) 0 0 6)) (k0 + 3) (va_cpy (S (k1 + 3)) (S (k0 + 3)) 0 0 6)) (k0 + 5) (va_cpy (S (k1 + 5)) (S (k0 + 5)) 0 0 900)) (k0 + 6) (va_cpy (S (k1 + 6)) (S (k0 + 6)) 0 0 60)
  have m1 : ∀ (S : pS) j v q, q ≠ k0 → sU S k0 j v q = S q := fun S j v q hq => sU_ne hq
  have hA1 : ∀ i, i < 8 → A k0 i = S k1 i := by
    intro i hi
    show sR _ _ _ k0 i = _
    rw [sR_ne (by omega), sR_ne (by omega), sR_ne (by omega), sR_ne (by omega), sR_ne (by omega)]
    have : i = 0 ∨ i = 1 ∨ i = 2 ∨ i = 3 ∨ i = 4 ∨ i = 5 ∨ i = 6 ∨ i = 7 := by omega
    rcases this with rfl | rfl | rfl | rfl | rfl | rfl | rfl | rfl <;> simp only [sU_get, Nat.reduceEqDiff, reduceCtorEq, and_true, and_false, false_and, true_and, and_self, if_true, if_false, ite_self, Nat.reduceAdd, Nat.reduceMul, Nat.reduceSub, Nat.reduceLT, Nat.reduceLeDiff, not_true_eq_false, not_false_eq_true]
  have hA2 : ∀ i, i < 5 → A (k0 + 1) i = S (k1 + 1) i := by
    intro i hi
    show sR _ _ _ (k0 + 1) i = _
    rw [sR_ne (by omega), sR_ne (by omega), sR_ne (by omega), sR_ne (by omega), sR_at, cpy_i hi]
  have hA3 : ∀ i, i < 6 → A (k0 + 2) i = S (k1 + 2) i := by
    intro i hi
    show sR _ _ _ (k0 + 2) i = _
    rw [sR_ne (by omega), sR_ne (by omega), sR_ne (by omega), sR_at, cpy_i hi]
  have hA4 : ∀ i, i < 6 → A (k0 + 3) i = S (k1 + 3) i := by
    intro i hi
    show sR _ _ _ (k0 + 3) i = _
    rw [sR_ne (by omega), sR_ne (by omega), sR_at, cpy_i hi]
  have hA5 : ∀ i, i < 900 → A (k0 + 5) i = S (k1 + 5) i := by
    intro i hi
    show sR _ _ _ (k0 + 5) i = _
    rw [sR_ne (by omega), sR_at, cpy_i hi]
  have hA6 : ∀ i, i < 60 → A (k0 + 6) i = S (k1 + 6) i := by
    intro i hi
    show sR _ _ _ (k0 + 6) i = _
    rw [sR_at, cpy_i hi]
  have hAo : ∀ k, k < k0 ∨ k0 + 6 < k → A k = S k := by
    intro k hk
    show sR _ _ _ k = _
    rw [sR_ne (by omega), sR_ne (by omega), sR_ne (by omega), sR_ne (by omega), sR_ne (by omega), m1 _ _ _ _ (by omega), m1 _ _ _ _ (by omega), m1 _ _ _ _ (by omega), m1 _ _ _ _ (by omega), m1 _ _ _ _ (by omega), m1 _ _ _ _ (by omega), m1 _ _ _ _ (by omega), m1 _ _ _ _ (by omega)]
  refine ok_B (P := fun (B : pS) => (∀ t, t < 8 → (∀ i, i < 6 → B (k0 + 28 + 2 * t) i = S (k1 + 28 + 2 * t) i) ∧ ∀ i, i < 60 → B (k0 + 28 + 2 * t + 1) i = S (k1 + 28 + 2 * t + 1) i) ∧ ∀ k, k < k0 + 28 ∨ k0 + 44 ≤ k → B k = A k) (ok_P 8 (fun n s => ∃ B : pS, s = (nI n, B) ∧ (∀ t, t < n → (∀ i, i < 6 → B (k0 + 28 + 2 * t) i = S (k1 + 28 + 2 * t) i) ∧ ∀ i, i < 60 → B (k0 + 28 + 2 * t + 1) i = S (k1 + 28 + 2 * t + 1) i) ∧ ∀ k, k < k0 + 28 ∨ k0 + 44 ≤ k → B k = A k) ?_ ?_ ?_) ?_
  · refine ⟨A, ?_, fun t ht => absurd ht (Nat.not_lt_zero _), fun _ _ => rfl⟩
    show ((0 : Int32), _) = (nI 0, A)
    have e1 : ∀ q, q ≠ k0 → (sU (sU (sU (sU (sU (sU (sU (sU S k0 0 (S k1 0)) k0 1 (S k1 1)) k0 2 (S k1 2)) k0 3 (S k1 3)) k0 4 (S k1 4)) k0 5 (S k1 5)) k0 6 (S k1 6)) k0 7 (S k1 7)) q = S q := fun q hq => by
      rw [m1 _ _ _ _ hq, m1 _ _ _ _ hq, m1 _ _ _ _ hq, m1 _ _ _ _ hq, m1 _ _ _ _ hq, m1 _ _ _ _ hq, m1 _ _ _ _ hq, m1 _ _ _ _ hq]
    show _ = (nI 0, sR _ _ _)
    generalize sU (sU (sU (sU (sU (sU (sU (sU S k0 0 (S k1 0)) k0 1 (S k1 1)) k0 2 (S k1 2)) k0 3 (S k1 3)) k0 4 (S k1 4)) k0 5 (S k1 5)) k0 6 (S k1 6)) k0 7 (S k1 7) = X at e1 ⊢
    rw [n2 _ _ _ (k1 + 6) (by omega), n2 _ _ _ (k1 + 6) (by omega), n2 _ _ _ (k1 + 6) (by omega), n2 _ _ _ (k1 + 6) (by omega), n2 _ _ _ (k0 + 6) (by omega), n2 _ _ _ (k0 + 6) (by omega), n2 _ _ _ (k0 + 6) (by omega), n2 _ _ _ (k0 + 6) (by omega), n2 _ _ _ (k1 + 5) (by omega), n2 _ _ _ (k1 + 5) (by omega), n2 _ _ _ (k1 + 5) (by omega), n2 _ _ _ (k0 + 5) (by omega), n2 _ _ _ (k0 + 5) (by omega), n2 _ _ _ (k0 + 5) (by omega), n2 _ _ _ (k1 + 3) (by omega), n2 _ _ _ (k1 + 3) (by omega), n2 _ _ _ (k0 + 3) (by omega), n2 _ _ _ (k0 + 3) (by omega), n2 _ _ _ (k1 + 2) (by omega), n2 _ _ _ (k0 + 2) (by omega)]
    rw [e1 (k1 + 1) (by omega), e1 (k1 + 2) (by omega), e1 (k1 + 3) (by omega), e1 (k1 + 5) (by omega), e1 (k1 + 6) (by omega), e1 (k0 + 1) (by omega), e1 (k0 + 2) (by omega), e1 (k0 + 3) (by omega), e1 (k0 + 5) (by omega), e1 (k0 + 6) (by omega)]
    rfl
  · rintro n s hn ⟨B, rfl, h1, h2⟩
    simp only [u2_d]
    rw [if_neg (nge 8 (b := 8) rfl hn (by decide)), bG_t (vp_in_nI (by omega) (by omega)), bG_t (vp_in_nI (by omega) (by omega)), nI_clamp (by omega), nI_1]
    obtain ⟨c1, c2, c3⟩ := cpyT (S := B) (k0 := k0 + 28 + 2 * n) (k1 := k1 + 28 + 2 * n) (by omega)
    refine ok_s ⟨_, rfl, fun t ht => ?_, fun k hk => by rw [c3 k (by omega)]; exact h2 k hk⟩
    by_cases e : t = n
    · subst e
      have e1 : B (k1 + 28 + 2 * t) = S (k1 + 28 + 2 * t) := by rw [h2 _ (by omega)]; exact hAo _ (by omega)
      have e2 : B (k1 + 28 + 2 * t + 1) = S (k1 + 28 + 2 * t + 1) := by rw [h2 _ (by omega)]; exact hAo _ (by omega)
      exact ⟨fun i hi => by rw [c1 i hi, e1], fun i hi => by rw [c2 i hi, e2]⟩
    · have ht' : t < n := by omega
      exact ⟨fun i hi => by rw [c3 _ (by omega)]; exact (h1 t ht').1 i hi, fun i hi => by rw [c3 _ (by omega)]; exact (h1 t ht').2 i hi⟩
  · rintro s ⟨B, rfl, hq⟩
    simp only [u2_d]
    rw [if_pos (by decide)]
    exact ok_s hq
  · rintro B ⟨h1, h2⟩
    simp only [u1_d]
    have hB1 : ∀ k, k1 ≤ k → k < k1 + 44 → B k = S k := fun k a b => by rw [h2 k (by omega)]; exact hAo k (by omega)
    obtain ⟨p1, p2, p3⟩ := cpyL (S := B) (k0 := k0 + 7) (k1 := k1 + 7) (by omega)
    generalize F3_copy B (k0 + 7) (k1 + 7) = C1 at p1 p2 p3 ⊢
    obtain ⟨q1, q2, q3⟩ := cpyL (S := C1) (k0 := k0 + 14) (k1 := k1 + 14) (by omega)
    generalize F3_copy C1 (k0 + 14) (k1 + 14) = C2 at q1 q2 q3 ⊢
    obtain ⟨r1, r2, r3⟩ := cpyL (S := C2) (k0 := k0 + 21) (k1 := k1 + 21) (by omega)
    generalize F3_copy C2 (k0 + 21) (k1 + 21) = C3 at r1 r2 r3 ⊢
    refine ok_s ⟨fun d i hd => ?_, fun k hk => ?_⟩
    · unfold inC at hd
      have lo : ∀ d, d < 7 → C3 (k0 + d) = A (k0 + d) := fun d hd => by
        rw [r3 _ (by omega), q3 _ (by omega), p3 _ (by omega), h2 _ (by omega)]
      by_cases d7 : d < 7
      · rw [lo d d7]
        have : d = 0 ∨ d = 1 ∨ d = 2 ∨ d = 3 ∨ d = 4 ∨ d = 5 ∨ d = 6 := by omega
        rcases this with rfl | rfl | rfl | rfl | rfl | rfl | rfl
        · exact hA1 i hd
        · exact hA2 i hd
        · exact hA3 i hd
        · exact hA4 i hd
        · exact absurd hd (Nat.not_lt_zero _)
        · exact hA5 i hd
        · exact hA6 i hd
      · by_cases d28 : d < 28
        · by_cases d14 : d < 14
          · rw [r3 _ (by omega), q3 _ (by omega)]
            have : d = 7 ∨ d = 8 ∨ d = 9 ∨ d = 10 ∨ d = 11 ∨ d = 12 ∨ d = 13 := by omega
            have g : ∀ e, 1 ≤ e ∧ e < 6 → (e < 5 → i < 16) → (e = 5 → i < 400) → C1 (k0 + (7 + e)) i = S (k1 + (7 + e)) i := fun e he h16 h400 => by
              have := p2 e i (by omega)
              rw [show k0 + 7 + e = k0 + (7 + e) by omega, show k1 + 7 + e = k1 + (7 + e) by omega] at this
              rw [this, hB1 _ (by omega) (by omega)]
            rcases this with rfl | rfl | rfl | rfl | rfl | rfl | rfl
            · rw [p1 i hd, hB1 _ (by omega) (by omega)]
            · exact g 1 (by decide) (fun _ => hd) (fun q => absurd q (by decide))
            · exact g 2 (by decide) (fun _ => hd) (fun q => absurd q (by decide))
            · exact g 3 (by decide) (fun _ => hd) (fun q => absurd q (by decide))
            · exact g 4 (by decide) (fun _ => hd) (fun q => absurd q (by decide))
            · exact g 5 (by decide) (fun q => absurd q (by decide)) (fun _ => hd)
            · exact absurd hd (Nat.not_lt_zero _)
          · by_cases d21 : d < 21
            · rw [r3 _ (by omega)]
              have hC1 : ∀ k, k1 + 13 ≤ k → k < k1 + 44 → C1 k = S k := fun k a b => by rw [p3 k (by omega)]; exact hB1 k (by omega) b
              have : d = 14 ∨ d = 15 ∨ d = 16 ∨ d = 17 ∨ d = 18 ∨ d = 19 ∨ d = 20 := by omega
              have g : ∀ e, 1 ≤ e ∧ e < 6 → (e < 5 → i < 16) → (e = 5 → i < 400) → C2 (k0 + (14 + e)) i = S (k1 + (14 + e)) i := fun e he h16 h400 => by
                have := q2 e i (by omega)
                rw [show k0 + 14 + e = k0 + (14 + e) by omega, show k1 + 14 + e = k1 + (14 + e) by omega] at this
                rw [this, hC1 _ (by omega) (by omega)]
              rcases this with rfl | rfl | rfl | rfl | rfl | rfl | rfl
              · rw [q1 i hd, hC1 _ (by omega) (by omega)]
              · exact g 1 (by decide) (fun _ => hd) (fun q => absurd q (by decide))
              · exact g 2 (by decide) (fun _ => hd) (fun q => absurd q (by decide))
              · exact g 3 (by decide) (fun _ => hd) (fun q => absurd q (by decide))
              · exact g 4 (by decide) (fun _ => hd) (fun q => absurd q (by decide))
              · exact g 5 (by decide) (fun q => absurd q (by decide)) (fun _ => hd)
              · exact absurd hd (Nat.not_lt_zero _)
            · have hC2 : ∀ k, k1 + 20 ≤ k → k < k1 + 44 → C2 k = S k := fun k a b => by rw [q3 k (by omega), p3 k (by omega)]; exact hB1 k (by omega) b
              have : d = 21 ∨ d = 22 ∨ d = 23 ∨ d = 24 ∨ d = 25 ∨ d = 26 ∨ d = 27 := by omega
              have g : ∀ e, 1 ≤ e ∧ e < 6 → (e < 5 → i < 16) → (e = 5 → i < 400) → C3 (k0 + (21 + e)) i = S (k1 + (21 + e)) i := fun e he h16 h400 => by
                have := r2 e i (by omega)
                rw [show k0 + 21 + e = k0 + (21 + e) by omega, show k1 + 21 + e = k1 + (21 + e) by omega] at this
                rw [this, hC2 _ (by omega) (by omega)]
              rcases this with rfl | rfl | rfl | rfl | rfl | rfl | rfl
              · rw [r1 i hd, hC2 _ (by omega) (by omega)]
              · exact g 1 (by decide) (fun _ => hd) (fun q => absurd q (by decide))
              · exact g 2 (by decide) (fun _ => hd) (fun q => absurd q (by decide))
              · exact g 3 (by decide) (fun _ => hd) (fun q => absurd q (by decide))
              · exact g 4 (by decide) (fun _ => hd) (fun q => absurd q (by decide))
              · exact g 5 (by decide) (fun q => absurd q (by decide)) (fun _ => hd)
              · exact absurd hd (Nat.not_lt_zero _)
        · by_cases d44 : d < 44
          · rw [r3 _ (by omega), q3 _ (by omega), p3 _ (by omega)]
            unfold capN at hd
            rw [if_neg (by omega), if_neg (by omega), if_neg (by omega), if_neg (by omega), if_neg (by omega), if_neg (by omega), if_neg d28, if_pos d44] at hd
            by_cases ev : d % 2 = 0
            · rw [if_pos ev] at hd
              have := (h1 ((d - 28) / 2) (by omega)).1 i hd
              rw [show k0 + 28 + 2 * ((d - 28) / 2) = k0 + d by omega, show k1 + 28 + 2 * ((d - 28) / 2) = k1 + d by omega] at this
              exact this
            · rw [if_neg ev] at hd
              have := (h1 ((d - 28) / 2) (by omega)).2 i hd
              rw [show k0 + 28 + 2 * ((d - 28) / 2) + 1 = k0 + d by omega, show k1 + 28 + 2 * ((d - 28) / 2) + 1 = k1 + d by omega] at this
              exact this
          · unfold capN at hd
            rw [if_neg (by omega), if_neg (by omega), if_neg (by omega), if_neg (by omega), if_neg (by omega), if_neg (by omega), if_neg d28, if_neg d44] at hd
            exact absurd hd (Nat.not_lt_zero _)
    · rw [r3 _ (by omega), q3 _ (by omega), p3 _ (by omega), h2 _ (by omega)]
      exact hAo k (by omega)

variable {gG : Nat → Int32}
/-! what a change leaves -/
theorem isN_m {x : Int32} {n m : Nat} (h : isN x n) (hm : n ≤ m) : isN x m := by
  obtain ⟨i, hi, e⟩ := h
  exact ⟨i, by omega, e⟩
theorem ord_m {b o ns ns' t i : Nat} {Sc Sm Sc' Sm' : pS} (h : ordOK b o ns t i Sc Sm) (hn : ns ≤ ns') (hi : i < 12) (ht : t < 8) (hm : ∀ j, 150 + 60 * t ≤ j → j < 210 + 60 * t → Sm' o j = Sm o j) (hc : Sc' (b + 29 + 2 * t) = Sc (b + 29 + 2 * t)) : ordOK b o ns' t i Sc' Sm' := by
  unfold ordOK at h ⊢
  rw [hc, hm (150 + 60 * t + 5 * i) (by omega) (by omega), hm (150 + 60 * t + 5 * i + 1) (by omega) (by omega), hm (150 + 60 * t + 5 * i + 2) (by omega) (by omega), hm (150 + 60 * t + 5 * i + 3) (by omega) (by omega), hm (150 + 60 * t + 5 * i + 4) (by omega) (by omega)]
  refine ⟨h.1, ?_⟩
  rcases h.2 with q | ⟨q1, q2, q3, q4⟩
  · exact Or.inl q
  · exact Or.inr ⟨q1, q2, isN_m q3 hn, q4⟩
theorem thr_m {b o ns ns' t : Nat} {Sc Sm Sc' Sm' : pS} (h : thrOK b o ns t Sc Sm) (hn : ns ≤ ns') (ht : t < 8) (hm : ∀ j, (4 + 7 * t ≤ j ∧ j < 9 + 7 * t) ∨ j = 82 + t ∨ (150 + 60 * t ≤ j ∧ j < 210 + 60 * t) → Sm' o j = Sm o j) (hc : Sc' (b + 29 + 2 * t) = Sc (b + 29 + 2 * t)) : thrOK b o ns' t Sc' Sm' := by
  unfold thrOK at h ⊢
  rw [hm (4 + 7 * t) (by omega), hm (5 + 7 * t) (by omega), hm (6 + 7 * t) (by omega), hm (8 + 7 * t) (by omega), hm (82 + t) (by omega)]
  obtain ⟨h1, h2, h3, nx, no, h4, h5, h6, h7, h8⟩ := h
  exact ⟨h1, h2, h3, nx, no, h4, h5, h6, h7, fun i hi => ord_m (h8 i hi) hn (by omega) ht (fun j a c => hm j (Or.inr (Or.inr ⟨a, c⟩))) hc⟩
theorem WB_m {o ns ns' nl nl' : Nat} {Sm Sm' : pS} (h : WB o ns nl Sm) (hn : ns ≤ ns') (hl : nl' ≤ nl) (hm : ∀ j, 3296 ≤ j → j < 3296 + 10 * nl' → Sm' o j = Sm o j) : WB o ns' nl' Sm' := by
  intro i hi
  obtain ⟨h1, h2, h3⟩ := h i (by omega)
  rw [hm _ (by omega) (by omega), hm _ (by omega) (by omega), hm _ (by omega) (by omega)]
  exact ⟨isN_m h1 hn, h2, h3⟩
theorem LR_m {K k o : Nat} {Sc Sm Sc' Sm' : pS} (h : LR K k o Sc Sm) (hk : k < 3) (hc : ∀ i, 0 < i → i < 6 → Sc' (K + i) = Sc (K + i)) (hm : ∀ j, 640 ≤ j → j < 3296 → Sm' o j = Sm o j) : LR K k o Sc' Sm' := by
  obtain ⟨nl, kd, nm, h1, h2, h3⟩ := h
  refine ⟨nl, kd, nm, h1, by rw [hm _ (by omega) (by omega)]; exact h2, fun i hi => ?_⟩
  obtain ⟨wd, fr, md, tt, l1, l2, l3, l4, l5, l6, l7, l8, l9, l10, l11, l12, l13, l14, l15⟩ := h3 i hi
  refine ⟨wd, fr, md, tt, l1, ?_, ?_, ?_, ?_, ?_, ?_, ?_, ?_, l10, l11, l12, l13, l14, fun p p1 p2 => ?_⟩
  · rw [hc 1 (by decide) (by decide)]; exact l2
  · rw [hm _ (by omega) (by omega)]; exact l3
  · rw [hc 2 (by decide) (by decide)]; exact l4
  · rw [hm _ (by omega) (by omega)]; exact l5
  · rw [hc 3 (by decide) (by decide)]; exact l6
  · rw [hm _ (by omega) (by omega)]; exact l7
  · rw [hc 4 (by decide) (by decide)]; exact l8
  · rw [hm _ (by omega) (by omega)]; exact l9
  · rw [hc 5 (by decide) (by decide), hm _ (by omega) (by omega), hm _ (by omega) (by omega)]
    exact l15 p p1 p2
/-- no thrower, no order, no line of the book, no law is touched -/
theorem RW_m {b o ns nt nl ng rd tn ns' nl' ng' rd' tn' : Nat} {Sc Sm Sc' Sm' : pS} (h : RW b o ns nt nl ng rd tn Sc Sm) (hE : RE b o Sc' Sm') (hW : Wn o Sm' ns' nt nl' ng' rd' tn') (hn : ns ≤ ns') (hl : nl' ≤ nl) (hm : ∀ j, (4 ≤ j ∧ j < 60) ∨ (82 ≤ j ∧ j < 90) ∨ (150 ≤ j ∧ j < 3296 + 10 * nl') → Sm' o j = Sm o j)
    (hc : ∀ k, (b + 7 < k ∧ k < b + 13) ∨ (b + 14 < k ∧ k < b + 20) ∨ (b + 21 < k ∧ k < b + 27) ∨ (b + 29 ≤ k ∧ k < b + 44 ∧ (k - b) % 2 = 1) → Sc' k = Sc k) : RW b o ns' nt nl' ng' rd' tn' Sc' Sm' := by
  obtain ⟨h1, h2, h3, h4, h5, h6, h7⟩ := h
  have hnt := h2.2.1
  refine ⟨hE, hW, fun t ht => thr_m (h3 t ht) hn (by omega) (fun j hj => hm j (by omega)) (hc _ (by omega)), WB_m h4 hn hl (fun j a c => hm j (by omega)), ?_, ?_, ?_⟩
  · exact LR_m h5 (by decide) (fun i a c => hc _ (by omega)) (fun j a c => hm j (by omega))
  · exact LR_m h6 (by decide) (fun i a c => hc _ (by omega)) (fun j a c => hm j (by omega))
  · exact LR_m h7 (by decide) (fun i a c => hc _ (by omega)) (fun j a c => hm j (by omega))
/-- one number changes on both sides, no thrower's -/
theorem RW_1 {ns nt nl ng rd tn ns' nl' ng' rd' tn' j k i : Nat} {v : Int32} {Sc Sm : pS} (h : RW 1 1 ns nt nl ng rd tn Sc Sm) (hl : loc 1 j = some (k, i)) (hj : j < 4 ∨ (60 ≤ j ∧ j < 82) ∨ (90 ≤ j ∧ j < 150) ∨ 3296 + 10 * nl' ≤ j) (hW : Wn 1 (sU Sm 1 j v) ns' nt nl' ng' rd' tn') (hn : ns ≤ ns') (hnl : nl' ≤ nl) : RW 1 1 ns' nt nl' ng' rd' tn' (sU Sc k i v) (sU Sm 1 j v) := by
  refine RW_m h (RE_set h.1 hl) hW hn hnl (fun j' hj' => sU_n (fun q => by have := q.2; omega)) (fun k' hk' => sU_ne (fun q => ?_))
  have := loc_in hl
  unfold inL at this
  omega
/-- one number of a thrower changes on both sides -/
theorem RW_t {ns nt nl ng rd tn t f : Nat} {v : Int32} {Sc Sm : pS} (h : RW 1 1 ns nt nl ng rd tn Sc Sm) (ht : t < nt) (hf : f < 4) (h0 : f = 0 → isN v 100) (h1 : f = 1 → isN v 1001) (h2 : f = 2 → isN v 475201) : RW 1 1 ns nt nl ng rd tn (sU Sc (29 + 2 * t) f v) (sU Sm 1 (4 + f + 7 * t) v) := by
  obtain ⟨q1, q2, q3, q4, q5, q6, q7⟩ := h
  have hnt := q2.2.1
  have hmm : ∀ j, j < 4 ∨ 60 ≤ j → sU Sm 1 (4 + f + 7 * t) v 1 j = Sm 1 j := fun j hj => sU_n (fun q => by have := q.2; omega)
  have hcc : ∀ k, k < 29 ∨ 44 ≤ k ∨ k % 2 = 0 → sU Sc (29 + 2 * t) f v k = Sc k := fun k hk => sU_ne (by omega)
  refine ⟨RE_set q1 (loc_thr (by omega) hf), ?_, fun t' ht' => ?_, WB_m q4 (Nat.le_refl _) (Nat.le_refl _) (fun j a c => hmm j (by omega)), LR_m q5 (by decide) (fun i a c => hcc _ (by omega)) (fun j a c => hmm j (by omega)), LR_m q6 (by decide) (fun i a c => hcc _ (by omega)) (fun j a c => hmm j (by omega)), LR_m q7 (by decide) (fun i a c => hcc _ (by omega)) (fun j a c => hmm j (by omega))⟩
  · unfold Wn at q2 ⊢
    rw [hmm 67 (by decide), hmm 68 (by decide), hmm 2 (by decide), hmm 69 (by decide), hmm 0 (by decide), hmm 1 (by decide), hmm 66 (by decide), hmm 62 (by decide), hmm 63 (by decide)]
    exact q2
  · obtain ⟨a1, a2, a3, nx, no, a4, a5, a6, a7, a8⟩ := q3 t' ht'
    refine ⟨?_, ?_, ?_, nx, no, a4, a5, ?_, ?_, fun i hi => ord_m (a8 i hi) (Nat.le_refl _) (by omega) (by omega) (fun j b c => hmm j (by omega)) (hcc _ (by omega))⟩
    · rw [sU_get]
      by_cases e : (1 = 1 ∧ 4 + 7 * t' = 4 + f + 7 * t)
      · rw [if_pos e]; exact h0 (by omega)
      · rw [if_neg e]; exact a1
    · rw [sU_get]
      by_cases e : (1 = 1 ∧ 5 + 7 * t' = 4 + f + 7 * t)
      · rw [if_pos e]; exact h1 (by omega)
      · rw [if_neg e]; exact a2
    · rw [sU_get]
      by_cases e : (1 = 1 ∧ 6 + 7 * t' = 4 + f + 7 * t)
      · rw [if_pos e]; exact h2 (by omega)
      · rw [if_neg e]; exact a3
    · rw [sU_n (by omega)]; exact a6
    · rw [hmm _ (by omega)]; exact a7
theorem RW_tn {ns nt nl ng rd tn t nx : Nat} {Sc Sm : pS} (h : RW 1 1 ns nt nl ng rd tn Sc Sm) (ht : t < nt) (hx : ∀ no, no ≤ 12 → Sm 1 (82 + t) = nI no → nx ≤ no) : RW 1 1 ns nt nl ng rd tn (sU Sc (29 + 2 * t) 5 (nI nx)) (sU Sm 1 (8 + 7 * t) (nI nx)) := by
  obtain ⟨q1, q2, q3, q4, q5, q6, q7⟩ := h
  have hnt := q2.2.1
  have hmm : ∀ j, j < 4 ∨ 60 ≤ j → sU Sm 1 (8 + 7 * t) (nI nx) 1 j = Sm 1 j := fun j hj => sU_n (fun q => by have := q.2; omega)
  have hcc : ∀ k, k < 29 ∨ 44 ≤ k ∨ k % 2 = 0 → sU Sc (29 + 2 * t) 5 (nI nx) k = Sc k := fun k hk => sU_ne (by omega)
  refine ⟨RE_set q1 (loc_nx (by omega)), ?_, fun t' ht' => ?_, WB_m q4 (Nat.le_refl _) (Nat.le_refl _) (fun j a c => hmm j (by omega)), LR_m q5 (by decide) (fun i a c => hcc _ (by omega)) (fun j a c => hmm j (by omega)), LR_m q6 (by decide) (fun i a c => hcc _ (by omega)) (fun j a c => hmm j (by omega)), LR_m q7 (by decide) (fun i a c => hcc _ (by omega)) (fun j a c => hmm j (by omega))⟩
  · unfold Wn at q2 ⊢
    rw [hmm 67 (by decide), hmm 68 (by decide), hmm 2 (by decide), hmm 69 (by decide), hmm 0 (by decide), hmm 1 (by decide), hmm 66 (by decide), hmm 62 (by decide), hmm 63 (by decide)]
    exact q2
  · obtain ⟨a1, a2, a3, mx, no, a4, a5, a6, a7, a8⟩ := q3 t' ht'
    refine ⟨by rw [sU_n (by omega)]; exact a1, by rw [sU_n (by omega)]; exact a2, by rw [sU_n (by omega)]; exact a3, if t' = t then nx else mx, no, ?_, a5, ?_, by rw [hmm _ (by omega)]; exact a7, fun i hi => ord_m (a8 i hi) (Nat.le_refl _) (by omega) (by omega) (fun j b c => hmm j (by omega)) (hcc _ (by omega))⟩
    · by_cases e : t' = t
      · rw [if_pos e]; exact hx no a5 (by rw [← e]; exact a7)
      · rw [if_neg e]; exact a4
    · by_cases e : t' = t
      · rw [if_pos e, e, sU_s]
      · rw [if_neg e, sU_n (by omega)]; exact a6
/-- what lies outside of the world that is now -/
def fO (Sc Sc' : pS) : Prop := ∀ k, k = 0 ∨ 45 ≤ k → k ≠ 65 → ¬ (67 ≤ k ∧ k < 75) → ¬ scC k → Sc' k = Sc k
def fP (Sm Sm' : pS) : Prop := (∀ k, k ≠ 0 → k ≠ 1 → k ≠ 3 → ¬ scM k → Sm' k = Sm k) ∧ ∀ j, j < 27 → j ≠ 3 → Sm' 0 j = Sm 0 j
theorem fO_r (S : pS) : fO S S := fun _ _ _ _ _ => rfl
theorem fP_r (S : pS) : fP S S := ⟨fun _ _ _ _ _ => rfl, fun _ _ _ => rfl⟩
theorem fO_t {S S' S'' : pS} (h : fO S S') (h' : fO S' S'') : fO S S'' := fun k a b c d => (h' k a b c d).trans (h k a b c d)
theorem fP_t {S S' S'' : pS} (h : fP S S') (h' : fP S' S'') : fP S S'' := ⟨fun k a b c d => (h'.1 k a b c d).trans (h.1 k a b c d), fun j a b => (h'.2 j a b).trans (h.2 j a b)⟩
theorem fO_u {S S' : pS} {k j : Nat} {v : Int32} (hk : (0 < k ∧ k < 45) ∨ k = 65 ∨ (67 ≤ k ∧ k < 75)) (h : fO S S') : fO S (sU S' k j v) := fun k' a b c d => by
  rw [sU_ne (by omega)]; exact h k' a b c d
theorem fP_u {S S' : pS} {k j : Nat} {v : Int32} (hk : k = 1 ∨ k = 3 ∨ (k = 0 ∧ (j = 3 ∨ 27 ≤ j))) (h : fP S S') : fP S (sU S' k j v) := by
  refine ⟨fun k' a b c d => ?_, fun j' a b => ?_⟩
  · rw [sU_ne (by omega)]; exact h.1 k' a b c d
  · rw [sU_n (by omega)]; exact h.2 j' a b
theorem fC_O {S S' : pS} (h : fC S S') : fO S S' := fun k _ _ _ d => h k d
theorem fM_P {S S' : pS} (h : fM S S') : fP S S' := ⟨fun k a _ _ d => h.1 k a d, fun j a _ => h.2 j a⟩
theorem Rel_of {Sc Sm Sc' Sm' : pS} {ns nt nl ng rd tn nu la : Nat} (hR : (Rel gG) Sc Sm) (hW : RW 1 1 ns nt nl ng rd tn Sc' Sm') (hP : PastR nu la nt Sc' Sm') (hc : fO Sc Sc') (hm : fP Sm Sm') : (Rel gG) Sc' Sm' := by
  obtain ⟨_, _, _, _, _, _, _, _, np, -, -, h3, h4, h5, h6, h7⟩ := hR
  have m2 := hm.1 2 (by decide) (by decide) (by decide) (by unfold scM; omega)
  have m7 := hm.1 7 (by decide) (by decide) (by decide) (by unfold scM; omega)
  have m13 := hm.1 13 (by decide) (by decide) (by decide) (by unfold scM; omega)
  have c0 := hc 0 (by decide) (by decide) (by decide) (by unfold scC; omega)
  have c45 := hc 45 (by decide) (by decide) (by decide) (by unfold scC; omega)
  have c46 := hc 46 (by decide) (by decide) (by decide) (by unfold scC; omega)
  have c47 := hc 47 (by decide) (by decide) (by decide) (by unfold scC; omega)
  have c131 := hc 131 (by decide) (by decide) (by decide) (by unfold scC; omega)
  refine ⟨ns, nt, nl, ng, rd, tn, nu, la, np, hW, hP, ?_, ?_, ?_, ?_, ?_⟩
  · unfold TapeR at h3 ⊢
    rw [hm.2 16 (by decide) (by decide), c46, c47, m7]
    exact h3
  · unfold FaultR at h4 ⊢
    rw [hm.2 23 (by decide) (by decide), hm.2 25 (by decide) (by decide), c45]
    exact h4
  · unfold ImgR at h5 ⊢
    rw [hm.2 4 (by decide) (by decide), c0]
    rcases h5 with q | ⟨a1, a2, ns, nt, nl, ng, rd, tn, q⟩
    · exact Or.inl q
    · exact Or.inr ⟨a1, a2, ns, nt, nl, ng, rd, tn, RW_fr q (fun k a1 a2 a3 a4 a5 => hc k (by omega) (by omega) (by omega) (by unfold scC; omega)) m2⟩
  · unfold MarkR at h6 ⊢
    rw [m13]; exact h6
  · unfold AllR at h7 ⊢
    rw [c0, c131]; exact h7
theorem Past_0 {nt la : Nat} {Sc Sm : pS} (h1 : Sm 0 3 = 0) (h2 : Sc 65 0 = 0) (h3 : Sc 65 1 = nI la) (hla : la < 8) : PastR 0 la nt Sc Sm := ⟨by decide, hla, h1, h2, h3, fun j hj => absurd hj (Nat.not_lt_zero _)⟩
theorem row_m {wj wn wn' cq : Nat → Int32} {nt : Nat} {no no' : Nat → Int32} (h : rowOK wj wn cq nt no) (hn : nt ≤ 8) (h1 : ∀ i, i < 60 → wn' i = wn i) (h2 : ∀ t, t < 8 → no' t = no t) : rowOK wj wn' cq nt no' := by
  obtain ⟨rd, tn, nl, nl2, nx, m, a1, a2, a3, a4, a5, a6, a7, a8, a9, a10, a11, a12, a13, a14, a15, a16, a17, a18, a19, a20, a21, a22, a23⟩ := h
  refine ⟨rd, tn, nl, nl2, nx, m, a1, a2, a3, a4, a5, a6, a7, a8, by rw [h1 2 (by decide)]; exact a9, by rw [h2 tn (by omega)]; exact a10, a11, a12, a13, a14, a15, a16, a17, a18, a19, a20, a21, by rw [h1 _ (by omega)]; exact a22, fun t ht hne f hf => by rw [h1 _ (by omega)]; exact a23 t ht hne f hf⟩
theorem Past_m {nu la nt : Nat} {Sc Sm T U : pS} (h : PastR nu la nt Sc Sm) (hn : nt ≤ 8) (h1 : U 0 3 = Sm 0 3) (h2 : U 3 = Sm 3) (h3 : ∀ j, j < 60 → U 1 j = Sm 1 j) (h4 : ∀ j, 82 ≤ j → j < 90 → U 1 j = Sm 1 j) (h5 : T 65 = Sc 65) (h6 : ∀ k, 67 ≤ k → k < 75 → T k = Sc k) : PastR nu la nt T U := by
  obtain ⟨p1, p2, p3, p4, p5, p6⟩ := h
  refine ⟨p1, p2, by rw [h1]; exact p3, by rw [h5]; exact p4, by rw [h5]; exact p5, fun j hj => ?_⟩
  rw [h2, h6 _ (by omega) (by omega)]
  refine row_m (p6 j hj) hn (fun i hi => ?_) (fun t ht => h4 _ (by omega) (by omega))
  by_cases e : j = 0
  · rw [if_pos e, if_pos e]; exact h3 i hi
  · rw [if_neg e, if_neg e]
/-- comparisons with a literal -/
theorem xlt (m : Int32) {a b : Nat} (hm : m = nI b) (h : a < b) (hb : b < 2 ^ 31) : nI a < m := by subst hm; exact nI_lt h hb
theorem xle (m : Int32) {a b : Nat} (hm : m = nI b) (h : a ≤ b) (hb : b < 2 ^ 31) : nI a ≤ m := by subst hm; exact nI_le h hb
theorem xnl (m : Int32) {a b : Nat} (hm : m = nI b) (h : b < a) (ha : a < 2 ^ 31) : ¬ nI a ≤ m := by subst hm; exact nI_ge h ha
theorem xne (m : Int32) {a b : Nat} (hm : m = nI b) (h : a ≠ b) (ha : a < 2 ^ 31) (hb : b < 2 ^ 31) : ¬ nI a = m := by subst hm; exact fun e => h (nI_inj e ha hb)
section WnU
variable {Sm : pS} {ns nt nl ng rd tn : Nat}
theorem Wn_ng {x : Nat} (h : Wn 1 Sm ns nt nl ng rd tn) (hx : x ≤ 60) : Wn 1 (sU Sm 1 69 (nI x)) ns nt nl x rd tn := by
  obtain ⟨h1, h2, h3, h4, h5, h6, h7, h8, h9, h10, h11, h12, h13, h14, h15⟩ := h
  refine ⟨h1, h2, h3, hx, h5, h6, ?_, ?_, ?_, sU_s _ _ _ _, ?_, ?_, ?_, ?_, ?_⟩ <;> rw [sU_n (by decide)] <;> assumption
theorem Wn_nl {x : Nat} (h : Wn 1 Sm ns nt nl ng rd tn) (hx : x ≤ 100) : Wn 1 (sU Sm 1 2 (nI x)) ns nt x ng rd tn := by
  obtain ⟨h1, h2, h3, h4, h5, h6, h7, h8, h9, h10, h11, h12, h13, h14, h15⟩ := h
  refine ⟨h1, h2, hx, h4, h5, h6, ?_, ?_, sU_s _ _ _ _, ?_, ?_, ?_, ?_, ?_, ?_⟩ <;> rw [sU_n (by decide)] <;> assumption
theorem Wn_rt {x y : Nat} (h : Wn 1 Sm ns nt nl ng rd tn) (hx : x ≤ 6) (hy : y < nt ∨ (y = 0 ∧ nt = 0 ∧ x = 0)) : Wn 1 (sU (sU Sm 1 0 (nI x)) 1 1 (nI y)) ns nt nl ng x y := by
  obtain ⟨h1, h2, h3, h4, h5, h6, h7, h8, h9, h10, h11, h12, h13, h14, h15⟩ := h
  refine ⟨h1, h2, h3, h4, hx, hy, ?_, ?_, ?_, ?_, ?_, sU_s _ _ _ _, ?_, ?_, ?_⟩
  · rw [sU_n (by decide), sU_n (by decide)]; assumption
  · rw [sU_n (by decide), sU_n (by decide)]; assumption
  · rw [sU_n (by decide), sU_n (by decide)]; assumption
  · rw [sU_n (by decide), sU_n (by decide)]; assumption
  · rw [sU_n (by decide), sU_s]
  · rw [sU_n (by decide), sU_n (by decide)]; assumption
  · rw [sU_n (by decide), sU_n (by decide)]; assumption
  · rw [sU_n (by decide), sU_n (by decide)]; assumption
theorem Wn_tn {y : Nat} (h : Wn 1 Sm ns nt nl ng rd tn) (hy : y < nt) : Wn 1 (sU Sm 1 1 (nI y)) ns nt nl ng rd y := by
  obtain ⟨h1, h2, h3, h4, h5, h6, h7, h8, h9, h10, h11, h12, h13, h14, h15⟩ := h
  refine ⟨h1, h2, h3, h4, h5, Or.inl hy, ?_, ?_, ?_, ?_, ?_, sU_s _ _ _ _, ?_, ?_, ?_⟩ <;> rw [sU_n (by decide)] <;> assumption
theorem Wn_day {v : Int32} (h : Wn 1 Sm ns nt nl ng rd tn) (hv : isN v 10000) : Wn 1 (sU Sm 1 66 v) ns nt nl ng rd tn := by
  obtain ⟨h1, h2, h3, h4, h5, h6, h7, h8, h9, h10, h11, h12, h13, h14, h15⟩ := h
  refine ⟨h1, h2, h3, h4, h5, h6, ?_, ?_, ?_, ?_, ?_, ?_, by rw [sU_s]; exact hv, ?_, ?_⟩ <;> rw [sU_n (by decide)] <;> assumption
theorem Wn_o {k j : Nat} {v : Int32} (h : Wn 1 Sm ns nt nl ng rd tn) (hj : k ≠ 1 ∨ (j ≠ 0 ∧ j ≠ 1 ∧ j ≠ 2 ∧ j ≠ 62 ∧ j ≠ 63 ∧ j ≠ 66 ∧ j ≠ 67 ∧ j ≠ 68 ∧ j ≠ 69)) : Wn 1 (sU Sm k j v) ns nt nl ng rd tn := by
  obtain ⟨h1, h2, h3, h4, h5, h6, h7, h8, h9, h10, h11, h12, h13, h14, h15⟩ := h
  refine ⟨h1, h2, h3, h4, h5, h6, ?_, ?_, ?_, ?_, ?_, ?_, ?_, ?_, ?_⟩ <;> rw [sU_n (by omega)] <;> assumption
end WnU

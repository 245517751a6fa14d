/-! how likely a mark is reached -/
def CR (R : Nat → Int32) (t A a cnt : Nat) (Sc Sm T U : pS) : Prop := (fC Sc T ∧ T 119 = R) ∧ fM Sm U ∧ T 119 5 = nI 15 ∧ T 119 6 = nI a ∧ T 119 7 = nI cnt ∧ T 119 8 = Sm 1 (7 + 7 * t) + nI A ∧ (∀ c, c < 10 → T 120 c = U 16 c ∧ (U 16 c = 0 ∨ U 16 c = 1)) ∧ (∃ x y z w th, AV 121 T x y z w (Sm 1 (4 + 7 * t)) th (Sm 1 (6 + 7 * t) / 100) (Sm 1 0)) ∧ ∀ n w, 1 ≤ n → n < A → w < 1000 → T (124 + n) w = U 14 (1001 * n + w)
theorem CR_s {R : Nat → Int32} {t A a cnt : Nat} {Sc Sm T U T' U' : pS} (h : CR R t A a cnt Sc Sm T U) (hA : ∃ x y z w th, AV 121 T' x y z w (Sm 1 (4 + 7 * t)) th (Sm 1 (6 + 7 * t) / 100) (Sm 1 0)) (hT : ∀ k, k ≠ 122 → k ≠ 21 → T' k = T k) (hU : ∀ k, k ≠ 8 → k ≠ 9 → U' k = U k) : CR R t A a cnt Sc Sm T' U' := by
  obtain ⟨h1, h2, h3, h4, h5, h6, h7, -, h9⟩ := h
  refine ⟨⟨fun k hk => ?_, by rw [hT 119 (by decide) (by decide)]; exact h1.2⟩, ⟨fun k k0 hk => ?_, fun j hj => ?_⟩, ?_, ?_, ?_, ?_, fun c hc => ?_, hA, fun n w a b c => ?_⟩
  · unfold scC at hk
    rw [hT k (by omega) (by omega)]; exact h1.1 k hk
  · rw [hU k (fun e => hk (by unfold scM; omega)) (fun e => hk (by unfold scM; omega))]; exact h2.1 k k0 hk
  · rw [hU 0 (by decide) (by decide)]; exact h2.2 j hj
  · rw [hT 119 (by decide) (by decide)]; exact h3
  · rw [hT 119 (by decide) (by decide)]; exact h4
  · rw [hT 119 (by decide) (by decide)]; exact h5
  · rw [hT 119 (by decide) (by decide)]; exact h6
  · rw [hT 120 (by decide) (by decide), hU 16 (by decide) (by decide)]; exact h7 c hc
  · rw [hT _ (by omega) (by omega), hU 14 (by decide) (by decide)]; exact h9 n w a b c
theorem CR_1 {R : Nat → Int32} {t A a cnt j : Nat} {v : Int32} {Sc Sm T U : pS} (h : CR R t A a cnt Sc Sm T U) (hj : j < 5) : CR (fun i => if i = j then v else R i) t A a cnt Sc Sm (sU T 119 j v) U := by
  obtain ⟨h1, h2, h3, h4, h5, h6, h7, h8, h9⟩ := h
  have e : ∀ k, k ≠ 119 → sU T 119 j v k = T k := fun k hk => sU_ne hk
  refine ⟨⟨fun k hk => ?_, ?_⟩, h2, by rw [sU_n (by omega)]; exact h3, by rw [sU_n (by omega)]; exact h4, by rw [sU_n (by omega)]; exact h5, by rw [sU_n (by omega)]; exact h6, fun c hc => by rw [e 120 (by decide)]; exact h7 c hc, ?_, fun n w a b c => by rw [e _ (by omega)]; exact h9 n w a b c⟩
  · rw [e k (fun q => hk (by unfold scC; omega))]; exact h1.1 k hk
  · funext i
    rw [sU_get, h1.2]
    by_cases q : i = j
    · rw [if_pos ⟨rfl, q⟩, if_pos q]
    · rw [if_neg (fun p => q p.2), if_neg q]
  · unfold AV at h8 ⊢
    simpa only [e 122 (by decide), Nat.reduceAdd] using h8
theorem CR_m {R : Nat → Int32} {t A a cnt n w : Nat} {x y : Int32} {Sc Sm T U : pS} (h : CR R t A a cnt Sc Sm T U) (hn : 1 ≤ n) (hA : n < A) (hA6 : A ≤ 6) (hw : w < 1000) : CR R t A a cnt Sc Sm (sU T (124 + n) w x) (sU (sU U 14 (1001 * n + w) x) 15 (1001 * n + w) y) := by
  obtain ⟨h1, h2, h3, h4, h5, h6, h7, h8, h9⟩ := h
  have e : ∀ k, k ≠ 124 + n → sU T (124 + n) w x k = T k := fun k hk => sU_ne hk
  have e' : ∀ k, k ≠ 14 → k ≠ 15 → sU (sU U 14 (1001 * n + w) x) 15 (1001 * n + w) y k = U k := fun k a b => by rw [sU_ne b, sU_ne a]
  refine ⟨⟨fun k hk => ?_, by rw [e 119 (by omega)]; exact h1.2⟩, ⟨fun k k0 hk => ?_, fun j hj => ?_⟩, by rw [e 119 (by omega)]; exact h3, by rw [e 119 (by omega)]; exact h4, by rw [e 119 (by omega)]; exact h5, by rw [e 119 (by omega)]; exact h6, fun c hc => by rw [e 120 (by omega), e' 16 (by decide) (by decide)]; exact h7 c hc, ?_, fun m v a b c => ?_⟩
  · rw [e k (fun q => hk (by unfold scC; omega))]; exact h1.1 k hk
  · rw [e' k (fun q => hk (by unfold scM; omega)) (fun q => hk (by unfold scM; omega))]; exact h2.1 k k0 hk
  · rw [e' 0 (by decide) (by decide)]; exact h2.2 j hj
  · unfold AV at h8 ⊢
    simpa only [e 122 (by omega), Nat.reduceAdd] using h8
  · rw [sU_n (k := 15) (by omega)]
    by_cases q : m = n ∧ v = w
    · rw [q.1, q.2, sU_s, sU_s]
    · rw [sU_n (by omega), sU_n (by omega)]
      exact h9 m v a b c
theorem L_step {γ δ : Type} {R : Nat → Int32} {ns t A a cnt n c : Nat} {Sc Sm T U : pS} {w : Int32} {rc : pS → Nat → Int32 → Int32 → Option (Int32 × pS)} {rc' : pS → Int32 → Int32 → Int32 → Int32 → Int32 → Option (Int32 × pS)} {f : Int32 → pS → Option γ} {g : Int32 → pS → Option δ} {Q : γ → δ → Prop}
    (hV : VR ns Sc Sm) (ht : t < 8) (hA : A ≤ 6) (hn : 1 ≤ n) (hc : c < 10) (h : CR R t A a cnt Sc Sm T U) (hw : isN w 1001)
    (hrc : ∀ T U w, CR R t A a cnt Sc Sm T U → isN w 1001 → R2 (rc T 119 (nI (n - 1)) w) (rc' U (nI t) (nI (n - 1)) (nI A) w (nI a)) (fun p q => p.1 = q.1 ∧ CR R t A a cnt Sc Sm p.2 q.2))
    (k : ∀ v T' U', CR R t A a cnt Sc Sm T' U' → R2 (f v T') (g v U') Q) :
    R2 (bB2 (B1_by rc T 119 (nI c) (nI n) w) f)
      (bB (F12_armFacts U (nI t) (nI (54 + 5 * c)) 0 (nI a) w (Sm 1 (7 + 7 * t) + nI A - nI n)) fun S_14 =>
        bB2 (F12_overOf S_14) fun r_15 S_16 =>
        bB2 (F12_wearOf S_16) fun r_17 S_18 =>
        bG (vp_in ((nI (54 + 5 * c) - 54) / 5) 10) <|
        if (S_18 16 (((nI (54 + 5 * c) - 54) / 5).toNatClampNeg)) = 1 then
          bB2 (rc' S_18 (nI t) (nI n - 1) (nI A) (F12_lesser 1000 (w + r_17)) (nI a)) fun r_21 S_22 =>
          g ((1000000 - (1000 * r_15)) + (((((1000000 - (1000000 - (1000 * r_15)) : Int32).toInt64) * ((r_21 : Int32).toInt64)) / 1000000 : Int64).toInt32)) S_22
        else
          bB2 (rc' S_18 (nI t) (nI n - 1) (nI A) (F12_lesser 1000 (w + r_17)) (nI a)) fun r_21 S_22 =>
          g (0 + (((((1000000 - 0 : Int32).toInt64) * ((r_21 : Int32).toInt64)) / 1000000 : Int64).toInt32)) S_22) Q := by
  obtain ⟨h1, h2, h3, h4, h5, h6, h7, ⟨x0, y0, z0, w0, th0, h8⟩, h9⟩ := id h
  have u1 : U 1 = Sm 1 := h2.1 1 (by decide) (by unfold scM; omega)
  let T1 := F0_askState (F0_askThrow T 121 (nI (54 + 5 * c)) 0 (nI a)) 121 w (Sm 1 (7 + 7 * t) + nI A - nI n)
  let U1 := af U t (nI (54 + 5 * c)) 0 (nI a) w (Sm 1 (7 + 7 * t) + nI A - nI n)
  have T1k : ∀ k, k ≠ 122 → T1 k = T k := fun k hk => by
    show F0_askState _ 121 _ _ k = _
    rw [st_ne (by omega), thr_ne (by omega)]
  have hA1 : AV 121 T1 (nI (54 + 5 * c)) 0 (nI a) w (Sm 1 (4 + 7 * t)) (Sm 1 (7 + 7 * t) + nI A - nI n) (Sm 1 (6 + 7 * t) / 100) (Sm 1 0) := AV_st (AV_thr h8)
  have hU1k : ∀ k, k ≠ 9 → U1 k = U k := fun k hk => af_ne hk
  have hCR : ∀ T' U', T' 122 = T1 122 → (∀ k, k ≠ 122 → k ≠ 21 → T' k = T k) → (∀ k, k ≠ 8 → k ≠ 9 → U' k = U k) → CR R t A a cnt Sc Sm T' U' := fun T' U' a1 a2 a3 => CR_s h ⟨_, _, _, _, _, AV_c hA1 a1⟩ a2 a3
  have hlaw : ∀ T' U', (∀ k, k ≠ 122 → k ≠ 21 → T' k = T k) → (∀ k, k ≠ 8 → k ≠ 9 → U' k = U k) → LR 15 1 1 T' U' ∧ T' 15 0 = U' 1 641 := by
    intro T' U' a1 a2
    have q := VR_fr hV h1.1 h2
    refine ⟨LR_fr q.2.2.2.2.1 (fun i _ _ => a1 _ (by omega) (by omega)) (a2 1 (by decide) (by decide)), ?_⟩
    rw [a1 15 (by decide) (by decide), a2 1 (by decide) (by decide)]
    exact q.2.1 641 15 0 rfl (by decide)
  have hAF1 : AF 121 T1 U1 := AF_of (by rw [u1]; exact hA1)
  obtain ⟨l1, l2⟩ := hlaw T1 U1 (fun k b _ => T1k k b) (fun k _ b => hU1k k b)
  obtain ⟨⟨r15, T2⟩, ⟨_, U2⟩, k1, k2, k3, -, k5, k6⟩ := L_arm (A := 121) (w := 0) (by decide) l1 l2 (by decide) hAF1
  simp only at k3 k5 k6
  subst k3
  have e54 : (nI (54 + 5 * c) - 54) / 5 = nI c := by
    rw [show (54 : Int32) = nI 54 from rfl, show (5 : Int32) = nI 5 from rfl, pk_sub (by omega), pk_div (by omega) (by omega) (by omega)]
    congr 1; omega
  have k2' : F12_lawSays U1 1 24 0 1000 = some (r15, U2) := k2
  have hU2k : ∀ k, k ≠ 8 → k ≠ 9 → U2 k = U k := fun k b1 b2 => by rw [k6 k b1, hU1k k b2]
  have en : nI n - 1 = nI (n - 1) := by rw [show (1 : Int32) = nI 1 from rfl, pk_sub hn]
  unfold B1_by F1_choice
  simp only [bL_d]
  rw [armF ht, bB_s, over_d]
  have hc9 : ¬ nI c < 0 := nI_pos (by omega)
  have hc10 : ¬ (10 : Int32) ≤ nI c := nge 10 (b := 10) rfl hc (by decide)
  rw [if_neg hc9, if_neg hc10, bG_t (vp_in_nI hc (by decide)), nI_clamp (by omega)]
  simp only [Nat.reduceAdd]
  have eT1 : F0_askState (F0_askThrow T 121 (54 + 5 * nI c) 0 (T 119 6)) 121 w (F0_askThrow T 121 (54 + 5 * nI c) 0 (T 119 6) 119 8 - nI n) = T1 := by
    rw [thr_ne (by decide), h4, h6, show (54 : Int32) = nI 54 from rfl, show (5 : Int32) = nI 5 from rfl, pk_mul, nI_add]
  rw [eT1, show af U t (nI (54 + 5 * c)) 0 (nI a) w (Sm 1 (7 + 7 * t) + nI A - nI n) = U1 from rfl, k2', bB2_s, wear_d, e54]
  have T1120 : T1 120 = T 120 := T1k 120 (by decide)
  rw [T1120]
  obtain ⟨q1, q2⟩ := h7 c hc
  have T2k : ∀ k, k ≠ 122 → k ≠ 21 → T2 k = T k := fun k b1 b2 => by rw [k5 k b2, T1k k b1]
  -- then: the elbow
  have go : ∀ (T3 : pS) (v : Int32), T3 122 = T1 122 → (∀ k, k ≠ 122 → k ≠ 21 → T3 k = T k) → R2
      (bB2 (bG (pmu (T3 119 5) = some 15) <| bB2 (F0_tell T3 121 15 1) fun r_5 S_6 => bB2 (rc S_6 119 (nI n - 1) (jmin 1000 (w + r_5))) fun r_7 S_8 => some (v + (((((1000000 - v : Int32).toInt64) * ((r_7 : Int32).toInt64)) / 1000000 : Int64).toInt32), S_8)) f)
      (bB2 (F12_lawSays U2 1 25 0 1000) fun r_17 S_18 => bB2 (rc' S_18 (nI t) (nI n - 1) (nI A) (F12_lesser 1000 (w + r_17)) (nI a)) fun r_21 S_22 => g (v + (((((1000000 - v : Int32).toInt64) * ((r_21 : Int32).toInt64)) / 1000000 : Int64).toInt32)) S_22) Q := by
    intro T3 v a1 a2
    obtain ⟨l1, l2⟩ := hlaw T3 U2 a2 hU2k
    have hAF3 : AF 121 T3 U2 := AF_c hAF1 a1 (k6 9 (by decide))
    obtain ⟨⟨r17, T4⟩, ⟨_, U4⟩, j1, j2, j3, j4, j5, j6⟩ := L_arm (A := 121) (w := 1) (by decide) l1 l2 (by decide) hAF3
    simp only at j3 j4 j5 j6
    subst j3
    have j1' : F0_tell T3 121 15 1 = some (r17, T4) := j1
    have j2' : F12_lawSays U2 1 25 0 1000 = some (r17, U4) := j2
    rw [a2 119 (by decide) (by decide), h3, bG_t (by decide), j1', bB2_s, j2', bB2_s, les, en]
    have h' : CR R t A a cnt Sc Sm T4 U4 := hCR T4 U4 (by rw [j5 122 (by decide), a1]) (fun k b1 b2 => by rw [j5 k b2, a2 k b1 b2]) (fun k b1 b2 => by rw [j6 k b1, hU2k k b1 b2])
    obtain ⟨⟨v1, T5⟩, ⟨v2, U5⟩, p1, p2, hv, h5⟩ := hrc T4 U4 _ h' (wear_m hw j4)
    simp only at hv h5
    subst hv
    rw [p1, p2, bB2_s, bB2_s, bB2_s]
    exact k _ _ _ h5
  obtain ⟨r17, U4, m1, m2⟩ : ∃ r17 U4, F12_lawSays U2 1 25 0 1000 = some (r17, U4) ∧ U4 16 = U 16 := by
    obtain ⟨l1, l2⟩ := hlaw T1 U2 (fun k b _ => T1k k b) hU2k
    have hAF3 : AF 121 T1 U2 := AF_c hAF1 rfl (k6 9 (by decide))
    obtain ⟨⟨r17, T4⟩, ⟨r', U4⟩, j1, j2, j3, j4, j5, j6⟩ := L_arm (A := 121) (w := 1) (by decide) l1 l2 (by decide) hAF3
    have j7 : U4 16 = U2 16 := j6 16 (by decide)
    exact ⟨r', U4, j2, by rw [j7, hU2k 16 (by decide) (by decide)]⟩
  rw [m1, bB2_s, bG_t (vp_in_nI hc (by decide)), nI_clamp (by omega), m2, q1]
  rcases q2 with q2 | q2
  · rw [q2, if_pos rfl, if_neg (by decide)]
    have := go T1 0 rfl (fun k b _ => T1k k b)
    rw [m1, bB2_s] at this
    exact this
  · rw [q2, if_neg (by decide), if_pos rfl]
    have k1' : F0_tell T1 121 15 0 = some (r15, T2) := k1
    rw [T1k 119 (by decide), h3, bG_t (by decide), k1', bB2_s]
    have := go T2 (1000000 - 1000 * r15) (k5 122 (by decide)) T2k
    rw [m1, bB2_s] at this
    exact this
theorem T1_e (d : Nat) : (T1_greatest (d + 1)).1 = B1_greatest ((T1_greatest d).2) := by rw [T1_greatest]
theorem T1_f (d : Nat) : (T1_greatest (d + 1)).2 = B1_by ((T1_greatest d).1) := by rw [T1_greatest]
theorem T12_e (d : Nat) : T12_chanceBy (d + 1) = B12_chanceBy (T12_chanceBy d) := by rw [T12_chanceBy]
theorem bL_n {α β : Sort _} (v : α) (f : α → β) : bL v f = f v := Eq.trans (Eq.refl _) (Eq.refl _)
theorem u3_n {α₁ α₂ α₃ β : Type _} (f : α₁ → α₂ → α₃ → β) (a : α₁) (b : α₂) (c : α₃) : u3 f (a, b, c) = f a b c := Eq.trans (Eq.refl _) (Eq.refl _)
theorem u4_n {α₁ α₂ α₃ α₄ β : Type _} (f : α₁ → α₂ → α₃ → α₄ → β) (a : α₁) (b : α₂) (c : α₃) (d : α₄) : u4 f (a, b, c, d) = f a b c d := Eq.trans (Eq.refl _) (Eq.refl _)
/-- how many of the forces to choose from a power has -/
def cntF (pw : Nat) : Nat := if pw < 54 then 0 else (pw - 54) / 5 + 1
/-- the loop over the forces, with n throws left -/
theorem L_gre {R : Nat → Int32} {ns t A a pw : Nat} {Sc Sm : pS} (hV : VR ns Sc Sm) (ht : t < 8) (hA : A ≤ 6) (hpw : pw < 100) (e4 : Sm 1 (4 + 7 * t) = nI pw) : ∀ (n d d' : Nat) (T U : pS) (w : Int32), n < A → 2 * n + 1 ≤ d → n + 1 ≤ d' → CR R t A a (cntF pw) Sc Sm T U → isN w 1001 →
    R2 ((T1_greatest d).1 T 119 (nI n) w) (T12_chanceBy d' U (nI t) (nI n) (nI A) w (nI a)) (fun p q => p.1 = q.1 ∧ CR R t A a (cntF pw) Sc Sm p.2 q.2) := by
  intro n
  induction n with
  | zero =>
    intro d d' T U w hn hd hd' h hw
    obtain ⟨d, rfl⟩ : ∃ e, d = e + 1 := ⟨d - 1, by omega⟩
    obtain ⟨d', rfl⟩ : ∃ e, d' = e + 1 := ⟨d' - 1, by omega⟩
    rw [T1_e, T12_e]
    unfold B1_greatest B12_chanceBy
    rw [if_pos (by decide), if_pos (by decide)]
    exact r2_s ⟨rfl, h⟩
  | succ n ih =>
    intro d d' T U w hn hd hd' h hw
    obtain ⟨d, rfl⟩ : ∃ e, d = e + 2 := ⟨d - 2, by omega⟩
    obtain ⟨d', rfl⟩ : ∃ e, d' = e + 1 := ⟨d' - 1, by omega⟩
    obtain ⟨wn, hwn, rfl⟩ := hw
    rw [T1_e, T1_f, T12_e]
    unfold B1_greatest B12_chanceBy
    rw [if_neg (nI_nle (by omega) (by omega)), if_neg (nge 7 (b := 7) rfl (by omega) (by decide)), if_neg (nI_pos (by omega)), if_neg (nI_ne0 (by omega) (by omega))]
    by_cases hw : wn = 1000
    · subst hw
      rw [if_neg (by decide), if_pos (by decide)]
      exact r2_s ⟨rfl, h⟩
    · have hx : nI (1001 * (n + 1) + wn) = nI (1001 * (n + 1) + wn) := rfl
      rw [if_pos (show nI wn < 1000 from nI_lt (b := 1000) (by omega) (by decide)), if_neg (show ¬ nI wn = 1000 from fun q => hw (nI_inj (b := 1000) q (by omega) (by decide))), bG_t (vp_in_nI (by omega) (by decide)), bG_t (vp_in_nI (by omega) (by decide)), nI_clamp (by omega), nI_clamp (by omega)]
      simp only [bL_n]
      rw [show (1001 : Int32) * nI (n + 1) + nI wn = nI (1001 * (n + 1) + wn) by rw [show (1001 : Int32) = nI 1001 from rfl, pk_mul, nI_add], bG_t (vp_in_nI (n := 1001 * (n + 1) + wn) (by omega) (by decide)), nI_clamp (n := 1001 * (n + 1) + wn) (by omega), show 119 + 5 + (n + 1) = 124 + (n + 1) by omega, h.2.2.2.2.2.2.2.2 (n + 1) wn (by omega) hn (by omega)]
      by_cases hm : U 14 (1001 * (n + 1) + wn) = -1
      · rw [if_pos hm, if_pos hm]
        refine r2_B (P := fun (z : Int32 × pS) (z' : Int32 × Int32 × pS) => z.1 = z'.1 ∧ CR R t A a (cntF pw) Sc Sm z.2 z'.2.2) (r2_P (cntF pw) (fun i s s' => ∃ (v f : Int32) (T U : pS), s = (v, nI i, T) ∧ s' = (v, f, nI (54 + 5 * i), U) ∧ CR R t A a (cntF pw) Sc Sm T U) ?_ ?_ ?_) ?_
        · exact ⟨0, 0, T, U, rfl, rfl, h⟩
        · rintro i s s' hi ⟨v, f, T, U, rfl, rfl, h⟩
          have hcnt : cntF pw ≤ 10 := by unfold cntF; split <;> omega
          have hi9 : i < 10 ∧ 54 + 5 * i ≤ pw := by unfold cntF at hi; split at hi <;> omega
          have u1 : U 1 = Sm 1 := h.2.1.1 1 (by decide) (by unfold scM; omega)
          simp only [u3_n, u4_n]
          have e7 : U 1 (7 + 7 * t) = Sm 1 (7 + 7 * t) := by rw [u1]
          rw [h.2.2.2.2.1, if_neg (nI_ge hi (by omega)), own0 _ ht, bB_s, u1, e4, if_neg (by
            rw [les, show (99 : Int32) = nI 99 from rfl]
            unfold jmin
            by_cases hq : pw < 99
            · rw [if_pos (nI_lt hq (by omega))]
              exact nI_nlt (by omega) (by omega)
            rw [if_neg (nI_nlt (by omega) (by omega))]
            exact nI_nlt (by omega) (by omega)), own3 _ ht, bB_s, e7]
          have hs := L_step (Q := (sumR (fun (s : Int32 × Int32 × pS) (s' : Int32 × Int32 × Int32 × pS) => ∃ v f T U, s = (v, nI (i + 1), T) ∧ s' = (v, f, nI (54 + 5 * (i + 1)), U) ∧ CR R t A a (cntF pw) Sc Sm T U) fun (z : Int32 × pS) (z' : Int32 × Int32 × pS) => z.fst = z'.fst ∧ CR R t A a (cntF pw) Sc Sm z.snd z'.snd.snd)) (n := n + 1) (c := i) (w := nI wn) (rc := (T1_greatest d).1) (rc' := T12_chanceBy d') (f := fun r_12 S_13 => some (Sum.inl (jmax v r_12, nI i + 1, S_13))) (g := fun x S_22 => if v < x then some (.inl (x, nI (54 + 5 * i), nI (54 + 5 * i) + 5, S_22)) else some (.inl (v, f, nI (54 + 5 * i) + 5, S_22))) hV ht hA (by omega) hi9.1 h ⟨wn, hwn, rfl⟩
            (fun T' U' w' h' hw' => ih d d' T' U' w' (by omega) (by omega) (by omega) h' hw')
            (fun x T' U' h' => by
              have hj : jmax v x = if v < x then x else v := rfl
              have e5 : nI (54 + 5 * i) + 5 = nI (54 + 5 * (i + 1)) := by
                rw [show (5 : Int32) = nI 5 from rfl, nI_add, show 54 + 5 * i + 5 = 54 + 5 * (i + 1) by omega]
              show R2 (some (Sum.inl (jmax v x, nI i + 1, T'))) (if v < x then some (Sum.inl (x, nI (54 + 5 * i), nI (54 + 5 * i) + 5, U')) else some (Sum.inl (v, f, nI (54 + 5 * i) + 5, U'))) _
              rw [hj, e5, nI_1]
              by_cases hvx : v < x
              · rw [if_pos hvx, if_pos hvx]
                exact r2_s ⟨x, _, T', U', rfl, rfl, h'⟩
              · rw [if_neg hvx, if_neg hvx]
                exact r2_s ⟨v, _, T', U', rfl, rfl, h'⟩)
          exact hs
        · rintro s s' ⟨v, f, T, U, rfl, rfl, h⟩
          have u1 : U 1 = Sm 1 := h.2.1.1 1 (by decide) (by unfold scM; omega)
          simp only [u3_n, u4_n]
          have hcnt : cntF pw ≤ 10 ∧ pw < 54 + 5 * cntF pw := by unfold cntF; split <;> omega
          rw [h.2.2.2.2.1, if_pos (nI_le (Nat.le_refl _) (by omega)), own0 _ ht, bB_s, u1, e4, if_pos (by
            rw [les, show (99 : Int32) = nI 99 from rfl]
            unfold jmin
            by_cases hq : pw < 99
            · rw [if_pos (nI_lt hq (by omega))]
              exact nI_lt (by omega) (by omega)
            rw [if_neg (nI_nlt (by omega) (by omega))]
            exact nI_lt (by omega) (by omega))]
          exact r2_s ⟨rfl, h⟩
        · rintro ⟨x, T'⟩ ⟨y, f, U'⟩ ⟨hx, h'⟩
          simp only at hx h'
          subst hx
          simp only [u2_d, u3_d]
          rw [bG_t (vp_in_nI (by omega) (by decide)), bG_t (vp_in_nI (by omega) (by decide)), bG_t (vp_in_nI (by omega) (by decide)), bG_t (vp_in_nI (by omega) (by decide))]
          exact r2_s ⟨rfl, CR_m h' (by omega) (by omega) hA (by omega)⟩
      · rw [if_neg hm, if_neg hm]
        rw [bG_t (vp_in_nI (by omega) (by decide)), bG_t (vp_in_nI (by omega) (by decide)), bG_t (vp_in_nI (by omega) (by decide))]
        exact r2_s ⟨rfl, h⟩

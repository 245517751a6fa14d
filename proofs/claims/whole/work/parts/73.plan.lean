section
/-! reading a plan, side by side -/
theorem nI_ex (x : Int32) : ∃ n, x = nI n := by
  refine ⟨x.toBitVec.toNat, Int32.toBitVec_inj.mp (BitVec.eq_of_toNat_eq ?_)⟩
  show _ = (BitVec.ofNat 32 x.toBitVec.toNat).toNat
  rw [BitVec.toNat_ofNat]
  have := x.toBitVec.isLt
  omega
def tmP (K : Nat) : Bool := decide (K = 1 ↔ tmN 2 K = 2) && decide (K = 2 ↔ tmN 2 K = 0) && decide (tmN 2 K < 400) && decide (tmN 2 K = 7 ↔ K = 256) && decide (tmN 2 K = 9 ↔ K = 257) && decide (tmN 2 K = 10 ↔ K = 258) && decide (tmN 2 K = 11 ↔ K = 259) && decide (tmN 2 K = 12 ↔ K = 260) && decide (tmN 2 K = 8 ↔ K = 261) && decide (tmN 2 K = 159 ↔ K = 59)
theorem tmP_t : ∀ K : Fin 273, tmP K.val = true := by decide +kernel
theorem tmP_f {K : Nat} (h : K < 273) : (K = 1 ↔ tmN 2 K = 2) ∧ (K = 2 ↔ tmN 2 K = 0) ∧ tmN 2 K < 400 ∧ (tmN 2 K = 7 ↔ K = 256) ∧ (tmN 2 K = 9 ↔ K = 257) ∧ (tmN 2 K = 10 ↔ K = 258) ∧ (tmN 2 K = 11 ↔ K = 259) ∧ (tmN 2 K = 12 ↔ K = 260) ∧ (tmN 2 K = 8 ↔ K = 261) ∧ (tmN 2 K = 159 ↔ K = 59) := by
  have := tmP_t ⟨K, h⟩
  unfold tmP at this
  simp only [Bool.and_eq_true, decide_eq_true_iff] at this
  obtain ⟨⟨⟨⟨⟨⟨⟨⟨⟨h1, h2⟩, h3⟩, h4⟩, h5⟩, h6⟩, h7⟩, h8⟩, h9⟩, h10⟩ := this
  exact ⟨h1, h2, h3, h4, h5, h6, h7, h8, h9, h10⟩
def PQ (b : Nat → Nat) (n m : Nat) (K V P A : Nat → Nat) (fa j : Nat) (T U : pS) : Prop := T 45 1 = 0 ∧ T 45 6 = nI fa ∧ CT n m K V P j T ∧ byR b n U ∧ U 0 12 = nI 2 ∧ U 0 17 = nI (A (j + 1)) ∧ U 0 18 = nI (tmN 2 (K j)) ∧ U 0 19 = nI (P j) ∧ (K j = 1 → U 0 20 = nI (V j)) ∧ T 51 1 = nI 0 ∧ T 51 0 = nI 0
def fV (U U' : pS) : Prop := (∀ k', k' ≠ 0 → k' ≠ 6 → U' k' = U k') ∧ ∀ j, (j < 17 ∨ (22 < j ∧ j ≠ 26)) → U' 0 j = U 0 j
theorem fV_r (U : pS) : fV U U := ⟨fun _ _ _ => rfl, fun _ _ => rfl⟩
theorem fV_t {U U' U'' : pS} (h : fV U U') (h' : fV U' U'') : fV U U'' := ⟨fun k a b => (h'.1 k a b).trans (h.1 k a b), fun j hj => (h'.2 j hj).trans (h.2 j hj)⟩
def fG (T T' : pS) : Prop := ∀ k', k' ≠ 46 → k' ≠ 58 → T' k' = T k'
theorem fG_r (T : pS) : fG T T := fun _ _ _ => rfl
theorem fG_t {T T' T'' : pS} (h : fG T T') (h' : fG T' T'') : fG T T'' := fun k a b => (h' k a b).trans (h k a b)
theorem fG_C {T T' : pS} (h : fG T T') : frC T T' := fun k hk => h k (by omega) (by omega)
theorem Q_next {b : Nat → Nat} {n m fa j : Nat} {K V P A : Nat → Nat} {T U : pS} (hK : Toks b n 2 m K V P A) (h : PQ b n m K V P A fa j T U) (hk : K j ≠ 2) : ∃ T' U', F6_next T 46 = some T' ∧ F12_next0 U = some U' ∧ PQ b n m K V P A fa (j + 1) T' U' ∧ (∀ k', k' ≠ 46 → T' k' = T k') ∧ fN U U' ∧ j + 1 < m := by
  obtain ⟨h1, h2, h3, h4, h5, h6, h7, h8, h9, h10, h11⟩ := h
  have hjm := h3.2.2.1
  have hj : j + 1 < m := by
    have := (tkG hK hjm).2.1
    by_cases z : j + 1 = m
    · exact absurd (this.mpr z) hk
    · omega
  obtain ⟨T', e1, e2, e3, e4⟩ := L_nextC h3 hj
  obtain ⟨U', g1, g2, g3, g4, g5, g6⟩ := L_next0 (hK.2.2.2.2.2.1 (j + 1) hj) h4 h6 h5 (by decide)
  exact ⟨T', U', e1, g1, ⟨by rw [e3 45 (by decide)]; exact h1, by rw [e3 45 (by decide)]; exact h2, e2, byR_f h4 g2, (g2.2 12 (by omega)).trans h5, g3, g4, g5, g6, by rw [e3 51 (by decide)]; exact h10, by rw [e3 51 (by decide)]; exact h11⟩, e3, g2, hj⟩
theorem Q_fail {b : Nat → Nat} {n m fa j x : Nat} {K V P A : Nat → Nat} {T U : pS} (h : PQ b n m K V P A fa j T U) (hx : 0 < x) (hx4 : x < 4) : ∃ U', F12_bad U (nI x) = (0, U') ∧ fV U U' ∧ frC T (F5_fail T 45 (nI x)) ∧ BD n m K V P fa (F5_fail T 45 (nI x)) (U' 0 21) (U' 0 22) := by
  obtain ⟨h1, h2, h3, h4, h5, h6, h7, h8, h9, h10, h11⟩ := h
  unfold F12_bad F5_fail
  simp only [bL_d, Nat.reduceAdd]
  rw [if_pos h1]
  refine ⟨_, rfl, ⟨fun k a _ => by rw [sU_ne a, sU_ne a], fun j hj => by rw [sU_n (by omega), sU_n (by omega)]⟩, fun k hk => by rw [sU_ne (by omega), sU_ne (by omega)], ?_, ?_, ?_, ?_, ⟨j, ?_⟩, ⟨0, by decide, ?_⟩, ⟨0, by decide, ?_⟩⟩
  · rw [sU_n (by omega), sU_s, sU_n (by omega), sU_s]
  · rw [sU_s, sU_s, sU_n (by omega), sU_n (by omega), h8]
    exact h3.2.2.2.2.2.2.1
  · rw [sU_n (by omega), sU_s]; exact nI_ne0 hx (by omega)
  · rw [sU_n (by omega), sU_n (by omega)]; exact h2
  · unfold CT at h3 ⊢
    rw [sU_ne (k' := 46) (by decide), sU_ne (k' := 46) (by decide), sU_ne (k' := 48) (by decide), sU_ne (k' := 48) (by decide), sU_ne (k' := 49) (by decide), sU_ne (k' := 49) (by decide), sU_ne (k' := 50) (by decide), sU_ne (k' := 50) (by decide)]
    exact h3
  · rw [sU_ne (by decide), sU_ne (by decide)]; exact h10
  · rw [sU_ne (by decide), sU_ne (by decide)]; exact h11
theorem fN_V {U U' : pS} (h : fN U U') : fV U U' := ⟨fun k a _ => h.1 k a, fun j hj => h.2 j (by omega)⟩
theorem n46_G {T T' : pS} (h : ∀ k', k' ≠ 46 → T' k' = T k') : fG T T' := fun k a _ => h k a
theorem PQ_58 {b : Nat → Nat} {n m fa j i i' : Nat} {K V P A : Nat → Nat} {T U : pS} {v v' : Int32} (h : PQ b n m K V P A fa j T U) : PQ b n m K V P A fa j (sU T 58 i v) (sU U 6 i' v') := by
  obtain ⟨h1, h2, h3, h4, h5, h6, h7, h8, h9, h10, h11⟩ := h
  refine ⟨by rw [sU_ne (by decide)]; exact h1, by rw [sU_ne (by decide)]; exact h2, ?_, ⟨by rw [sU_ne (by decide)]; exact h4.1, h4.2.1, fun j hj => by rw [sU_ne (by decide)]; exact h4.2.2 j hj⟩, by rw [sU_ne (by decide)]; exact h5, by rw [sU_ne (by decide)]; exact h6, by rw [sU_ne (by decide)]; exact h7, by rw [sU_ne (by decide)]; exact h8, fun z => by rw [sU_ne (by decide)]; exact h9 z, by rw [sU_ne (by decide)]; exact h10, by rw [sU_ne (by decide)]; exact h11⟩
  unfold CT at h3 ⊢
  rw [sU_ne (k' := 46) (by decide), sU_ne (k' := 48) (by decide), sU_ne (k' := 49) (by decide), sU_ne (k' := 50) (by decide)]
  exact h3
theorem PQ_26 {b : Nat → Nat} {n m fa j : Nat} {K V P A : Nat → Nat} {T U : pS} {v : Int32} (h : PQ b n m K V P A fa j T U) : PQ b n m K V P A fa j T (sU U 0 26 v) := by
  obtain ⟨h1, h2, h3, h4, h5, h6, h7, h8, h9, h10, h11⟩ := h
  have e : ∀ x, x ≠ 26 → sU U 0 26 v 0 x = U 0 x := fun x hx => by rw [sU_n (by omega)]
  exact ⟨h1, h2, h3, ⟨(e 16 (by decide)).trans h4.1, h4.2.1, fun j hj => by rw [sU_ne (by decide)]; exact h4.2.2 j hj⟩, (e 12 (by decide)).trans h5, (e 17 (by decide)).trans h6, (e 18 (by decide)).trans h7, (e 19 (by decide)).trans h8, fun z => (e 20 (by decide)).trans (h9 z), h10, h11⟩
theorem PQ_6 {b : Nat → Nat} {n m fa j i' : Nat} {K V P A : Nat → Nat} {T U : pS} {v' : Int32} (h : PQ b n m K V P A fa j T U) : PQ b n m K V P A fa j T (sU U 6 i' v') := by
  obtain ⟨h1, h2, h3, h4, h5, h6, h7, h8, h9, h10, h11⟩ := h
  exact ⟨h1, h2, h3, ⟨by rw [sU_ne (by decide)]; exact h4.1, h4.2.1, fun j hj => by rw [sU_ne (by decide)]; exact h4.2.2 j hj⟩, by rw [sU_ne (by decide)]; exact h5, by rw [sU_ne (by decide)]; exact h6, by rw [sU_ne (by decide)]; exact h7, by rw [sU_ne (by decide)]; exact h8, fun z => by rw [sU_ne (by decide)]; exact h9 z, h10, h11⟩
theorem fV_6 (U : pS) (j : Nat) (v : Int32) : fV U (sU U 6 j v) := ⟨fun k a b => sU_ne b, fun j hj => by rw [sU_n (by omega)]⟩
theorem fV_26 (U : pS) (v : Int32) : fV U (sU U 0 26 v) := ⟨fun k a b => sU_ne a, fun j hj => by rw [sU_n (by omega)]⟩
theorem Q_part {T : pS} {o w : Nat} {v : Int32} (h : T 45 5 = nI o) (ho : o < 12) (hw : w < 5) : F5_part T 45 (nI w) v = some (sU T 58 (5 * o + w) v) := by
  unfold F5_part
  simp only [bL_d, Nat.reduceAdd]
  rw [h, show (5 : Int32) = nI 5 from rfl, pk_mul, nI_add, if_neg (nI_pos (by omega)), if_neg (nge 60 (b := 60) rfl (by omega) (by decide)), bG_N (by omega) (by decide), nI_clamp (by omega), Nat.mul_comm o 5]
theorem B_part {n m : Nat} {K V P : Nat → Nat} {fa : Nat} {T : pS} {f p a v : Int32} (h : BD n m K V P fa T f p) : ∃ T', F5_part T 45 a v = some T' ∧ BD n m K V P fa T' f p ∧ frC T T' := by
  obtain ⟨h1, h2, h3, h4, ⟨j, h5⟩, h6, h7⟩ := id h
  unfold F5_part
  simp only [bL_d, Nat.reduceAdd]
  by_cases q : T 45 5 * 5 + a < 0
  · rw [if_pos q]; exact ⟨T, rfl, h, frC_r T⟩
  · obtain ⟨x, hx, e⟩ := nI_of q
    rw [if_neg q, e]
    by_cases q2 : x < 60
    · rw [if_neg (nge 60 (b := 60) rfl q2 (by decide)), bG_N q2 (by decide)]
      refine ⟨_, rfl, ⟨by rw [sU_ne (by decide)]; exact h1, by rw [sU_ne (by decide)]; exact h2, h3, by rw [sU_ne (by decide)]; exact h4, ⟨j, ?_⟩, by rw [sU_ne (by decide)]; exact h6, by rw [sU_ne (by decide)]; exact h7⟩, frC_5 (by omega)⟩
      unfold CT at h5 ⊢
      rw [sU_ne (k' := 46) (by decide), sU_ne (k' := 48) (by decide), sU_ne (k' := 49) (by decide), sU_ne (k' := 50) (by decide)]
      exact h5
    · rw [if_pos (yle 60 (b := 60) rfl (by omega) hx)]
      exact ⟨T, rfl, h, frC_r T⟩
/-- a number and its place, on both sides -/
noncomputable def tNu (U : pS) (w hi : Int32) : Option (Int32 × pS) := bB2 (F12_number U 0 hi) fun r_3 S_4 => if r_3 = 0 then some ((0 : Int32), S_4) else bG (vp_in ((5 * (S_4 0 15)) + w) 60) <| bL (sU S_4 6 (((5 * (S_4 0 15)) + w).toNatClampNeg) (S_4 0 26)) fun S_5 => some ((1 : Int32), S_5)
theorem told_d (U : pS) (w y hi : Int32) : F12_told U w y hi = bB2 (F12_need U y) fun r S => if r = 0 then some ((0 : Int32), S) else tNu S w hi := by
  unfold F12_told tNu
  rfl
theorem Q_np {b : Nat → Nat} {n m fa j o w N : Nat} {hi : Int32} {K V P A : Nat → Nat} {T U : pS} (hK : Toks b n 2 m K V P A) (h : PQ b n m K V P A fa j T U) (ho : o < 12) (hw : w < 5) (eT : T 45 5 = nI o) (eU : U 0 15 = nI o) (hN : N ≤ 10000) (hhi : ∀ v, v ≤ 9999 → (nI v ≤ hi ↔ v < N)) :
    (∃ v T1 U', v < N ∧ F5_number T 45 0 hi = some (nI v, T1) ∧ F5_part T1 45 (nI w) (nI v) = some (sU T1 58 (5 * o + w) (nI v)) ∧ tNu U (nI w) hi = some (1, sU U' 6 (5 * o + w) (nI v)) ∧ PQ b n m K V P A fa (j + 1) (sU T1 58 (5 * o + w) (nI v)) (sU U' 6 (5 * o + w) (nI v)) ∧ fG T T1 ∧ T1 58 = T 58 ∧ fV U U' ∧ U' 6 = U 6) ∨
    ∃ T1 U', F5_number T 45 0 hi = some (0, T1) ∧ tNu U (nI w) hi = some (0, U') ∧ frC T T1 ∧ fV U U' ∧ BD n m K V P fa T1 (U' 0 21) (U' 0 22) := by
  have hj : j < m := h.2.2.1.2.2.1
  have tkk := tkG hK hj
  have t := tmP_f tkk.2.2.2.2
  have hT : T 46 1 = nI (K j) := h.2.2.1.2.2.2.2.1
  have hU : U 0 18 = nI (tmN 2 (K j)) := h.2.2.2.2.2.2.1
  unfold tNu F5_number F12_number
  simp only [bL_d, Nat.reduceAdd]
  rw [hT, hU]
  by_cases q1 : K j = 1
  · have hv : T 46 2 = nI (V j) := h.2.2.1.2.2.2.2.2.1 q1
    have hv2 : U 0 20 = nI (V j) := h.2.2.2.2.2.2.2.2.1 q1
    have hV := tkk.2.2.2.1 q1
    rw [if_pos (show nI (K j) = 1 by rw [q1]; rfl), if_pos (show nI (tmN 2 (K j)) = 2 by rw [t.1.mp q1]; rfl), hv, hv2, if_neg (nI_pos (by omega))]
    by_cases q2 : V j < N
    · obtain ⟨T1, U1, a1, a2, a3, a4, a5, a6⟩ := Q_next hK (PQ_26 (v := nI (V j)) h) (by omega)
      have e26 : U1 0 26 = nI (V j) := (a5.2 26 (by omega)).trans (sU_s _ _ _ _)
      have e15 : U1 0 15 = nI o := (a5.2 15 (by omega)).trans (by rw [sU_n (by omega)]; exact eU)
      have e45 : T1 45 5 = nI o := by rw [a4 45 (by decide)]; exact eT
      rw [if_pos ((hhi _ hV).mpr q2), a1, bB_s, isIn_d, if_pos (show 0 ≤ nI (V j) ∧ nI (V j) ≤ hi from ⟨nI_pos' (by omega), (hhi _ hV).mpr q2⟩), if_neg n10, a2, bB_s, bB2_s, if_neg n10, e15, show (5 : Int32) = nI 5 from rfl, pk_mul, nI_add, bG_N (by omega) (by decide), nI_clamp (by omega), e26]
      exact Or.inl ⟨V j, T1, U1, q2, rfl, Q_part e45 ho hw, rfl, PQ_58 a3, n46_G a4, a4 58 (by decide), fV_t (fV_26 U _) (fN_V a5), (a5.1 6 (by decide)).trans (sU_ne (by decide))⟩
    · obtain ⟨U', a1, a2, a3, a4⟩ := Q_fail (x := 2) h (by decide) (by decide)
      have a1' : F12_bad U 2 = (0, U') := a1
      have hno : ¬ nI (V j) ≤ hi := fun z => q2 ((hhi _ hV).mp z)
      rw [if_neg hno, isIn_d, if_neg (show ¬ (0 ≤ nI (V j) ∧ nI (V j) ≤ hi) from fun z => hno z.2), if_pos rfl, a1', bT2_s, bB2_s, if_pos (by decide)]
      exact Or.inr ⟨_, U', rfl, rfl, a3, a2, a4⟩
  · obtain ⟨U', a1, a2, a3, a4⟩ := Q_fail (x := 1) h (by decide) (by decide)
    have a1' : F12_bad U 1 = (0, U') := a1
    rw [if_neg (show ¬ nI (K j) = 1 from fun z => q1 (nI_inj (b := 1) z (by omega) (by decide))), if_neg (show ¬ nI (tmN 2 (K j)) = 2 from fun z => q1 (t.1.mpr (nI_inj (b := 2) z (by omega) (by decide)))), a1', bT2_s, bB2_s, if_pos (by decide)]
    exact Or.inr ⟨_, U', rfl, rfl, a3, a2, a4⟩
theorem Q_need {b : Nat → Nat} {n m fa j x y : Nat} {K V P A : Nat → Nat} {T U : pS} (hK : Toks b n 2 m K V P A) (h : PQ b n m K V P A fa j T U) (hx : x ≠ 2) (hx4 : x < 400) (hy : y < 400) (hxy : tmN 2 (K j) = y ↔ K j = x) :
    (∃ T' U', F5_take T 45 (nI x) = some T' ∧ F12_need U (nI y) = some (1, U') ∧ PQ b n m K V P A fa (j + 1) T' U' ∧ (∀ k', k' ≠ 46 → T' k' = T k') ∧ fN U U') ∨ ∃ T' U', F5_take T 45 (nI x) = some T' ∧ F12_need U (nI y) = some (0, U') ∧ frC T T' ∧ fV U U' ∧ BD n m K V P fa T' (U' 0 21) (U' 0 22) := by
  have hj : j < m := h.2.2.1.2.2.1
  have tkk := (tkG hK hj).2.2.2.2
  have t := tmP_f tkk
  have hT : T 46 1 = nI (K j) := h.2.2.1.2.2.2.2.1
  have hU : U 0 18 = nI (tmN 2 (K j)) := h.2.2.2.2.2.2.1
  unfold F5_take F12_need
  simp only [bL_d, Nat.reduceAdd]
  rw [hT, hU]
  by_cases q : K j = x
  · obtain ⟨T1, U1, a1, a2, a3, a4, a5, a6⟩ := Q_next hK h (by omega)
    rw [if_pos (by rw [q]), if_pos (by rw [hxy.mpr q]), a1, a2, bB_s, bB_s]
    exact Or.inl ⟨T1, U1, rfl, rfl, a3, a4, a5⟩
  · obtain ⟨U', a1, a2, a3, a4⟩ := Q_fail (x := 1) h (by decide) (by decide)
    have a1' : F12_bad U 1 = (0, U') := a1
    rw [if_neg (fun z => q (nI_inj z (by omega) (by omega))), if_neg (fun z => q (hxy.mp (nI_inj z (by omega) (by omega)))), a1', bT2_s]
    exact Or.inr ⟨_, U', rfl, rfl, a3, a2, a4⟩
theorem Q_yes {b : Nat → Nat} {n m fa j x : Nat} {K V P A : Nat → Nat} {T U T' : pS} (h : PQ b n m K V P A fa j T U) (hk : K j = x) (hn : F6_next T 46 = some T') : F5_taken T 45 (nI x) = some (1, T') := by
  unfold F5_taken
  rw [if_pos h.1, show 45 + 1 = 46 from rfl, show T 46 1 = nI (K j) from h.2.2.1.2.2.2.2.1, hk, if_pos rfl, hn, bB_s]
theorem Q_no {b : Nat → Nat} {n m fa j x : Nat} {K V P A : Nat → Nat} {T U : pS} (hK : Toks b n 2 m K V P A) (h : PQ b n m K V P A fa j T U) (hk : K j ≠ x) (hx : x < 400) : F5_taken T 45 (nI x) = some (0, T) := by
  have tkk := (tkG hK h.2.2.1.2.2.1).2.2.2.2
  unfold F5_taken
  rw [if_pos h.1, show 45 + 1 = 46 from rfl, show T 46 1 = nI (K j) from h.2.2.1.2.2.2.2.1, if_neg (fun q => hk (nI_inj q (by omega) (by omega)))]
/-! an order, in steps -/
noncomputable def tO5 (T : pS) : Option pS := bB2 (F5_taken T 45 260) fun r S => if r = 0 then (bB (F5_part S 45 4 (-1)) fun S' => some S') else bB2 (F5_number S 45 0 9999) fun r S => bB (F5_part S 45 4 r) fun S' => some S'
noncomputable def tO4 (T : pS) : Option pS := bB2 (F5_taken T 45 259) fun r S => if r = 0 then (bB (F5_part S 45 3 0) fun S' => tO5 S') else bB2 (F5_number S 45 0 9) fun r S => bB (F5_part S 45 3 r) fun S' => tO5 S'
noncomputable def tO3 (T : pS) (sp : Int32) : Option pS := bB (F5_take T 45 258) fun S => bB2 (F5_number S 45 0 (sp - 1)) fun r S => bB (F5_part S 45 2 r) fun S => tO4 S
noncomputable def tO2 (T : pS) (sp : Int32) : Option pS := bB (F5_take T 45 257) fun S => bB2 (F5_number S 45 0 60) fun r S => bB (F5_part S 45 1 r) fun S => tO3 S sp
theorem throw_d (T : pS) (sp : Int32) : F5_throwOrder T 45 sp = bB2 (F5_number T 45 0 99) fun r S => bB (F5_part S 45 0 r) fun S => tO2 S sp := by
  unfold F5_throwOrder tO2 tO3 tO4 tO5
  rfl
noncomputable def rT5 (S : pS) : Option (Int32 × pS) := if (S 0 18) = 12 then bB2 (F12_told S 4 12 9999) fun r S => if r = 0 then some ((0 : Int32), S) else some ((1 : Int32), S) else some ((1 : Int32), S)
noncomputable def rT4 (S : pS) : Option (Int32 × pS) := if (S 0 18) = 11 then bB2 (F12_told S 3 11 9) fun r S => if r = 0 then some ((0 : Int32), S) else rT5 S else rT5 S
noncomputable def rT3 (S : pS) : Option (Int32 × pS) := bB2 (F12_told S 2 10 ((S 1 67) - 1)) fun r S => if r = 0 then some ((0 : Int32), S) else rT4 S
noncomputable def rT2 (S : pS) : Option (Int32 × pS) := bB2 (F12_told S 1 9 60) fun r S => if r = 0 then some ((0 : Int32), S) else rT3 S
theorem aThrow_d (U : pS) : F12_aThrow U = bB2 (F12_told U 0 7 99) fun r S => if r = 0 then some ((0 : Int32), S) else rT2 S := by
  unfold F12_aThrow rT2 rT3 rT4 rT5
  rfl
theorem Bt5 {b : Nat → Nat} {n r m : Nat} {K V P A : Nat → Nat} (hK : Toks b n r m K V P A) {fa : Nat} {T : pS} {f p : Int32} (h : BD n m K V P fa T f p) : ∃ T', tO5 T = some T' ∧ BD n m K V P fa T' f p ∧ frC T T' := by
  obtain ⟨T', a1, a2, a3⟩ := B_part (a := 4) (v := -1) h
  unfold tO5
  rw [B_taken h, bB2_s, if_pos rfl, a1, bB_s]
  exact ⟨T', rfl, a2, a3⟩
theorem Bt4 {b : Nat → Nat} {n r m : Nat} {K V P A : Nat → Nat} (hK : Toks b n r m K V P A) {fa : Nat} {T : pS} {f p : Int32} (h : BD n m K V P fa T f p) : ∃ T', tO4 T = some T' ∧ BD n m K V P fa T' f p ∧ frC T T' := by
  obtain ⟨T1, a1, a2, a3⟩ := B_part (a := 3) (v := 0) h
  obtain ⟨T', b1, b2, b3⟩ := Bt5 hK a2
  unfold tO4
  rw [B_taken h, bB2_s, if_pos rfl, a1, bB_s, b1]
  exact ⟨T', rfl, b2, frC_t a3 b3⟩
theorem Bt3 {b : Nat → Nat} {n r m : Nat} {K V P A : Nat → Nat} (hK : Toks b n r m K V P A) {fa : Nat} {T : pS} {f p sp : Int32} (h : BD n m K V P fa T f p) : ∃ T', tO3 T sp = some T' ∧ BD n m K V P fa T' f p ∧ frC T T' := by
  obtain ⟨T1, a1, a2, a3⟩ := B_take (x := 258) hK h (by decide) (by decide)
  obtain ⟨v, T2, b1, b2, b3⟩ := B_number (a := 0) (c := sp - 1) hK a2
  obtain ⟨T3, c1, c2, c3⟩ := B_part (a := 2) (v := v) b2
  obtain ⟨T', d1, d2, d3⟩ := Bt4 hK c2
  have a1' : F5_take T 45 258 = some T1 := a1
  unfold tO3
  rw [a1', bB_s, b1, bB2_s, c1, bB_s, d1]
  exact ⟨T', rfl, d2, frC_t a3 (frC_t b3 (frC_t c3 d3))⟩
theorem Bt2 {b : Nat → Nat} {n r m : Nat} {K V P A : Nat → Nat} (hK : Toks b n r m K V P A) {fa : Nat} {T : pS} {f p sp : Int32} (h : BD n m K V P fa T f p) : ∃ T', tO2 T sp = some T' ∧ BD n m K V P fa T' f p ∧ frC T T' := by
  obtain ⟨T1, a1, a2, a3⟩ := B_take (x := 257) hK h (by decide) (by decide)
  obtain ⟨v, T2, b1, b2, b3⟩ := B_number (a := 0) (c := 60) hK a2
  obtain ⟨T3, c1, c2, c3⟩ := B_part (a := 1) (v := v) b2
  obtain ⟨T', d1, d2, d3⟩ := Bt3 (sp := sp) hK c2
  have a1' : F5_take T 45 257 = some T1 := a1
  unfold tO2
  rw [a1', bB_s, b1, bB2_s, c1, bB_s, d1]
  exact ⟨T', rfl, d2, frC_t a3 (frC_t b3 (frC_t c3 d3))⟩
end

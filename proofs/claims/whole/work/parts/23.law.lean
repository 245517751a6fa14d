/-! a law: the class' count and the reference's comesTo, side by side -/
def stk (f g : Nat → Int32) : List Bool → Prop
  | [] => True
  | b :: r => f r.length = g r.length ∧ (b = true → f r.length = 0 ∨ f r.length = 1) ∧ stk f g r
theorem upd_s {f : Nat → Int32} {j : Nat} {v : Int32} : upd f j v j = v := if_pos rfl
theorem upd_n {f : Nat → Int32} {j i : Nat} {v : Int32} (h : i ≠ j) : upd f j v i = f i := if_neg h
theorem stk_upd {f g : Nat → Int32} {j : Nat} {v w : Int32} : ∀ {st : List Bool}, stk f g st → st.length ≤ j → stk (upd f j v) (upd g j w) st
  | [], _, _ => trivial
  | b :: r, h, hj => by
    have hl : r.length ≠ j := by simp at hj; omega
    refine ⟨by rw [upd_n hl, upd_n hl]; exact h.1, by rw [upd_n hl]; exact h.2.1, stk_upd h.2.2 (by simp at hj; omega)⟩
theorem stepC {c n : Nat} (hc : c < 16) (hn : n ≤ 9999) : nI (c + 16 * n) &&& 15 = nI c ∧ nI (c + 16 * n) >>> (4 &&& 31) = nI n := by
  refine ⟨?_, ?_⟩
  · rw [pk_andN (m := 15) (by omega) 4 rfl, show (c + 16 * n) % 2 ^ 4 = c by omega]
  · rw [pk_shrN (by omega) (4 &&& 31) 4 rfl, show (c + 16 * n) / 2 ^ 4 = n by omega]
theorem joinE {c : Nat} (x y : Int32) (h : 2 ≤ c ∧ c ≠ 5 ∧ c ≠ 9 ∧ c ≤ 11) : F3_join (nI c) x y = F12_both (nI (21 + c)) x y := by
  have : c = 2 ∨ c = 3 ∨ c = 4 ∨ c = 6 ∨ c = 7 ∨ c = 8 ∨ c = 10 ∨ c = 11 := by omega
  unfold F3_join F12_both
  rcases this with rfl | rfl | rfl | rfl | rfl | rfl | rfl | rfl <;> rfl
theorem joinT {c : Nat} (x y : Int32) (h : 6 ≤ c ∧ c ≠ 9 ∧ c ≤ 11) (hb : 10 ≤ c → (x = 0 ∨ x = 1) ∧ (y = 0 ∨ y = 1)) : F12_both (nI (21 + c)) x y = 0 ∨ F12_both (nI (21 + c)) x y = 1 := by
  have : c = 6 ∨ c = 7 ∨ c = 8 ∨ c = 10 ∨ c = 11 := by omega
  rcases this with rfl | rfl | rfl | rfl | rfl
  · show (if y ≤ x then (0 : Int32) else 1) = 0 ∨ (if y ≤ x then (0 : Int32) else 1) = 1
    by_cases q : y ≤ x
    · rw [if_pos q]; exact Or.inl rfl
    · rw [if_neg q]; exact Or.inr rfl
  · show (if x = y then (1 : Int32) else 0) = 0 ∨ (if x = y then (1 : Int32) else 0) = 1
    by_cases q : x = y
    · rw [if_pos q]; exact Or.inr rfl
    · rw [if_neg q]; exact Or.inl rfl
  · show (if x ≤ y then (0 : Int32) else 1) = 0 ∨ (if x ≤ y then (0 : Int32) else 1) = 1
    by_cases q : x ≤ y
    · rw [if_pos q]; exact Or.inl rfl
    · rw [if_neg q]; exact Or.inr rfl
  · obtain ⟨h1, h2⟩ := hb (by omega)
    show (x &&& y) = 0 ∨ (x &&& y) = 1
    rcases h1 with rfl | rfl <;> rcases h2 with rfl | rfl <;> decide
  · obtain ⟨h1, h2⟩ := hb (by omega)
    show (x ||| y) = 0 ∨ (x ||| y) = 1
    rcases h1 with rfl | rfl <;> rcases h2 with rfl | rfl <;> decide
/-- what a step of a kind does to the stack of kinds -/
theorem ty1_p {c : Nat} {st st' : List Bool} (hc : c ≤ 1) (h : ty1 c st = some st') : st.length < 32 ∧ st' = false :: st := by
  unfold ty1 at h
  rw [if_pos hc] at h
  by_cases q : st.length < 32
  · rw [if_pos q] at h; exact ⟨q, (Option.some.inj h).symm⟩
  · rw [if_neg q] at h; cases h
theorem ty1_by {st st' : List Bool} (h : ty1 5 st = some st') : ∃ b r, st = b :: r ∧ st' = false :: r := by
  cases st with
  | nil => cases h
  | cons b r => exact ⟨b, r, rfl, (Option.some.inj h).symm⟩
theorem ty1_not {st st' : List Bool} (h : ty1 9 st = some st') : ∃ r, st = true :: r ∧ st' = true :: r := by
  match st, h with
  | true :: r, h => exact ⟨r, rfl, (Option.some.inj h).symm⟩
theorem ty1_bin {c : Nat} {st st' : List Bool} (hc : 2 ≤ c ∧ c ≠ 5 ∧ c ≠ 9 ∧ c ≤ 11) (h : ty1 c st = some st') : ∃ b b' r, st = b :: b' :: r ∧ st' = (decide (6 ≤ c)) :: r ∧ (10 ≤ c → b = true ∧ b' = true) := by
  have : c = 2 ∨ c = 3 ∨ c = 4 ∨ c = 6 ∨ c = 7 ∨ c = 8 ∨ c = 10 ∨ c = 11 := by omega
  match st, h with
  | [], h => rcases this with rfl | rfl | rfl | rfl | rfl | rfl | rfl | rfl <;> cases h
  | [x], h => rcases this with rfl | rfl | rfl | rfl | rfl | rfl | rfl | rfl <;> first | (cases h; done) | (cases x <;> cases h)
  | b :: b' :: r, h =>
    refine ⟨b, b', r, rfl, ?_⟩
    rcases this with rfl | rfl | rfl | rfl | rfl | rfl | rfl | rfl
    · exact ⟨(Option.some.inj h).symm, fun q => absurd q (by decide)⟩
    · exact ⟨(Option.some.inj h).symm, fun q => absurd q (by decide)⟩
    · exact ⟨(Option.some.inj h).symm, fun q => absurd q (by decide)⟩
    · exact ⟨(Option.some.inj h).symm, fun q => absurd q (by decide)⟩
    · exact ⟨(Option.some.inj h).symm, fun q => absurd q (by decide)⟩
    · exact ⟨(Option.some.inj h).symm, fun q => absurd q (by decide)⟩
    · cases b <;> cases b' <;> first | (cases h; done) | exact ⟨(Option.some.inj h).symm, fun q => ⟨rfl, rfl⟩⟩
    · cases b <;> cases b' <;> first | (cases h; done) | exact ⟨(Option.some.inj h).symm, fun q => ⟨rfl, rfl⟩⟩
theorem L_count {K k k3 n3 a m : Nat} {Sc Sm : pS} {kd nm : Nat → Nat} {tb : Bool} (hk : k < 3) (hs : ∀ p, a ≤ p → p < a + m → SR k (kd p) (nm p) (Sc (K + 5) p) (Sm 1 (836 + 820 * k + 2 * p)) (Sm 1 (836 + 820 * k + 2 * p + 1))) (ham : a + m ≤ 400) (hf : ∀ n, n < nfN k → Sc k3 n = Sm 9 (fmN k n)) (hn3 : nfN k ≤ n3) (hn4 : n3 < 2 ^ 31) (hk3 : k3 ≠ K + 6) (hty : tyN kd a m [] = some [tb]) :
    R2 (F3_count Sc K (nI a) (nI (a + m)) k3 n3) (F12_comesTo Sm (nI k) (nI a) (nI (a + m))) (fun p q => p.1 = q.1 ∧ (tb = true → p.1 = 0 ∨ p.1 = 1) ∧ (∀ k', k' ≠ K + 6 → p.2 k' = Sc k') ∧ (∀ k', k' ≠ 8 → q.2 k' = Sm k')) := by
  unfold F3_count F12_comesTo
  simp only [bL_d]
  refine r2_B (P := fun z (U : pS) => ∃ T : pS, z = .inl (nI 1, T) ∧ T (K + 6) 0 = U 8 0 ∧ (tb = true → T (K + 6) 0 = 0 ∨ T (K + 6) 0 = 1) ∧ (∀ k', k' ≠ K + 6 → T k' = Sc k') ∧ (∀ k', k' ≠ 8 → U k' = Sm k')) (r2_P m (fun i s s' => ∃ (st : List Bool) (T U : pS), s = (nI st.length, nI (a + i), T) ∧ s' = (nI st.length, nI (a + i), U) ∧ tyN kd (a + i) (m - i) st = some [tb] ∧ st.length ≤ 32 ∧ stk (T (K + 6)) (U 8) st ∧ (∀ k', k' ≠ K + 6 → T k' = Sc k') ∧ (∀ k', k' ≠ 8 → U k' = Sm k')) ?_ ?_ ?_) ?_
  · exact ⟨[], Sc, Sm, rfl, rfl, hty, by decide, trivial, fun _ _ => rfl, fun _ _ => rfl⟩
  · rintro i s s' hi ⟨st, T, U, rfl, rfl, ht, hl, hst, hT, hU⟩
    simp only [u3_d]
    obtain ⟨hx, hn, hv⟩ := hs (a + i) (by omega) (by omega)
    have hc11 : kd (a + i) ≤ 11 := by omega
    have e5 : T (K + 5) = Sc (K + 5) := hT _ (by omega)
    have u1 : U 1 = Sm 1 := hU 1 (by decide)
    have u9 : U 9 = Sm 9 := hU 9 (by decide)
    have ek3 : T k3 = Sc k3 := hT _ hk3
    rw [if_neg (nI_ge (by omega) (by omega)), if_neg (nge 400 (b := 400) rfl (by omega) (by omega)), if_neg (nI_ge (by omega) (by omega)), bG_t (vp_in_nI (by omega) (by omega)), bG_t (vp_in_nI (by omega) (by omega)), nI_clamp (n := a + i) (by omega)]
    simp only [e5, u1, u9, hx, stepC (c := kd (a + i)) (by omega) hn, ek3]
    rw [show m - i = (m - (i + 1)) + 1 by omega, tyN] at ht
    obtain ⟨st', ht1, ht2⟩ := Option.bind_eq_some_iff.mp ht
    rcases hv with ⟨hc, h1, h2⟩ | ⟨hc, h0, h1⟩ | ⟨hc, h0, h1, h2⟩ | ⟨hc2, hc5, hc, h1⟩
    · obtain ⟨q1, rfl⟩ := ty1_p (by omega) ht1
      simp only [hc]
      simp (disch := omega) only [lit_I, nI_add, pk_mul, pk_sub, pk_subN, nI_ltI, nI_leI, nI_eq, nI_clamp, bG_N, bG_ne, Nat.reduceEqDiff, reduceCtorEq, Nat.reduceLT, Nat.reduceLeDiff, Nat.reduceAdd, Nat.reduceMul, Nat.reduceSub, if_true, if_false, Nat.lt_irrefl, Nat.le_refl, Nat.add_sub_cancel, Nat.not_lt_zero, q1, h1, h2]
      refine r2_s ?_
      refine ⟨false :: st, _, _, rfl, rfl, ht2, by simp; omega, ⟨?_, nofun, ?_⟩, ?_, ?_⟩
      · rw [sU_at, sU_at, upd_s, upd_s]
      · rw [sU_at, sU_at]
        exact stk_upd hst (Nat.le_refl _)
      · intro k' hk'
        rw [sU_ne hk']; exact hT k' hk'
      · intro k' hk'
        rw [sU_ne hk']; exact hU k' hk'
    · obtain ⟨q1, rfl⟩ := ty1_p (by omega) ht1
      have f1 : fmN k (nm (a + i)) < 20 ∧ 0 < fmN k (nm (a + i)) := by
        unfold nfN at h0
        unfold fmN
        grind
      have f2 := f1.1
      have f3 := f1.2
      have f4 : fmN k (nm (a + i)) ≠ 0 := by omega
      have f5 : ¬ 23 ≤ fmN k (nm (a + i)) := by omega
      have f6 : ¬ n3 ≤ nm (a + i) := by omega
      have f7 := hf _ h0
      simp only [hc]
      simp (disch := omega) only [lit_I, nI_add, pk_mul, pk_sub, pk_subN, nI_ltI, nI_leI, nI_eq, nI_clamp, bG_N, bG_ne, Nat.reduceEqDiff, reduceCtorEq, Nat.reduceLT, Nat.reduceLeDiff, Nat.reduceAdd, Nat.reduceMul, Nat.reduceSub, if_true, if_false, Nat.lt_irrefl, Nat.le_refl, Nat.add_sub_cancel, Nat.not_lt_zero, q1, h1, f4, f5, f6, f7]
      refine r2_s ?_
      refine ⟨false :: st, _, _, rfl, rfl, ht2, by simp; omega, ⟨?_, nofun, ?_⟩, ?_, ?_⟩
      · rw [sU_at, sU_at, upd_s, upd_s]
      · rw [sU_at, sU_at]
        exact stk_upd hst (Nat.le_refl _)
      · intro k' hk'
        rw [sU_ne hk']; exact hT k' hk'
      · intro k' hk'
        rw [sU_ne hk']; exact hU k' hk'
    · rw [hc] at ht1
      obtain ⟨b, r, rfl, rfl⟩ := ty1_by ht1
      have f1 : ¬ nm (a + i) ≤ 0 := by omega
      have f2 : ¬ nm (a + i) = 0 := by omega
      have f3 : ¬ r.length + 1 < 1 := by omega
      simp only [List.length_cons] at hl
      simp only [hc, List.length_cons]
      simp (disch := omega) only [lit_I, nI_add, pk_mul, pk_sub, pk_subN, nI_ltI, nI_leI, nI_eq, nI_clamp, bG_N, bG_ne, Nat.reduceEqDiff, reduceCtorEq, Nat.reduceLT, Nat.reduceLeDiff, Nat.reduceAdd, Nat.reduceMul, Nat.reduceSub, if_true, if_false, Nat.lt_irrefl, Nat.le_refl, Nat.add_sub_cancel, Nat.not_lt_zero, h1, h2, f1, f2, f3]
      rw [bG_t (fun q => q), bG_t (fun q => q)]
      refine r2_s ?_
      refine ⟨false :: r, _, _, rfl, rfl, ht2, by simp; omega, ⟨?_, nofun, ?_⟩, ?_, ?_⟩
      · rw [sU_at, sU_at, upd_s, upd_s, hst.1]
      · rw [sU_at, sU_at]
        exact stk_upd hst.2.2 (Nat.le_refl _)
      · intro k' hk'
        rw [sU_ne hk']; exact hT k' hk'
      · intro k' hk'
        rw [sU_ne hk']; exact hU k' hk'
    · by_cases h9 : kd (a + i) = 9
      · rw [h9] at ht1
        obtain ⟨r, rfl, rfl⟩ := ty1_not ht1
        have f3 : ¬ r.length + 1 < 1 := by omega
        simp only [List.length_cons] at hl
        simp only [h9, List.length_cons] at h1 ⊢
        simp (disch := omega) only [lit_I, nI_add, pk_mul, pk_sub, pk_subN, nI_ltI, nI_leI, nI_eq, nI_clamp, bG_N, bG_ne, Nat.reduceEqDiff, reduceCtorEq, Nat.reduceLT, Nat.reduceLeDiff, Nat.reduceAdd, Nat.reduceMul, Nat.reduceSub, if_true, if_false, Nat.lt_irrefl, Nat.le_refl, Nat.add_sub_cancel, Nat.not_lt_zero, h1, f3]
        refine r2_s ?_
        refine ⟨true :: r, _, _, rfl, rfl, ht2, by simp; omega, ⟨?_, ?_, ?_⟩, ?_, ?_⟩
        · rw [sU_at, sU_at, upd_s, upd_s, hst.1]
        · intro _
          rw [sU_at, upd_s]
          rcases hst.2.1 rfl with q | q
          · rw [q]; exact Or.inr (by decide)
          · rw [q]; exact Or.inl (by decide)
        · rw [sU_at, sU_at]
          exact stk_upd hst.2.2 (Nat.le_refl _)
        · intro k' hk'
          rw [sU_ne hk']; exact hT k' hk'
        · intro k' hk'
          rw [sU_ne hk']; exact hU k' hk'
      · obtain ⟨b, b', r, rfl, rfl, hbb⟩ := ty1_bin ⟨hc2, hc5, h9, hc⟩ ht1
        have f1 : 1 < kd (a + i) := by omega
        have f2 : 23 ≤ 21 + kd (a + i) := by omega
        have f3 : ¬ 21 + kd (a + i) = 26 := by omega
        have f4 : ¬ 21 + kd (a + i) = 30 := by omega
        have f5 : 2 ≤ r.length + 1 + 1 := by omega
        have f6 : ¬ r.length + 1 + 1 < 1 := by omega
        have f7 : r.length + 1 + 1 - 1 = r.length + 1 := by omega
        have f8 : r.length + 1 - 1 = r.length := by omega
        simp only [List.length_cons] at hl
        simp only [List.length_cons]
        simp (disch := omega) only [lit_I, nI_add, pk_mul, pk_sub, pk_subN, nI_ltI, nI_leI, nI_eq, nI_clamp, bG_N, bG_ne, Nat.reduceEqDiff, reduceCtorEq, Nat.reduceLT, Nat.reduceLeDiff, Nat.reduceAdd, Nat.reduceMul, Nat.reduceSub, if_true, if_false, Nat.lt_irrefl, Nat.le_refl, Nat.add_sub_cancel, Nat.not_lt_zero, h1, f1, f2, f3, f4, f5, f6, hc5, h9, f7, f8]
        refine r2_s ?_
        refine ⟨decide (6 ≤ kd (a + i)) :: r, _, _, rfl, rfl, ht2, by simp; omega, ⟨?_, ?_, ?_⟩, ?_, ?_⟩
        · rw [sU_at, sU_at, upd_s, upd_s, joinE _ _ ⟨hc2, hc5, h9, hc⟩]
          have q1 := hst.1
          have q2 := hst.2.2.1
          simp only [List.length_cons] at q1
          rw [q1, q2]
        · intro h6
          have h6 := of_decide_eq_true h6
          rw [sU_at, upd_s, joinE _ _ ⟨hc2, hc5, h9, hc⟩]
          exact joinT _ _ ⟨h6, h9, hc⟩ (fun q => ⟨hst.2.2.2.1 (hbb q).2, hst.2.1 (hbb q).1⟩)
        · rw [sU_at, sU_at]
          exact stk_upd hst.2.2.2.2 (Nat.le_refl _)
        · intro k' hk'
          rw [sU_ne hk']; exact hT k' hk'
        · intro k' hk'
          rw [sU_ne hk']; exact hU k' hk'
  · rintro s s' ⟨st, T, U, rfl, rfl, ht, hl, hst, hT, hU⟩
    simp only [u3_d]
    rw [if_pos (nI_le (Nat.le_refl _) (by omega)), if_pos (nI_le (Nat.le_refl _) (by omega))]
    rw [Nat.sub_self] at ht
    cases (Option.some.inj ht)
    exact r2_s ⟨T, rfl, hst.1, hst.2.1, hT, hU⟩
  · rintro _ U ⟨T, rfl, h1, h2, h3, h4⟩
    simp only [Sum.elim_inl, u2_d, u1_d]
    rw [if_neg (nI_nle (by decide) (by decide)), nI_pred, bG_t (vp_in_nI (by decide) (by decide))]
    exact r2_s ⟨h1, h2, h3, h4⟩
theorem held0 {lo hi : Int32} (h1 : lo ≤ 0) (h2 : 0 ≤ hi) : F12_held 0 lo hi = 0 := by
  unfold F12_held F12_greater F12_lesser
  grind
theorem L_tell {K k k3 n3 w : Nat} {Sc Sm : pS} {lo hi : Int32} (hk : k < 3) (h : LR K k 1 Sc Sm) (hn : Sc K 0 = Sm 1 (640 + k)) (hw : w < 8) (hf : ∀ n, n < nfN k → Sc k3 n = Sm 9 (fmN k n)) (hn3 : nfN k ≤ n3) (hn4 : n3 < 2 ^ 31) (hk3 : k3 ≠ K + 6) (hlo : lo ≤ 0) (hhi : 0 ≤ hi) :
    R2 (F3_tell Sc K (nI w) k3 n3) (F12_lawSays Sm (nI k) (nI (wbN k + w)) lo hi) (fun p q => q.1 = F12_held p.1 lo hi ∧ (∀ k', k' ≠ K + 6 → p.2 k' = Sc k') ∧ (∀ k', k' ≠ 8 → q.2 k' = Sm k')) := by
  obtain ⟨nl, kd, nm, hnl, hln, hl⟩ := h
  have hwb : wbN k ≤ 27 := by unfold wbN; split <;> (try split) <;> omega
  unfold F3_tell F12_lawSays
  simp only [bL_d]
  refine r2_B (P := fun z z' => ∃ T U : pS, (∀ k', k' ≠ K + 6 → T k' = Sc k') ∧ (∀ k', k' ≠ 8 → U k' = Sm k') ∧ ((z = .inl T ∧ z' = .inl U) ∨ ∃ i, i < nl ∧ z = .inr (nI i, T) ∧ z' = .inr (nI (16 * k + i), U))) (r2_P nl (fun i s s' => ∃ (T U : pS), s = (nI i, T) ∧ s' = (nI (16 * k + i), U) ∧ (∀ k', k' ≠ K + 6 → T k' = Sc k') ∧ (∀ k', k' ≠ 8 → U k' = Sm k')) ?_ ?_ ?_) ?_
  · exact ⟨Sc, Sm, rfl, by simp only [lit_I, nI_add, pk_mul, Nat.add_zero], fun _ _ => rfl, fun _ _ => rfl⟩
  · rintro i s s' hi ⟨T, U, rfl, rfl, hT, hU⟩
    obtain ⟨wd, fr, md, tt, l1, l2, l3, l4, l5, l6, l7, l8, l9, l10, l11, l12, l13, l14, l15⟩ := hl i hi
    simp only [u2_d, hT K (by omega), hU 1 (by decide), hT (K + 1) (by omega), hT (K + 2) (by omega), hT (K + 3) (by omega), hT (K + 4) (by omega), hn]
    have g1 : ¬ 16 ≤ i := by omega
    have g2 : ¬ nl ≤ i := by omega
    have g3 : ¬ 16 * k + nl ≤ 16 * k + i := by omega
    simp (disch := omega) only [lit_I, nI_add, pk_mul, pk_sub, pk_subN, nI_ltI, nI_leI, nI_eq, nI_clamp, bG_N, bG_ne, Nat.reduceEqDiff, reduceCtorEq, Nat.reduceLT, Nat.reduceLeDiff, Nat.reduceAdd, Nat.reduceMul, Nat.reduceSub, if_true, if_false, Nat.lt_irrefl, Nat.le_refl, Nat.add_sub_cancel, Nat.not_lt_zero, hln, l2, l3, l4, l6, l8, g1, g2, g3, ← Nat.add_assoc, l5, l7, l9]
    by_cases hwd : wd = w
    · have hwd2 : wbN k + wd = wbN k + w := by rw [hwd]
      rw [if_pos hwd, if_pos hwd2]
      by_cases hmt : tt ≤ md
      · rw [if_pos hmt, if_pos (show tt = md by omega)]
        exact r2_s ⟨T, U, hT, hU, Or.inr ⟨i, hi, rfl, rfl⟩⟩
      · rw [if_neg hmt, if_neg (show ¬ tt = md by omega)]
        have hc := L_count (K := K) (k := k) (k3 := k3) (n3 := n3) (a := md) (m := tt - md) (Sc := T) (Sm := U) (kd := kd) (nm := nm) hk (fun p h1 h2 => by rw [hT (K + 5) (by omega), hU 1 (by decide)]; exact l15 p (by omega) (by omega)) (by omega) (fun n hn => by rw [hT k3 hk3, hU 9 (by decide)]; exact hf n hn) hn3 hn4 hk3 (l14 (by omega))
        rw [show md + (tt - md) = tt by omega] at hc
        refine r2_B2 (P := fun v T' v' U' => v = v' ∧ (v = 0 ∨ v = 1) ∧ (∀ k', k' ≠ K + 6 → T' k' = Sc k') ∧ (∀ k', k' ≠ 8 → U' k' = Sm k')) (r2_m hc (fun p q hq => ⟨hq.1, hq.2.1 rfl, fun k' h' => (hq.2.2.1 k' h').trans (hT k' h'), fun k' h' => (hq.2.2.2 k' h').trans (hU k' h')⟩)) ?_
        rintro v T' v' U' ⟨rfl, hv, hT', hU'⟩
        rcases hv with rfl | rfl
        · rw [if_pos (show (0 : Int32) = nI 0 from rfl), if_neg (by decide)]
          exact r2_s ⟨T', U', rfl, rfl, hT', hU'⟩
        · rw [if_neg (by decide), if_pos (show (1 : Int32) = nI 1 from rfl)]
          exact r2_s ⟨T', U', hT', hU', Or.inr ⟨i, hi, rfl, rfl⟩⟩
    · rw [if_neg hwd, if_neg (show ¬ wbN k + wd = wbN k + w by omega)]
      exact r2_s ⟨T, U, rfl, rfl, hT, hU⟩
  · rintro s s' ⟨T, U, rfl, rfl, hT, hU⟩
    have g3 : 16 * k + nl ≤ 16 * k + nl := Nat.le_refl _
    simp only [u2_d, hT K (by omega), hU 1 (by decide), hn]
    simp (disch := omega) only [lit_I, nI_add, pk_mul, pk_sub, pk_subN, nI_ltI, nI_leI, nI_eq, nI_clamp, bG_N, bG_ne, Nat.reduceEqDiff, reduceCtorEq, Nat.reduceLT, Nat.reduceLeDiff, Nat.reduceAdd, Nat.reduceMul, Nat.reduceSub, if_true, if_false, Nat.lt_irrefl, Nat.le_refl, Nat.add_sub_cancel, Nat.not_lt_zero, hln]
    exact r2_s ⟨T, U, hT, hU, Or.inl ⟨rfl, rfl⟩⟩
  · rintro z z' ⟨T, U, hT, hU, ⟨rfl, rfl⟩ | ⟨i, hi, rfl, rfl⟩⟩
    · simp only [Sum.elim_inl, u1_d]
      exact r2_s ⟨(held0 hlo hhi).symm, hT, hU⟩
    · obtain ⟨wd, fr, md, tt, l1, l2, l3, l4, l5, l6, l7, l8, l9, l10, l11, l12, l13, l14, l15⟩ := hl i hi
      simp only [Sum.elim_inr, u2_d, hT (K + 2) (by omega), hT (K + 3) (by omega), hU 1 (by decide)]
      simp (disch := omega) only [lit_I, nI_add, pk_mul, pk_sub, pk_subN, nI_ltI, nI_leI, nI_eq, nI_clamp, bG_N, bG_ne, Nat.reduceEqDiff, reduceCtorEq, Nat.reduceLT, Nat.reduceLeDiff, Nat.reduceAdd, Nat.reduceMul, Nat.reduceSub, if_true, if_false, Nat.lt_irrefl, Nat.le_refl, Nat.add_sub_cancel, Nat.not_lt_zero, l4, l6, ← Nat.add_assoc, l5, l7]
      have hc := L_count (K := K) (k := k) (k3 := k3) (n3 := n3) (a := fr) (m := md - fr) (Sc := T) (Sm := U) (kd := kd) (nm := nm) hk (fun p h1 h2 => by rw [hT (K + 5) (by omega), hU 1 (by decide)]; exact l15 p (by omega) (by omega)) (by omega) (fun n hn => by rw [hT k3 hk3, hU 9 (by decide)]; exact hf n hn) hn3 hn4 hk3 l13
      rw [show fr + (md - fr) = md by omega] at hc
      refine r2_B2 (P := fun v T' v' U' => v = v' ∧ (∀ k', k' ≠ K + 6 → T' k' = Sc k') ∧ (∀ k', k' ≠ 8 → U' k' = Sm k')) (r2_m hc (fun p q hq => ⟨hq.1, fun k' h' => (hq.2.2.1 k' h').trans (hT k' h'), fun k' h' => (hq.2.2.2 k' h').trans (hU k' h')⟩)) ?_
      rintro v T' v' U' ⟨rfl, hT', hU'⟩
      exact r2_s ⟨rfl, hT', hU'⟩

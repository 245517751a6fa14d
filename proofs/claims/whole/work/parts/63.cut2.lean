section
/-! the class' tape is cut -/
def CT (n m : Nat) (K V P : Nat → Nat) (j : Nat) (T : pS) : Prop := T 46 5 = nI m ∧ T 46 6 = nI j ∧ j < m ∧ m ≤ 401 ∧ T 46 1 = nI (K j) ∧ (K j = 1 → T 46 2 = nI (V j)) ∧ T 46 3 = nI (P j) ∧ ∀ x, x < m → T 48 x = nI (K x) ∧ (K x = 1 → T 49 x = nI (V x)) ∧ T 50 x = nI (P x)
def fT46 (T T' : pS) : Prop := (∀ k', k' ≠ 46 → k' ≠ 48 → k' ≠ 49 → k' ≠ 50 → T' k' = T k') ∧ T' 46 0 = T 46 0
theorem fT46_r (T : pS) : fT46 T T := ⟨fun _ _ _ _ _ => rfl, rfl⟩
theorem byT_f {b : Nat → Nat} {n : Nat} {T T' : pS} (h : byT b n T) (hf : fT46 T T') : byT b n T' := ⟨hf.2.trans h.1, h.2.1, fun j hj => by rw [hf.1 47 (by decide) (by decide) (by decide) (by decide)]; exact h.2.2 j hj⟩
def cutS (q : Nat) (K V P : Nat → Nat) (T T' : pS) : Prop := fT46 T T' ∧ T' 46 5 = nI q ∧ ∀ x, x < q → T' 48 x = nI (K x) ∧ (K x = 1 → T' 49 x = nI (V x)) ∧ T' 50 x = nI (P x)
theorem cut_put {q : Nat} {v : Int32} {K V P : Nat → Nat} {T T' : pS} (h : cutS q K V P T T') (hq : q ≤ 400) (hv : K q = 1 → v = nI (V q)) : ∃ T2, F6_put T' 46 (nI (K q)) v (nI (P q)) = some T2 ∧ cutS (q + 1) K V P T T2 := by
  obtain ⟨h1, h2, h3⟩ := h
  unfold F6_put
  simp only [bL_d, Nat.reduceAdd]
  rw [h2, if_neg (show ¬ (400 : Int32) < nI q from nI_nlt (a := 400) (by omega) (by omega))]
  have e5 : ∀ (k : Nat) (S : pS) (j : Nat) (x : Int32), k ≠ 46 → sU S k j x 46 5 = S 46 5 := fun k S j x hk => by rw [sU_n (by omega)]
  simp only [e5 48 _ _ _ (by decide), e5 49 _ _ _ (by decide), e5 50 _ _ _ (by decide), h2, nI_clamp (show q < 2 ^ 31 by omega), bG_N (show q < 401 by omega) (show 401 < 2 ^ 31 by decide), nI_1]
  refine ⟨_, rfl, ⟨fun k' a b c d => ?_, ?_⟩, ?_, fun x hx => ?_⟩
  · rw [sU_ne a, sU_ne d, sU_ne c, sU_ne b]; exact h1.1 k' a b c d
  · rw [sU_n (by omega), sU_n (by omega), sU_n (by omega), sU_n (by omega)]; exact h1.2
  · rw [sU_s]
  · rw [sU_ne (k' := 48) (k := 46) (by decide), sU_ne (k' := 48) (k := 50) (by decide), sU_ne (k' := 48) (k := 49) (by decide), sU_ne (k' := 49) (k := 46) (by decide), sU_ne (k' := 49) (k := 50) (by decide), sU_ne (k' := 50) (k := 46) (by decide)]
    by_cases z : x = q
    · subst z
      rw [sU_s, sU_s, sU_s]
      exact ⟨rfl, hv, rfl⟩
    · rw [sU_n (by omega), sU_n (by omega), sU_n (by omega), sU_n (by omega), sU_n (by omega), sU_n (by omega)]
      exact h3 x (by omega)
theorem L_cut {b : Nat → Nat} {n r m : Nat} {K V P A : Nat → Nat} {T : pS} (hr : r < 4) (hT : byT b n T) (hK : Toks b n r m K V P A) :
    Ok (F6_cut T 46 (litL r)) (fun T' => fT46 T T' ∧ CT n m K V P 0 T') := by
  obtain ⟨hn, hb, hm1, hmn, hA0, hTk, hK2, hqA⟩ := hK
  have hPA : ∀ q, q < m → A q ≤ P q ∧ P q ≤ n ∧ P q < A (q + 1) + 1 ∧ (K q = 2 ↔ P q = n) ∧ (K q ≠ 2 → P q < A (q + 1)) := fun q hq => by
    have := Tok_k (hTk q hq)
    have h1 := (hTk q hq).1
    have h2 := (hTk q hq).2.1
    refine ⟨h1, h2, ?_, this.2.1, this.2.2.2.2.1⟩
    by_cases z : K q = 2
    · have := this.2.2.1 z; omega
    · have := this.2.2.2.2.1 z; omega
  unfold F6_cut
  simp only [bL_d]
  refine ok_B (P := fun (T' : pS) => ∃ q, cutS q K V P T T' ∧ q + 1 = m) (ok_M (fun s => ∃ (i c q : Nat) (T' : pS), s = (nI i, nI c, T') ∧ cutS q K V P T T' ∧ q < m ∧ A q ≤ i ∧ i ≤ P q ∧ c ≤ i ∧ c ≤ 400) (fun s => 400 - s.2.1.toNatClampNeg) ?_ ?_) ?_
  · exact ⟨0, 0, 0, _, rfl, ⟨⟨fun k' a _ _ _ => sU_ne a, sU_n (by omega)⟩, sU_s _ _ _ _, fun x hx => by omega⟩, hm1, by omega, Nat.zero_le _, Nat.le_refl _, by decide⟩
  · rintro s ⟨i, c, q, T', rfl, hS, hq, hi1, hi2, hci, hc4⟩
    have hpq := hPA q hq
    have hTq := hTk q hq
    simp only [u3_d]
    have hend : i = n → q + 1 = m := fun e => (hK2 q hq).mp (hpq.2.2.2.1.mpr (by omega))
    by_cases hc : c = 400
    · rw [hc, if_pos (show (400 : Int32) ≤ nI 400 by decide)]
      exact ok_s ⟨q, hS, hend (by omega)⟩
    · have hm' : ∀ (z : Int32 × pS), 400 - ((z.1, nI c + 1, z.2) : Int32 × Int32 × pS).2.1.toNatClampNeg < 400 - ((nI i, nI c, T') : Int32 × Int32 × pS).2.1.toNatClampNeg := fun z => by
        show 400 - (nI c + 1).toNatClampNeg < 400 - (nI c).toNatClampNeg
        rw [nI_1, nI_clamp (by omega), nI_clamp (by omega)]
        omega
      rw [if_neg (nge 400 (b := 400) rfl (show c < 400 by omega) (by decide)), hS.1.2, hT.1]
      by_cases hin : n ≤ i
      · rw [if_pos (nI_le hin (by omega))]
        exact ok_s ⟨q, hS, hend (by omega)⟩
      · have hTT := byT_f hT hS.1
        have hib := hb i (by omega)
        have hlt := ltC ⟨b i, hib⟩
        simp only at hlt
        rw [if_neg (nI_ge (by omega) (by omega)), byA hTT (by omega), bB_s, if_pos (show i < n by omega)]
        by_cases hbl : i < P q
        · have hbb := hTq.2.2.1 i hi1 hbl
          have hnx : Ok (some (Sum.inl (nI i + 1, nI c + 1, T')) : Option ((Int32 × Int32 × pS) ⊕ pS)) (fun z => Sum.elim (fun s' => (∃ (i c q : Nat) (T' : pS), s' = (nI i, nI c, T') ∧ cutS q K V P T T' ∧ q < m ∧ A q ≤ i ∧ i ≤ P q ∧ c ≤ i ∧ c ≤ 400) ∧ 400 - s'.2.1.toNatClampNeg < 400 - ((nI i, nI c, T') : Int32 × Int32 × pS).2.1.toNatClampNeg) (fun (T' : pS) => ∃ q, cutS q K V P T T' ∧ q + 1 = m) z) :=
            ok_s ⟨⟨i + 1, c + 1, q, T', by rw [nI_1, nI_1], hS, hq, by omega, by omega, by omega, by omega⟩, hm' (nI i + 1, T')⟩
          by_cases z : sgI (b i) = 32
          · rw [if_pos z]; exact hnx
          · rw [if_neg z, if_pos ((hlt.2.2.2.1.mpr hbb).resolve_left z)]; exact hnx
        · have hip : i = P q := by omega
          have hk2 : K q ≠ 2 := fun e => by have := hpq.2.2.2.1.mp e; omega
          have hq1 : q + 1 < m := by
            have := (hK2 q hq)
            by_cases z : q + 1 < m
            · exact z
            · exact absurd (this.mpr (by omega)) hk2
          have hpq1 := hPA (q + 1) hq1
          have hnb : blB (b i) = false := by rw [hip]; exact hTq.2.2.2.1 (by omega)
          have z32 : ¬ sgI (b i) = 32 := fun e => by have := hlt.2.2.2.1.mp (Or.inl e); rw [hnb] at this; cases this
          have z10 : ¬ sgI (b i) = 10 := fun e => by have := hlt.2.2.2.1.mp (Or.inr e); rw [hnb] at this; cases this
          have hgo : ∀ (k v : Int32), k = nI (K q) → (K q = 1 → v = nI (V q)) → Ok (bB (F6_put T' 46 k v (nI i)) fun S => some (Sum.inl (nI (A (q + 1)), nI c + 1, S)) : Option ((Int32 × Int32 × pS) ⊕ pS)) (fun z => Sum.elim (fun s' => (∃ (i c q : Nat) (T' : pS), s' = (nI i, nI c, T') ∧ cutS q K V P T T' ∧ q < m ∧ A q ≤ i ∧ i ≤ P q ∧ c ≤ i ∧ c ≤ 400) ∧ 400 - s'.2.1.toNatClampNeg < 400 - ((nI i, nI c, T') : Int32 × Int32 × pS).2.1.toNatClampNeg) (fun (T' : pS) => ∃ q, cutS q K V P T T' ∧ q + 1 = m) z) := by
            rintro k v rfl hv
            obtain ⟨T2, e1, e2⟩ := cut_put hS (by have := (hqA q hq).1; omega) hv
            rw [hip, e1, bB_s]
            have h9 := hpq.2.2.2.2 hk2
            exact ok_s ⟨⟨A (q + 1), c + 1, q + 1, T2, by rw [nI_1], e2, hq1, Nat.le_refl _, hpq1.1, by omega, by omega⟩, hip ▸ hm' (nI (A (q + 1)), T2)⟩
          rw [if_neg z32, if_neg z10]
          rcases hTq.2.2.2.2 with ⟨a, b1, c1⟩ | ⟨a, b1, c1, d, e1, f, g⟩ | ⟨a, b0, b1, c1, d, e1, f, g⟩ | ⟨a, b1, c1, d, g⟩
          · exact absurd b1 hk2
          · rw [← hip] at b1
            have hl := hlt.1
            rw [b1, if_pos rfl] at hl
            rw [hl, if_neg n10, hip, L_run (g := ltB) (e := A (q + 1)) hTT (by omega) d e1 f (Or.inl ⟨rfl, rfl⟩), bB_s]
            obtain ⟨v, w1, w2⟩ := L_num (e := A (q + 1)) hr hTT (show P q ≤ A (q + 1) by omega) d
            rw [w1, bB_s]
            rcases w2 with ⟨rfl, w2⟩ | ⟨j, hj, rfl, w2⟩
            · rw [if_pos rfl, ← hip]
              exact hgo 0 0 (by rw [g, w2]; rfl) (fun q => by omega)
            · rw [if_neg (fun q => absurd (q ▸ nI_pos' (n := j) (by omega)) (by decide)), ← hip]
              exact hgo (256 + nI j) 0 (by rw [g, w2, ← nI_add]; rfl) (fun q => by omega)
          · rw [← hip] at b1 b0
            have hl := hlt.1
            rw [b0, if_neg (by decide)] at hl
            have hl2 := hlt.2.1
            rw [b1, if_pos rfl] at hl2
            rw [hl, if_pos rfl, hl2, if_neg n10, hip, L_run (g := dgB) (e := A (q + 1)) hTT (by omega) d e1 f (Or.inr ⟨rfl, rfl⟩), bB_s, L_amt hTT (show P q ≤ A (q + 1) by omega) d e1, bB_s, pk_sub (by omega)]
            rcases g with ⟨g1, g2, g3⟩ | ⟨g1, g2⟩
            · rw [if_pos (show nI (A (q + 1) - P q) ≤ 4 from nI_le (b := 4) g1 (by decide)), ← hip]
              exact hgo 1 _ (by rw [g2]; rfl) (fun _ => by rw [g3, hip, Nat.min_eq_left g1])
            · rw [if_neg (show ¬ nI (A (q + 1) - P q) ≤ 4 from nI_ge (a := 4) g1 (by omega)), ← hip]
              exact hgo 0 _ (by rw [g2]; rfl) (fun q => by omega)
          · rw [← hip] at b1 c1 d g
            have hl := hlt.1
            rw [b1, if_neg (by decide)] at hl
            have hl2 := hlt.2.1
            rw [c1, if_neg (by decide)] at hl2
            have hl3 := hlt.2.2.1
            rw [hl, if_pos rfl, hl2, if_pos rfl, hl3, nI_1, ← d]
            rcases g with ⟨g1, g2⟩ | ⟨g1, g2⟩
            · rw [g1, if_pos rfl, if_neg n10]
              have := snB_c g1
              exact hgo _ 0 (by rw [g2, hlt.2.2.2.2.1 (by omega)]) (fun q => by omega)
            · rw [g1, if_neg Bool.false_ne_true, if_pos rfl]
              exact hgo 0 0 (by rw [g2]; rfl) (fun q => by omega)
  · rintro T1 ⟨q, hS, hqm⟩
    have hq : q < m := by omega
    have hk2 : K q = 2 := (hK2 q hq).mpr hqm
    have hp := (hPA q hq).2.2.2.1.mp hk2
    obtain ⟨T2, e1, e2⟩ := cut_put (v := 0) hS (by have := hqA q hq; omega) (fun e => by omega)
    rw [u1_d, hS.1.2, hT.1, ← hp]
    have e1' : F6_put T1 46 2 0 (nI (P q)) = some T2 := by
      rw [← e1, hk2]; rfl
    rw [e1', bB_s]
    obtain ⟨⟨f1, f2⟩, e5, e3⟩ := e2
    rw [hqm] at e5 e3
    unfold F6_next
    simp only [bL_d, Nat.reduceAdd]
    have hm0 : 0 < m := by omega
    rw [sU_s, sU_s, show (-1 : Int32) + 1 = nI 0 by decide, if_neg (by decide), sU_n (show ¬ (46 = 46 ∧ 5 = 6) by omega), sU_n (show ¬ (46 = 46 ∧ 5 = 6) by omega), e5, if_pos (nI_lt hm0 (by omega))]
    have e6 : ∀ (S : pS) (j : Nat) (x : Int32), j ≠ 6 → sU S 46 j x 46 6 = S 46 6 := fun S j x hj => by rw [sU_n (by omega)]
    have e48 : ∀ (S : pS) (j : Nat) (x : Int32), sU S 46 j x 48 = S 48 := fun S j x => sU_ne (by decide)
    have e49 : ∀ (S : pS) (j : Nat) (x : Int32), sU S 46 j x 49 = S 49 := fun S j x => sU_ne (by decide)
    have e50 : ∀ (S : pS) (j : Nat) (x : Int32), sU S 46 j x 50 = S 50 := fun S j x => sU_ne (by decide)
    simp only [e6 _ 1 _ (by decide), e6 _ 2 _ (by decide), sU_s, bG_N (show 0 < 401 by decide) (show 401 < 2 ^ 31 by decide), e48, e49, e50, nI_clamp (show 0 < 2 ^ 31 by decide)]
    rw [bB_s]
    have g0 := e3 0 hm0
    refine ok_s ⟨⟨fun k' a b c d => ?_, ?_⟩, ?_, ?_, hm0, by omega, ?_, fun h1 => ?_, ?_, fun x hx => ?_⟩
    · rw [sU_ne a, sU_ne a, sU_ne a, sU_ne a, sU_ne a]; exact f1 k' a b c d
    · rw [sU_n (by omega), sU_n (by omega), sU_n (by omega), sU_n (by omega), sU_n (by omega)]; exact f2
    · rw [sU_n (by omega), sU_n (by omega), sU_n (by omega), sU_n (by omega), sU_n (by omega)]; exact e5
    · rw [sU_n (by omega), sU_n (by omega), sU_n (by omega), sU_s]
    · rw [sU_n (by omega), sU_n (by omega), sU_s]; exact g0.1
    · rw [sU_n (by omega), sU_s]; exact g0.2.1 h1
    · rw [sU_s]; exact g0.2.2
    · rw [e48, e48, e48, e48, e48, e49, e49, e49, e49, e49, e50, e50, e50, e50, e50]; exact e3 x hx
theorem L_nextC {n m j : Nat} {K V P : Nat → Nat} {T : pS} (h : CT n m K V P j T) (hj : j + 1 < m) : ∃ T', F6_next T 46 = some T' ∧ CT n m K V P (j + 1) T' ∧ (∀ k', k' ≠ 46 → T' k' = T k') ∧ T' 46 0 = T 46 0 := by
  obtain ⟨h1, h2, h3, h4, h5, h6, h7, h8⟩ := h
  unfold F6_next
  simp only [bL_d, Nat.reduceAdd]
  rw [sU_s, h2, nI_1, if_neg (nI_pos (by omega)), sU_n (show ¬ (46 = 46 ∧ 5 = 6) by omega), h1, if_pos (nI_lt hj (by omega))]
  have e6 : ∀ (S : pS) (j : Nat) (x : Int32), j ≠ 6 → sU S 46 j x 46 6 = S 46 6 := fun S j x hj => by rw [sU_n (by omega)]
  have e48 : ∀ (S : pS) (j : Nat) (x : Int32), sU S 46 j x 48 = S 48 := fun S j x => sU_ne (by decide)
  have e49 : ∀ (S : pS) (j : Nat) (x : Int32), sU S 46 j x 49 = S 49 := fun S j x => sU_ne (by decide)
  have e50 : ∀ (S : pS) (j : Nat) (x : Int32), sU S 46 j x 50 = S 50 := fun S j x => sU_ne (by decide)
  simp only [e6 _ 1 _ (by decide), e6 _ 2 _ (by decide), sU_s, bG_N (show j + 1 < 401 by omega) (show 401 < 2 ^ 31 by decide), e48, e49, e50, nI_clamp (show j + 1 < 2 ^ 31 by omega)]
  have g0 := h8 (j + 1) hj
  refine ⟨_, rfl, ⟨?_, ?_, hj, h4, ?_, fun z => ?_, ?_, fun x hx => ?_⟩, fun k' a => ?_, ?_⟩
  · rw [sU_n (by omega), sU_n (by omega), sU_n (by omega), sU_n (by omega)]; exact h1
  · rw [sU_n (by omega), sU_n (by omega), sU_n (by omega), sU_s]
  · rw [sU_n (by omega), sU_n (by omega), sU_s]; exact g0.1
  · rw [sU_n (by omega), sU_s]; exact g0.2.1 z
  · rw [sU_s]; exact g0.2.2
  · rw [e48, e48, e48, e48, e49, e49, e49, e49, e50, e50, e50, e50]; exact h8 x hx
  · rw [sU_ne a, sU_ne a, sU_ne a, sU_ne a]
  · rw [sU_n (by omega), sU_n (by omega), sU_n (by omega), sU_n (by omega)]
end

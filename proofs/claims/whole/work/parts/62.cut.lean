section
/-! the class' tokens -/
def byT (b : Nat → Nat) (n : Nat) (T : pS) : Prop := T 46 0 = nI n ∧ n ≤ 400 ∧ ∀ j, j < n → T 47 j = sgI (b j) ∧ b j < 256
theorem byA {b : Nat → Nat} {n j : Nat} {T : pS} (h : byT b n T) (hj : j < 2 ^ 31) : F6_byteAt T 46 (nI j) = some (if j < n then sgI (b j) else 0) := by
  unfold F6_byteAt
  simp only [bL_d]
  have hn := h.2.1
  rw [if_neg (nI_pos hj), h.1]
  by_cases q : j < n
  · rw [if_neg (nI_ge q (by omega)), if_neg (nge 400 (b := 400) rfl (by omega) (by decide)), bG_N (by omega) (by decide), nI_clamp hj, (h.2.2 j q).1, if_pos q]
  · rw [if_pos (nI_le (by omega) hj), if_neg q]
theorem L_run {b : Nat → Nat} {n p e : Nat} {a : Int32} {T : pS} {g : Nat → Bool} (hT : byT b n T) (hpe : p ≤ e) (hen : e ≤ n) (h1 : ∀ j, p ≤ j → j < e → g (b j) = true) (h2 : e < n → g (b e) = false)
    (ha : (a = 1 ∧ g = ltB) ∨ (a = 0 ∧ g = dgB)) : F6_runFrom T 46 (nI p) a = some (nI e) := by
  have hn := hT.2.1
  have hx : ∀ x, (x = sgI (b p) → True) := fun _ _ => trivial
  have hc : ∀ c, c < 256 → (if g c = true then (1 : Int32) else 0) = (if a = 0 then F6_isDigit (sgI c) else F6_isLetter (sgI c)) := by
    intro c hc
    have := ltC ⟨c, hc⟩
    simp only at this
    rcases ha with ⟨rfl, rfl⟩ | ⟨rfl, rfl⟩
    · rw [if_neg (show ¬ (1 : Int32) = 0 from n10), this.1]
    · rw [if_pos (show (0 : Int32) = 0 from rfl), this.2.1]
  have key : Ok (F6_runFrom T 46 (nI p) a) (fun v => v = nI e) := by
    unfold F6_runFrom
    simp only [bL_d]
    refine ok_B (P := fun (z : Int32 ⊕ Int32 ⊕ Int32) => z = .inl (nI e) ∨ z = .inr (.inl (nI e)) ∨ z = .inr (.inr (nI e))) (ok_P (e - p) (fun q s => s = (nI (p + q), nI q)) rfl ?_ ?_) ?_
    · rintro q s hq rfl
      simp only [u2_d]
      have hj : p + q < n := by omega
      have hcc := hc _ (hT.2.2 _ hj).2
      rw [h1 (p + q) (by omega) (by omega), if_pos rfl] at hcc
      rw [if_neg (nge 400 (b := 400) rfl (by omega) (by decide)), byA hT (by omega), bB_s, if_pos hj, nI_1, nI_1]
      by_cases q0 : a = 0
      · rw [if_pos q0] at hcc
        rw [if_pos q0, ← hcc, if_neg n10]
        exact ok_s rfl
      · rw [if_neg q0] at hcc
        rw [if_neg q0, ← hcc, if_neg n10]
        exact ok_s rfl
    · rintro s rfl
      simp only [u2_d]
      rw [show p + (e - p) = e by omega]
      by_cases q4 : 400 ≤ e - p
      · rw [if_pos (yle 400 (b := 400) rfl q4 (by omega))]
        exact ok_s (Or.inl rfl)
      · rw [if_neg (nge 400 (b := 400) rfl (by omega) (by decide)), byA hT (by omega), bB_s]
        have z0 : F6_isDigit (if e < n then sgI (b e) else 0) = 0 ∨ ¬ a = 0 := by
          by_cases q0 : a = 0
          · refine Or.inl ?_
            by_cases q : e < n
            · have hcc := hc _ (hT.2.2 _ q).2
              rw [h2 q, if_neg (by decide), if_pos q0] at hcc
              rw [if_pos q]; exact hcc.symm
            · rw [if_neg q]; decide
          · exact Or.inr q0
        have z1 : F6_isLetter (if e < n then sgI (b e) else 0) = 0 ∨ a = 0 := by
          by_cases q0 : a = 0
          · exact Or.inr q0
          · refine Or.inl ?_
            by_cases q : e < n
            · have hcc := hc _ (hT.2.2 _ q).2
              rw [h2 q, if_neg (by decide), if_neg q0] at hcc
              rw [if_pos q]; exact hcc.symm
            · rw [if_neg q]; decide
        by_cases q0 : a = 0
        · rw [if_pos q0, if_pos (z0.resolve_right (fun z => z q0))]
          exact ok_s (Or.inr (Or.inr rfl))
        · rw [if_neg q0, if_pos (z1.resolve_right q0)]
          exact ok_s (Or.inr (Or.inl rfl))
    · rintro z (rfl | rfl | rfl) <;> exact ok_s rfl
  obtain ⟨v, e1, e2⟩ := key
  rw [e1, e2]
theorem L_amt {b : Nat → Nat} {n p e : Nat} {T : pS} (hT : byT b n T) (hpe : p ≤ e) (hen : e ≤ n) (h1 : ∀ j, p ≤ j → j < e → dgB (b j) = true) : F6_amount T 46 (nI p) (nI e) = some (nI (amt b p (min (e - p) 4))) := by
  have hn := hT.2.1
  have key : Ok (F6_amount T 46 (nI p) (nI e)) (fun v => v = nI (amt b p (min (e - p) 4))) := by
    unfold F6_amount
    simp only [bL_d]
    refine ok_B (P := fun v => v = nI (amt b p (min (e - p) 4))) (ok_P (min (e - p) 4) (fun q s => s = (nI (amt b p q), nI (p + q))) rfl ?_ ?_) (fun v hv => by rw [u1_d]; exact ok_s hv)
    · rintro q s hq rfl
      simp only [u2_d]
      have hj : p + q < n := by omega
      have hd := h1 (p + q) (by omega) (by omega)
      have hc := ltC ⟨b (p + q), (hT.2.2 _ hj).2⟩
      simp only at hc
      unfold dgB at hd
      simp only [Bool.and_eq_true, decide_eq_true_iff] at hd
      rw [if_neg (nI_ge (by omega) (by omega)), show (4 : Int32) = nI 4 from rfl, nI_add, if_neg (nI_ge (by omega) (by omega)), byA hT (by omega), bB_s, if_pos hj, hc.2.2.2.2.1 (by omega), show (10 : Int32) = nI 10 from rfl, pk_mul, nI_add, show (48 : Int32) = nI 48 from rfl, pk_sub (by omega), nI_1]
      refine ok_s ?_
      show (_, _) = (nI (10 * amt b p q + (b (p + q) - 48)), nI (p + (q + 1)))
      rw [show amt b p q * 10 + b (p + q) - 48 = 10 * amt b p q + (b (p + q) - 48) by omega]
      rfl
    · rintro s rfl
      simp only [u2_d]
      by_cases q : e ≤ p + min (e - p) 4
      · rw [if_pos (nI_le q (by omega))]; exact ok_s rfl
      · rw [if_neg (nI_ge (by omega) (by omega)), show (4 : Int32) = nI 4 from rfl, nI_add, if_pos (nI_le (by omega) (by omega))]
        exact ok_s rfl
  obtain ⟨v, e1, e2⟩ := key
  rw [e1, e2]
/-- where the words stand in the row of words L -/
def segB (L : Nat) : Nat → List (Nat × Nat) → Bool
  | f, [] => f == litLen.getD L 0 + 1
  | f, (i, _) :: r => decide (i < 41) && decide (f + litLen.getD i 0 ≤ litLen.getD L 0) && (List.range (litLen.getD i 0)).all (fun k => decide (strch L (f + k) = strch i k) && decide (¬ strch i k = 32) && decide (0 ≤ strch i k) && decide (strch i k < 128)) && (f + litLen.getD i 0 == litLen.getD L 0 || decide (strch L (f + litLen.getD i 0) = 32)) && segB L (f + litLen.getD i 0 + 1) r
def litL (r : Nat) : Nat := if r = 0 then 0 else if r = 1 then 1 else if r = 2 then 3 else 2
theorem seg_ok : segB (litL 0) 0 (wdL 0) = true ∧ segB (litL 1) 0 (wdL 1) = true ∧ segB (litL 2) 0 (wdL 2) = true ∧ segB (litL 3) 0 (wdL 3) = true := by decide +kernel
theorem seg_r {r : Nat} (hr : r < 4) : segB (litL r) 0 (wdL r) = true := by
  rcases (show r = 0 ∨ r = 1 ∨ r = 2 ∨ r = 3 by omega) with rfl | rfl | rfl | rfl
  · exact seg_ok.1
  · exact seg_ok.2.1
  · exact seg_ok.2.2.1
  · exact seg_ok.2.2.2
theorem segB_c {L f i t : Nat} {r : List (Nat × Nat)} (h : segB L f ((i, t) :: r) = true) : i < 41 ∧ f + litLen.getD i 0 ≤ litLen.getD L 0 ∧ (∀ k, k < litLen.getD i 0 → strch L (f + k) = strch i k ∧ ¬ strch i k = 32 ∧ 0 ≤ strch i k ∧ strch i k < 128) ∧ (f + litLen.getD i 0 = litLen.getD L 0 ∨ strch L (f + litLen.getD i 0) = 32) ∧ segB L (f + litLen.getD i 0 + 1) r = true := by
  unfold segB at h
  simp only [Bool.and_eq_true, decide_eq_true_iff, List.all_eq_true, List.mem_range, Bool.or_eq_true, beq_iff_eq] at h
  obtain ⟨⟨⟨⟨h0, h1⟩, h2⟩, h3⟩, h4⟩ := h
  exact ⟨h0, h1, fun k hk => ⟨(h2 k hk).1.1.1, (h2 k hk).1.1.2, (h2 k hk).1.2, (h2 k hk).2⟩, h3, h4⟩
theorem chr_e {c : Nat} {x : Int32} (hc : c < 256) (h0 : 0 ≤ x) (h1 : x < 128) : x = sgI c ↔ nI c = x := by
  have h := (ltC ⟨c, hc⟩).2.2.2.2
  simp only at h
  obtain ⟨y, hy, rfl⟩ := nI_of (Int32.not_lt.mpr h0)
  have hy' : y < 128 := (nI_ltI hy (by decide)).mp h1
  by_cases q : c < 128
  · rw [h.1 q]; exact eq_comm
  · constructor
    · intro e
      exact absurd (h.2 (by omega)) (by rw [← e]; exact nI_pos hy)
    · intro e
      have := nI_inj e (by omega) hy
      omega
theorem L_same {b : Nat → Nat} {n p e L f i t : Nat} {rr : List (Nat × Nat)} {T : pS} (hT : byT b n T) (hpe : p ≤ e) (hen : e ≤ n) (hL : litLen.getD L 0 < 100) (hs : segB L f ((i, t) :: rr) = true) (he : litLen.getD i 0 = e - p) :
    F6_isSame T 46 L (nI f) (nI (f + litLen.getD i 0)) (nI p) = some (if mtB b p e i = true then 1 else 0) := by
  have hn := hT.2.1
  obtain ⟨-, s1, s2, -, -⟩ := segB_c hs
  have key : Ok (F6_isSame T 46 L (nI f) (nI (f + litLen.getD i 0)) (nI p)) (fun v => v = (if mtB b p e i = true then 1 else 0)) := by
    unfold F6_isSame
    simp only [bL_d]
    unfold strlen
    refine ok_B (P := fun (z : Unit ⊕ Unit) => (z = .inl () ∧ mtB b p e i = true) ∨ (z = .inr () ∧ mtB b p e i = false)) (ok_P (litLen.getD i 0) (fun k s => s = nI (f + k) ∧ ∀ k', k' < k → nI (b (p + k')) = strch i k') ⟨rfl, fun k' h => absurd h (Nat.not_lt_zero _)⟩ ?_ ?_) ?_
    · rintro k s hk ⟨rfl, hv⟩
      rw [u1_d, if_neg (nI_ge (by omega) (by omega)), if_neg (nI_ge (by omega) (by omega)), bG_N (by omega) (by omega), nI_clamp (by omega), nI_add, pk_sub (by omega), show p + (f + k) - f = p + k by omega, byA hT (by omega), bB_s, if_pos (show p + k < n by omega), (s2 k hk).1, nI_1]
      by_cases q : strch i k = sgI (b (p + k))
      · rw [if_pos q]
        refine ok_s ⟨rfl, fun k' h => ?_⟩
        by_cases q2 : k' = k
        · rw [q2]; exact (chr_e (hT.2.2 _ (by omega)).2 (s2 k hk).2.2.1 (s2 k hk).2.2.2).mp q
        · exact hv k' (by omega)
      · rw [if_neg q]
        refine ok_s (Or.inr ⟨rfl, ?_⟩)
        cases hm : mtB b p e i with
        | false => rfl
        | true => exact absurd ((chr_e (hT.2.2 _ (by omega)).2 (s2 k hk).2.2.1 (s2 k hk).2.2.2).mpr ((mtB_e.mp hm).2 k hk)) q
    · rintro s ⟨rfl, hv⟩
      rw [u1_d, if_pos (nI_le (Nat.le_refl _) (by omega))]
      exact ok_s (Or.inl ⟨rfl, mtB_e.mpr ⟨he.symm, hv⟩⟩)
    · rintro z (⟨rfl, h⟩ | ⟨rfl, h⟩)
      · rw [h]; exact ok_s rfl
      · rw [h]; exact ok_s rfl
  obtain ⟨v, e1, e2⟩ := key
  rw [e1, e2]
theorem L_num {b : Nat → Nat} {n p e r : Nat} {T : pS} (hr : r < 4) (hT : byT b n T) (hpe : p ≤ e) (hen : e ≤ n) :
    ∃ v, F6_numberOf T 46 (litL r) (nI p) (nI e) = some v ∧ ((v = -1 ∧ fnd b p e (wdL r) 0 = 0) ∨ ∃ j, j < 17 ∧ v = nI j ∧ fnd b p e (wdL r) 0 = 256 + j) := by
  have hn := hT.2.1
  have hL : litLen.getD (litL r) 0 < 100 := by
    have := litLen_lt ⟨litL r, by unfold litL; split <;> (try split) <;> (try split) <;> omega⟩
    exact this
  have hsg := seg_r hr
  have hcl := fnd_c (b := b) (p := p) (e := e) (wdL r) 0
  have hln := wdL_len r
  generalize hA : fnd b p e (wdL r) 0 = res at hcl ⊢
  have key : Ok (F6_numberOf T 46 (litL r) (nI p) (nI e)) (fun v => ((v = -1 ∧ res = 0) ∨ ∃ j, j < 17 ∧ v = nI j ∧ res = 256 + j)) := by
    generalize litL r = L at hL hsg ⊢
    unfold F6_numberOf
    simp only [bL_d]
    unfold strlen
    refine ok_B (P := fun (z : Unit ⊕ Int32) => (z = .inl () ∧ res = 0) ∨ ∃ j, j < 17 ∧ z = .inr (nI j) ∧ res = 256 + j) (ok_P (litLen.getD L 0 + 1) (fun k s => ∃ (j f : Nat) (l : List (Nat × Nat)), s = (nI j, nI f, nI k) ∧ segB L f l = true ∧ res = fnd b p e l j ∧ f ≤ k ∧ ∀ i t rr, l = (i, t) :: rr → k ≤ f + litLen.getD i 0) ?_ ?_ ?_) ?_
    · exact ⟨0, 0, wdL r, rfl, hsg, hA.symm, Nat.le_refl _, fun i t rr _ => by omega⟩
    · rintro k s hk ⟨j, f, l, rfl, hs, hf, hfk, hkl⟩
      simp only [u3_d]
      rw [if_neg (nI_nlt (by omega) (by omega))]
      cases l with
      | nil =>
        unfold segB at hs
        rw [beq_iff_eq] at hs
        omega
      | cons a rr =>
        obtain ⟨i, t⟩ := a
        have hki := hkl i t rr rfl
        obtain ⟨s0, s1, s2, s3, s4⟩ := segB_c hs
        have hj16 : mtB b p e i = true → j < 17 := fun hm => by
          unfold fnd at hf
          rw [if_pos hm] at hf
          rcases hcl with q | q <;> omega
        by_cases hlt : k < f + litLen.getD i 0
        · have hc := s2 (k - f) (by omega)
          rw [show f + (k - f) = k by omega] at hc
          rw [if_neg (fun q => by have := nI_inj q (by omega) (by omega); omega), bG_N (by omega) (by omega), nI_clamp (by omega), hc.1, if_neg hc.2.1, nI_1]
          exact ok_s ⟨j, f, (i, t) :: rr, rfl, hs, hf, by omega, fun i' t' rr' e => by cases e; omega⟩
        · have hke : k = f + litLen.getD i 0 := by omega
          have go : Ok (if nI k - nI f = nI e - nI p then bB (F6_isSame T 46 L (nI f) (nI k) (nI p)) fun r_11 => if r_11 = 0 then some (Sum.inl (nI j + 1, nI k + 1, nI k + 1)) else some (Sum.inr (Sum.inr (nI j))) else some (Sum.inl (nI j + 1, nI k + 1, nI k + 1)) : Option ((Int32 × Int32 × Int32) ⊕ (Unit ⊕ Int32))) (fun z => Sum.elim (fun s => ∃ (j f : Nat) (l : List (Nat × Nat)), s = (nI j, nI f, nI (k + 1)) ∧ segB L f l = true ∧ res = fnd b p e l j ∧ f ≤ k + 1 ∧ ∀ i t rr, l = (i, t) :: rr → k + 1 ≤ f + litLen.getD i 0) (fun z => (z = .inl () ∧ res = 0) ∨ ∃ j, j < 17 ∧ z = .inr (nI j) ∧ res = 256 + j) z) := by
            rw [pk_sub hfk, pk_sub hpe, nI_1, nI_1]
            have hno : mtB b p e i = false → ∃ (j' f : Nat) (l : List (Nat × Nat)), (nI (j + 1), nI (k + 1), nI (k + 1)) = (nI j', nI f, nI (k + 1)) ∧ segB L f l = true ∧ res = fnd b p e l j' ∧ f ≤ k + 1 ∧ ∀ i t rr, l = (i, t) :: rr → k + 1 ≤ f + litLen.getD i 0 := fun hm => by
              refine ⟨j + 1, k + 1, rr, rfl, by rw [hke]; exact s4, ?_, Nat.le_refl _, fun i' t' rr' e => Nat.le_add_right _ _⟩
              · rw [hf]
                show (if mtB b p e i = true then 256 + j else fnd b p e rr (j + 1)) = _
                rw [hm, if_neg (by decide)]
            by_cases hq : nI (k - f) = nI (e - p)
            · have hq' := nI_inj hq (by omega) (by omega)
              rw [if_pos hq, hke, L_same hT hpe hen hL hs (by omega), bB_s]
              cases hm : mtB b p e i with
              | true =>
                rw [if_pos rfl, if_neg n10]
                refine ok_s (Or.inr ⟨j, hj16 hm, rfl, ?_⟩)
                rw [hf]
                show (if mtB b p e i = true then 256 + j else fnd b p e rr (j + 1)) = _
                rw [if_pos hm]
              | false =>
                rw [if_neg (show ¬ (false = true) from Bool.false_ne_true), if_pos rfl, ← hke]
                exact ok_s (hno hm)
            · rw [if_neg hq]
              refine ok_s (hno ?_)
              cases hm : mtB b p e i with
              | false => rfl
              | true =>
                have := (mtB_e.mp hm).1
                exact absurd (show nI (k - f) = nI (e - p) by congr 1; omega) hq
          by_cases hend : k = litLen.getD L 0
          · rw [if_pos (by rw [hend])]
            exact go
          · rw [if_neg (fun q => hend (nI_inj q (by omega) (by omega))), bG_N (by omega) (by omega), nI_clamp (by omega), if_pos (by
              rcases s3 with q | q
              · omega
              · rw [hke]; exact q)]
            exact go
    · rintro s ⟨j, f, l, rfl, hs, hf, hfk, hkl⟩
      simp only [u3_d]
      rw [if_pos (nI_lt (by omega) (by omega))]
      refine ok_s (Or.inl ⟨rfl, ?_⟩)
      cases l with
      | nil => rw [hf]; rfl
      | cons a rr =>
        obtain ⟨i, t⟩ := a
        have hki := hkl i t rr rfl
        obtain ⟨s0, s1, s2, s3, s4⟩ := segB_c hs
        omega
    · rintro z (⟨rfl, h⟩ | ⟨j, hj, rfl, h⟩)
      · exact ok_s (Or.inl ⟨rfl, h⟩)
      · exact ok_s (Or.inr ⟨j, hj, rfl, h⟩)
  obtain ⟨v, e1, e2⟩ := key
  exact ⟨v, e1, e2⟩
end

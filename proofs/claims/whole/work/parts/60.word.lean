section
/-! the reference's tokens -/
def byR (b : Nat → Nat) (n : Nat) (U : pS) : Prop := U 0 16 = nI n ∧ n ≤ 400 ∧ ∀ j, j < n → U 7 j = nI (b j) ∧ b j < 256
def fN (U U' : pS) : Prop := (∀ k', k' ≠ 0 → U' k' = U k') ∧ ∀ j, (j < 17 ∨ 20 < j) → U' 0 j = U 0 j
theorem fN_r (U : pS) : fN U U := ⟨fun _ _ => rfl, fun _ _ => rfl⟩
theorem fN_u {U U' : pS} {j : Nat} {v : Int32} (hj : 17 ≤ j ∧ j ≤ 20) (h : fN U U') : fN U (sU U' 0 j v) := ⟨fun k' hk => by rw [sU_ne hk]; exact h.1 k' hk, fun j' hj' => by rw [sU_n (by omega)]; exact h.2 j' hj'⟩
theorem fN_t {U U' U'' : pS} (h : fN U U') (h' : fN U' U'') : fN U U'' := ⟨fun k' hk => (h'.1 k' hk).trans (h.1 k' hk), fun j hj => (h'.2 j hj).trans (h.2 j hj)⟩
theorem byR_f {b : Nat → Nat} {n : Nat} {U U' : pS} (h : byR b n U) (hf : fN U U') : byR b n U' := ⟨(hf.2 16 (by omega)).trans h.1, h.2.1, fun j hj => by rw [hf.1 7 (by decide)]; exact h.2.2 j hj⟩
theorem see_e {b : Nat → Nat} {n j : Nat} {U : pS} (h : byR b n U) (hj : j ≤ 400) : F12_see U (nI j) = some (if j < n then nI (b j) else -1) := by
  unfold F12_see
  have hn := h.2.1
  rw [h.1]
  by_cases q : j < n
  · rw [if_neg (nI_ge q (by omega)), bG_N (by omega) (by decide), nI_clamp (by omega), (h.2.2 j q).1, if_pos q]
  · rw [if_pos (nI_le (by omega) (by omega)), if_neg q]
theorem litLen_lt : ∀ i : Fin 41, litLen.getD i.val 0 < 100 := by decide
theorem L_is {b : Nat → Nat} {n p e i : Nat} {U : pS} (hi : i < 41) (hU : byR b n U) (h17 : U 0 17 = nI e) (h19 : U 0 19 = nI p) (hpe : p ≤ e) (hen : e ≤ n) : F12_is U i = some (if mtB b p e i = true then 1 else 0) := by
  have hl := litLen_lt ⟨i, hi⟩
  simp only at hl
  have hn := hU.2.1
  have key : Ok (F12_is U i) (fun v => v = (if mtB b p e i = true then 1 else 0)) := by
    unfold F12_is
    simp only [bL_d]
    unfold strlen
    rw [h17, h19, pk_sub hpe]
    by_cases he : e - p = litLen.getD i 0
    · rw [if_pos (by rw [he])]
      refine ok_B (P := fun v => v = (if mtB b p e i = true then (1 : Int32) else 0)) (ok_P (litLen.getD i 0) (fun k s => ∃ v, s = (v, nI k) ∧ ((v = 1 ∧ ∀ k', k' < k → nI (b (p + k')) = strch i k') ∨ (v = 0 ∧ mtB b p e i = false))) ?_ ?_ ?_) ?_
      · exact ⟨1, rfl, Or.inl ⟨rfl, fun k' h => absurd h (Nat.not_lt_zero _)⟩⟩
      · rintro k s hk ⟨v, rfl, hv⟩
        simp only [u2_d]
        rw [if_neg (nI_ge hk (by omega))]
        rcases hv with ⟨rfl, hv⟩ | ⟨rfl, hv⟩
        · rw [if_neg n10, nI_add, bG_N (by omega) (by decide), bG_N hk (by omega), nI_clamp (by omega), nI_clamp (by omega), (hU.2.2 (p + k) (by omega)).1, nI_1]
          by_cases hc : nI (b (p + k)) = strch i k
          · rw [if_pos hc]
            refine ok_s ⟨1, rfl, Or.inl ⟨rfl, fun k' h => ?_⟩⟩
            by_cases q : k' = k
            · rw [q]; exact hc
            · exact hv k' (by omega)
          · rw [if_neg hc]
            refine ok_s ⟨0, rfl, Or.inr ⟨rfl, ?_⟩⟩
            cases hm : mtB b p e i with
            | false => rfl
            | true => exact absurd ((mtB_e.mp hm).2 k hk) hc
        · rw [if_pos rfl]
          refine ok_s ?_
          rw [hv]; rfl
      · rintro s ⟨v, rfl, hv⟩
        simp only [u2_d]
        rw [if_pos (nI_le (Nat.le_refl _) (by omega))]
        refine ok_s ?_
        rcases hv with ⟨rfl, hv⟩ | ⟨rfl, hv⟩
        · rw [if_pos (mtB_e.mpr ⟨he, hv⟩)]; rfl
        · rw [hv]; rfl
      · rintro v rfl
        rw [u1_d]
        refine ok_s ?_
        split <;> decide
    · rw [if_neg (fun q => he (nI_inj q (by omega) (by omega)))]
      have hm : mtB b p e i = false := by
        cases hm : mtB b p e i with
        | false => rfl
        | true => exact absurd (mtB_e.mp hm).1 he
      rw [hm]
      rw [bP_r (r := (0 : Int32)) (by
        rw [u2_d]
        by_cases q : nI (litLen.getD i 0) ≤ 0
        · rw [if_pos q]
        · rw [if_neg q, if_pos rfl])]
      exact ⟨0, rfl, rfl⟩
  obtain ⟨v, h1, h2⟩ := key
  rw [h1, h2]
theorem is_b {α : Type} {m : Bool} {A B : Option α} : bB (some (if m = true then (1 : Int32) else 0)) (fun r => if r = 0 then A else B) = if m = true then B else A := by
  cases m
  · rw [if_neg (by decide), bB_s, if_pos rfl, if_neg (by decide)]
  · rw [if_pos rfl, bB_s, if_neg (by decide), if_pos rfl]
def chn (b : Nat → Nat) (p e : Nat) : List (Nat × Nat) → Nat
  | [] => 1
  | (i, t) :: r => if mtB b p e i = true then t else chn b p e r
theorem chn_f {b : Nat → Nat} {p e : Nat} : ∀ (l : List (Nat × Nat)) (j : Nat), chn b p e l = if fnd b p e l j = 0 then 1 else (l.map Prod.snd).getD (fnd b p e l j - (256 + j)) 1 := by
  intro l
  induction l with
  | nil => intro j; rfl
  | cons a r ih =>
    intro j
    obtain ⟨i, t⟩ := a
    unfold chn fnd
    by_cases h : mtB b p e i = true
    · rw [if_pos h, if_pos h, if_neg (by omega), Nat.sub_self]
      rfl
    · rw [if_neg h, if_neg h, ih (j + 1)]
      by_cases q : fnd b p e r (j + 1) = 0
      · rw [if_pos q, if_pos q]
      · rw [if_neg q, if_neg q]
        have := (fnd_c (b := b) (p := p) (e := e) r (j + 1)).resolve_left q
        obtain ⟨d, hd⟩ : ∃ d, fnd b p e r (j + 1) - (256 + j) = d + 1 ∧ fnd b p e r (j + 1) - (256 + (j + 1)) = d := ⟨fnd b p e r (j + 1) - (256 + (j + 1)), by omega, rfl⟩
        rw [hd.1, hd.2]
        rfl
theorem tmN_c {b : Nat → Nat} {p e r : Nat} : tmN r (fnd b p e (wdL r) 0) = chn b p e (wdL r) := by
  rw [chn_f (wdL r) 0]
  unfold tmN
  rcases fnd_c (b := b) (p := p) (e := e) (wdL r) 0 with q | q
  · rw [q, if_pos rfl, if_pos rfl]
  · rw [if_neg (by omega), if_neg (by omega), if_neg (by omega), if_neg (by omega), if_neg (by omega)]
theorem L_flightWord {b : Nat → Nat} {p e : Nat} {U : pS} (hI : ∀ i, i < 41 → F12_is U i = some (if mtB b p e i = true then 1 else 0)) : F12_flightWord U = some (nI (chn b p e [(4, 20), (5, 21), (6, 22), (7, 23), (8, 41), (9, 42), (10, 43), (11, 44), (12, 45), (13, 46), (14, 47), (15, 48), (16, 49)])) := by
  unfold F12_flightWord
  simp only [hI 4 (by decide), hI 5 (by decide), hI 6 (by decide), hI 7 (by decide), hI 8 (by decide), hI 9 (by decide), hI 10 (by decide), hI 11 (by decide), hI 12 (by decide), hI 13 (by decide), hI 14 (by decide), hI 15 (by decide), hI 16 (by decide), is_b]
  by_cases h4 : mtB b p e 4 = true
  · rw [if_pos h4, chn, if_pos h4]; rfl
  rw [if_neg h4, chn, if_neg h4]
  by_cases h5 : mtB b p e 5 = true
  · rw [if_pos h5, chn, if_pos h5]; rfl
  rw [if_neg h5, chn, if_neg h5]
  by_cases h6 : mtB b p e 6 = true
  · rw [if_pos h6, chn, if_pos h6]; rfl
  rw [if_neg h6, chn, if_neg h6]
  by_cases h7 : mtB b p e 7 = true
  · rw [if_pos h7, chn, if_pos h7]; rfl
  rw [if_neg h7, chn, if_neg h7]
  by_cases h8 : mtB b p e 8 = true
  · rw [if_pos h8, chn, if_pos h8]; rfl
  rw [if_neg h8, chn, if_neg h8]
  by_cases h9 : mtB b p e 9 = true
  · rw [if_pos h9, chn, if_pos h9]; rfl
  rw [if_neg h9, chn, if_neg h9]
  by_cases h10 : mtB b p e 10 = true
  · rw [if_pos h10, chn, if_pos h10]; rfl
  rw [if_neg h10, chn, if_neg h10]
  by_cases h11 : mtB b p e 11 = true
  · rw [if_pos h11, chn, if_pos h11]; rfl
  rw [if_neg h11, chn, if_neg h11]
  by_cases h12 : mtB b p e 12 = true
  · rw [if_pos h12, chn, if_pos h12]; rfl
  rw [if_neg h12, chn, if_neg h12]
  by_cases h13 : mtB b p e 13 = true
  · rw [if_pos h13, chn, if_pos h13]; rfl
  rw [if_neg h13, chn, if_neg h13]
  by_cases h14 : mtB b p e 14 = true
  · rw [if_pos h14, chn, if_pos h14]; rfl
  rw [if_neg h14, chn, if_neg h14]
  by_cases h15 : mtB b p e 15 = true
  · rw [if_pos h15, chn, if_pos h15]; rfl
  rw [if_neg h15, chn, if_neg h15]
  by_cases h16 : mtB b p e 16 = true
  · rw [if_pos h16, chn, if_pos h16]; rfl
  rw [if_neg h16, chn, if_neg h16]
  rfl
theorem L_armWord {b : Nat → Nat} {p e : Nat} {U : pS} (hI : ∀ i, i < 41 → F12_is U i = some (if mtB b p e i = true then 1 else 0)) : F12_armWord U = some (nI (chn b p e [(17, 24), (18, 25), (19, 26), (20, 50), (21, 51), (22, 52), (23, 53), (24, 54), (25, 55), (26, 56), (27, 57)])) := by
  unfold F12_armWord
  simp only [hI 17 (by decide), hI 18 (by decide), hI 19 (by decide), hI 20 (by decide), hI 21 (by decide), hI 22 (by decide), hI 23 (by decide), hI 24 (by decide), hI 25 (by decide), hI 26 (by decide), hI 27 (by decide), is_b]
  by_cases h17 : mtB b p e 17 = true
  · rw [if_pos h17, chn, if_pos h17]; rfl
  rw [if_neg h17, chn, if_neg h17]
  by_cases h18 : mtB b p e 18 = true
  · rw [if_pos h18, chn, if_pos h18]; rfl
  rw [if_neg h18, chn, if_neg h18]
  by_cases h19 : mtB b p e 19 = true
  · rw [if_pos h19, chn, if_pos h19]; rfl
  rw [if_neg h19, chn, if_neg h19]
  by_cases h20 : mtB b p e 20 = true
  · rw [if_pos h20, chn, if_pos h20]; rfl
  rw [if_neg h20, chn, if_neg h20]
  by_cases h21 : mtB b p e 21 = true
  · rw [if_pos h21, chn, if_pos h21]; rfl
  rw [if_neg h21, chn, if_neg h21]
  by_cases h22 : mtB b p e 22 = true
  · rw [if_pos h22, chn, if_pos h22]; rfl
  rw [if_neg h22, chn, if_neg h22]
  by_cases h23 : mtB b p e 23 = true
  · rw [if_pos h23, chn, if_pos h23]; rfl
  rw [if_neg h23, chn, if_neg h23]
  by_cases h24 : mtB b p e 24 = true
  · rw [if_pos h24, chn, if_pos h24]; rfl
  rw [if_neg h24, chn, if_neg h24]
  by_cases h25 : mtB b p e 25 = true
  · rw [if_pos h25, chn, if_pos h25]; rfl
  rw [if_neg h25, chn, if_neg h25]
  by_cases h26 : mtB b p e 26 = true
  · rw [if_pos h26, chn, if_pos h26]; rfl
  rw [if_neg h26, chn, if_neg h26]
  by_cases h27 : mtB b p e 27 = true
  · rw [if_pos h27, chn, if_pos h27]; rfl
  rw [if_neg h27, chn, if_neg h27]
  rfl
theorem L_trainWord {b : Nat → Nat} {p e : Nat} {U : pS} (hI : ∀ i, i < 41 → F12_is U i = some (if mtB b p e i = true then 1 else 0)) : F12_trainWord U = some (nI (chn b p e [(28, 27), (29, 28), (30, 58), (24, 54), (23, 53), (31, 59)])) := by
  unfold F12_trainWord
  simp only [hI 28 (by decide), hI 29 (by decide), hI 30 (by decide), hI 24 (by decide), hI 23 (by decide), hI 31 (by decide), is_b]
  by_cases h28 : mtB b p e 28 = true
  · rw [if_pos h28, chn, if_pos h28]; rfl
  rw [if_neg h28, chn, if_neg h28]
  by_cases h29 : mtB b p e 29 = true
  · rw [if_pos h29, chn, if_pos h29]; rfl
  rw [if_neg h29, chn, if_neg h29]
  by_cases h30 : mtB b p e 30 = true
  · rw [if_pos h30, chn, if_pos h30]; rfl
  rw [if_neg h30, chn, if_neg h30]
  by_cases h24 : mtB b p e 24 = true
  · rw [if_pos h24, chn, if_pos h24]; rfl
  rw [if_neg h24, chn, if_neg h24]
  by_cases h23 : mtB b p e 23 = true
  · rw [if_pos h23, chn, if_pos h23]; rfl
  rw [if_neg h23, chn, if_neg h23]
  by_cases h31 : mtB b p e 31 = true
  · rw [if_pos h31, chn, if_pos h31]; rfl
  rw [if_neg h31, chn, if_neg h31]
  rfl
theorem L_planWord {b : Nat → Nat} {p e : Nat} {U : pS} (hI : ∀ i, i < 41 → F12_is U i = some (if mtB b p e i = true then 1 else 0)) : F12_planWord U = some (nI (chn b p e [(32, 7), (34, 9), (35, 10), (21, 11), (36, 12), (33, 8)])) := by
  unfold F12_planWord
  simp only [hI 32 (by decide), hI 33 (by decide), hI 34 (by decide), hI 35 (by decide), hI 21 (by decide), hI 36 (by decide), is_b]
  by_cases h32 : mtB b p e 32 = true
  · rw [if_pos h32, chn, if_pos h32]; rfl
  rw [if_neg h32, chn, if_neg h32]
  by_cases h33 : mtB b p e 33 = true
  · have q := mtB_e.mp h33
    have n34 : ¬ mtB b p e 34 = true := fun h => absurd (q.1.symm.trans (mtB_e.mp h).1) (by decide)
    have n36 : ¬ mtB b p e 36 = true := fun h => absurd (q.1.symm.trans (mtB_e.mp h).1) (by decide)
    have n35 : ¬ mtB b p e 35 = true := fun h => absurd ((q.2 0 (by decide)).symm.trans ((mtB_e.mp h).2 0 (by decide))) (by decide)
    have n21 : ¬ mtB b p e 21 = true := fun h => absurd ((q.2 2 (by decide)).symm.trans ((mtB_e.mp h).2 2 (by decide))) (by decide)
    rw [if_pos h33, chn, if_neg n34, chn, if_neg n35, chn, if_neg n21, chn, if_neg n36, chn, if_pos h33]; rfl
  rw [if_neg h33]
  by_cases h34 : mtB b p e 34 = true
  · rw [if_pos h34, chn, if_pos h34]; rfl
  rw [if_neg h34, chn, if_neg h34]
  by_cases h35 : mtB b p e 35 = true
  · rw [if_pos h35, chn, if_pos h35]; rfl
  rw [if_neg h35, chn, if_neg h35]
  by_cases h21 : mtB b p e 21 = true
  · rw [if_pos h21, chn, if_pos h21]; rfl
  rw [if_neg h21, chn, if_neg h21]
  by_cases h36 : mtB b p e 36 = true
  · rw [if_pos h36, chn, if_pos h36]; rfl
  rw [if_neg h36, chn, if_neg h36]
  rw [chn, if_neg h33]
  rfl
theorem L_word {b : Nat → Nat} {n p e r : Nat} {U : pS} (hr : r < 4) (hU : byR b n U) (h12 : U 0 12 = nI r) (h17 : U 0 17 = nI e) (h19 : U 0 19 = nI p) (hpe : p ≤ e) (hen : e ≤ n) : F12_word U = some (nI (tmN r (fnd b p e (wdL r) 0))) := by
  have hI : ∀ i, i < 41 → F12_is U i = some (if mtB b p e i = true then 1 else 0) := fun i hi => L_is hi hU h17 h19 hpe hen
  rw [tmN_c]
  unfold F12_word
  rw [h12]
  have h4 : ∀ (l : List (Nat × Nat)) (A : Option Int32), A = some (nI (chn b p e l)) → (bB (F12_is U 37) fun r_1 => if r_1 = 0 then bB (F12_is U 38) fun r_2 => if r_2 = 0 then bB (F12_is U 39) fun r_3 => if r_3 = 0 then bB (F12_is U 40) fun r_4 => if r_4 = 0 then A else some (6 : Int32) else some (5 : Int32) else some (4 : Int32) else some (3 : Int32)) = some (nI (chn b p e ((37, 3) :: (38, 4) :: (39, 5) :: (40, 6) :: l))) := by
    intro l A hA
    simp only [hI 37 (by decide), hI 38 (by decide), hI 39 (by decide), hI 40 (by decide), is_b]
    by_cases h37 : mtB b p e 37 = true
    · rw [if_pos h37, chn, if_pos h37]; rfl
    rw [if_neg h37, chn, if_neg h37]
    by_cases h38 : mtB b p e 38 = true
    · rw [if_pos h38, chn, if_pos h38]; rfl
    rw [if_neg h38, chn, if_neg h38]
    by_cases h39 : mtB b p e 39 = true
    · rw [if_pos h39, chn, if_pos h39]; rfl
    rw [if_neg h39, chn, if_neg h39]
    by_cases h40 : mtB b p e 40 = true
    · rw [if_pos h40, chn, if_pos h40]; rfl
    rw [if_neg h40, chn, if_neg h40]
    exact hA
  rcases (show r = 0 ∨ r = 1 ∨ r = 2 ∨ r = 3 by omega) with rfl | rfl | rfl | rfl
  · rw [if_neg (by decide), if_pos (by decide), L_flightWord hI]
    exact h4 _ _ rfl
  · rw [if_neg (by decide), if_neg (by decide), if_pos (by decide), L_armWord hI]
    exact h4 _ _ rfl
  · rw [if_pos (by decide), L_planWord hI]
    rfl
  · rw [if_neg (by decide), if_neg (by decide), if_neg (by decide), L_trainWord hI]
    exact h4 _ _ rfl
theorem sgn_if {α : Type} {c : Nat} (hc : c < 256) (A B : α) : (if nI c = 59 then A else if nI c = 43 then A else if nI c = 45 then A else if nI c = 42 then A else if nI c = 47 then A else if nI c = 40 then A else if nI c = 41 then A else if nI c = 60 then A else if nI c = 61 then A else if nI c = 62 then A else B) = if snB c = true then A else B := by
  have e : ∀ x : Nat, x < 256 → (nI c = nI x ↔ c = x) := fun x hx => nI_eq (by omega) (by omega)
  unfold snB
  simp only [Bool.or_eq_true, beq_iff_eq]
  by_cases h59 : c = 59
  · subst h59; rfl
  rw [if_neg (show ¬ nI c = 59 from fun q => h59 ((e 59 (by decide)).mp q))]
  by_cases h43 : c = 43
  · subst h43; rfl
  rw [if_neg (show ¬ nI c = 43 from fun q => h43 ((e 43 (by decide)).mp q))]
  by_cases h45 : c = 45
  · subst h45; rfl
  rw [if_neg (show ¬ nI c = 45 from fun q => h45 ((e 45 (by decide)).mp q))]
  by_cases h42 : c = 42
  · subst h42; rfl
  rw [if_neg (show ¬ nI c = 42 from fun q => h42 ((e 42 (by decide)).mp q))]
  by_cases h47 : c = 47
  · subst h47; rfl
  rw [if_neg (show ¬ nI c = 47 from fun q => h47 ((e 47 (by decide)).mp q))]
  by_cases h40 : c = 40
  · subst h40; rfl
  rw [if_neg (show ¬ nI c = 40 from fun q => h40 ((e 40 (by decide)).mp q))]
  by_cases h41 : c = 41
  · subst h41; rfl
  rw [if_neg (show ¬ nI c = 41 from fun q => h41 ((e 41 (by decide)).mp q))]
  by_cases h60 : c = 60
  · subst h60; rfl
  rw [if_neg (show ¬ nI c = 60 from fun q => h60 ((e 60 (by decide)).mp q))]
  by_cases h61 : c = 61
  · subst h61; rfl
  rw [if_neg (show ¬ nI c = 61 from fun q => h61 ((e 61 (by decide)).mp q))]
  by_cases h62 : c = 62
  · subst h62; rfl
  rw [if_neg (show ¬ nI c = 62 from fun q => h62 ((e 62 (by decide)).mp q))]
  rw [if_neg (by omega)]
end

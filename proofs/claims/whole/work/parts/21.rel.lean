variable {gG : Nat → Int32}
/-! the relation of the two systems -/
/-- where the class holds what stands at place j of the reference's row: object, place -/
def loc (b j : Nat) : Option (Nat × Nat) :=
  if j = 0 then some (b, 2) else if j = 1 then some (b, 3) else if j = 2 then some (b, 6) else if j = 3 then some (b, 0)
  else if j < 60 then (if (j - 4) % 7 < 4 then some (b + 28 + 2 * ((j - 4) / 7), (j - 4) % 7) else if (j - 4) % 7 = 4 then some (b + 28 + 2 * ((j - 4) / 7), 5) else none)
  else if j < 65 then some (b + 1, j - 60)
  else if j = 65 then none
  else if j = 66 then some (b, 1) else if j = 67 then some (b, 4) else if j = 68 then some (b, 5) else if j = 69 then some (b, 7)
  else if j < 82 then some (b + 2 + (j - 70) % 2, (j - 70) / 2)
  else if j < 90 then some (b + 28 + 2 * (j - 82), 4)
  else if j < 150 then some (b + 6, j - 90)
  else if j < 640 then none
  else if j < 643 then some (b + 7 + 7 * (j - 640), 0)
  else if j < 3296 then none
  else if j < 4296 then (if (j - 3296) % 10 < 9 then some (b + 5, 9 * ((j - 3296) / 10) + (j - 3296) % 10) else none)
  else none
def lcv (b k i : Nat) : Nat :=
  if k = b then (if i = 2 then 0 else if i = 3 then 1 else if i = 6 then 2 else if i = 0 then 3 else if i = 1 then 66 else if i = 4 then 67 else if i = 5 then 68 else 69)
  else if k = b + 1 then 60 + i else if k = b + 2 then 70 + 2 * i else if k = b + 3 then 71 + 2 * i else if k = b + 5 then 3296 + 10 * (i / 9) + i % 9 else if k = b + 6 then 90 + i
  else if k = b + 7 then 640 else if k = b + 14 then 641 else if k = b + 21 then 642
  else if i = 4 then 82 + (k - b - 28) / 2 else if i = 5 then 8 + 7 * ((k - b - 28) / 2) else 4 + 7 * ((k - b - 28) / 2) + i
theorem lcv_loc {b j k i : Nat} (h : loc b j = some (k, i)) : lcv b k i = j := by
  grind (splits := 60) [loc, lcv]
/-- the objects of a world at b that are told by loc -/
def inL (b k : Nat) : Prop := k = b ∨ k = b + 1 ∨ k = b + 2 ∨ k = b + 3 ∨ k = b + 5 ∨ k = b + 6 ∨ k = b + 7 ∨ k = b + 14 ∨ k = b + 21 ∨ (b + 28 ≤ k ∧ k ≤ b + 42 ∧ (k - b) % 2 = 0)
theorem loc_in {b j k i : Nat} (h : loc b j = some (k, i)) : inL b k := by
  grind (splits := 60) [loc, inL]
def RE (b o : Nat) (Sc Sm : pS) : Prop := ∀ j k i, loc b j = some (k, i) → Sc k i = Sm o j
theorem RE_set {b o j k i : Nat} {Sc Sm : pS} {v : Int32} (h : RE b o Sc Sm) (hl : loc b j = some (k, i)) : RE b o (sU Sc k i v) (sU Sm o j v) := by
  intro j' k' i' h'
  have e := lcv_loc hl
  have e' := lcv_loc h'
  by_cases hj : j' = j
  · subst hj
    rw [hl] at h'
    cases h'
    rw [sU_s, sU_s]
  · rw [sU_n (fun q => hj (by rw [← e', ← e, q.1, q.2])), sU_n (fun q => hj q.2)]
    exact h j' k' i' h'
theorem RE_c {b o k i : Nat} {Sc Sm : pS} {v : Int32} (h : RE b o Sc Sm) (hk : ¬ inL b k) : RE b o (sU Sc k i v) Sm := by
  intro j' k' i' h'
  have e := loc_in h'
  rw [sU_n (fun q => hk (by rw [← q.1]; exact e))]
  exact h j' k' i' h'
theorem RE_o {b o k i : Nat} {Sc Sm : pS} {v : Int32} (h : RE b o Sc Sm) (hk : k ≠ o) : RE b o Sc (sU Sm k i v) := by
  intro j' k' i' h'
  rw [sU_n (fun q => hk q.1.symm)]
  exact h j' k' i' h'
/-- a step of the class: what it is and its number (as one), and the two numbers of the reference's -/
def fmN (k n : Nat) : Nat := if k = 0 then 1 + n else if k = 1 then 10 + n else if n = 0 then 18 else if n = 1 then 14 else if n = 2 then 13 else 19
def nfN (k : Nat) : Nat := if k = 0 then 9 else if k = 1 then 8 else 4
def wbN (k : Nat) : Nat := if k = 0 then 20 else if k = 1 then 24 else 27
def SR (k c n : Nat) (x s v : Int32) : Prop := x = nI (c + 16 * n) ∧ n ≤ 9999 ∧ ((c = 0 ∧ s = nI 0 ∧ v = nI n) ∨ (c = 1 ∧ n < nfN k ∧ s = nI (fmN k n)) ∨ (c = 5 ∧ 0 < n ∧ s = nI 26 ∧ v = nI n) ∨ (2 ≤ c ∧ c ≠ 5 ∧ c ≤ 11 ∧ s = nI (21 + c)))
/-- a step's kind on a stack of numbers (false) and truths (true) -/
def ty1 (c : Nat) (st : List Bool) : Option (List Bool) :=
  if c ≤ 1 then (if st.length < 32 then some (false :: st) else none)
  else if c = 5 then (match st with | _ :: r => some (false :: r) | [] => none)
  else if c = 9 then (match st with | true :: r => some (true :: r) | _ => none)
  else if c ≤ 4 then (match st with | _ :: _ :: r => some (false :: r) | _ => none)
  else if c ≤ 8 then (match st with | _ :: _ :: r => some (true :: r) | _ => none)
  else (match st with | true :: true :: r => some (true :: r) | _ => none)
def tyN (kd : Nat → Nat) : Nat → Nat → List Bool → Option (List Bool)
  | _, 0, st => some st
  | a, n + 1, st => (ty1 (kd a) st).bind (fun st' => tyN kd (a + 1) n st')
def lineOK (K k o i wd fr md tt : Nat) (kd nm : Nat → Nat) (Sc Sm : pS) : Prop :=
  wd < 8 ∧ Sc (K + 1) i = nI wd ∧ Sm o (788 + 16 * k + i) = nI (wbN k + wd) ∧ Sc (K + 2) i = nI fr ∧ Sm o (644 + 16 * k + i) = nI fr ∧ Sc (K + 3) i = nI md ∧ Sm o (692 + 16 * k + i) = nI md ∧ Sc (K + 4) i = nI tt ∧ Sm o (740 + 16 * k + i) = nI tt ∧ fr ≤ md ∧ md ≤ tt ∧ tt ≤ 400
  ∧ tyN kd fr (md - fr) [] = some [false] ∧ (md < tt → tyN kd md (tt - md) [] = some [true])
  ∧ ∀ p, fr ≤ p → p < tt → SR k (kd p) (nm p) (Sc (K + 5) p) (Sm o (836 + 820 * k + 2 * p)) (Sm o (836 + 820 * k + 2 * p + 1))
def LR (K k o : Nat) (Sc Sm : pS) : Prop := ∃ (nl : Nat) (kd nm : Nat → Nat), nl ≤ 16 ∧ Sm o (640 + k) = nI nl ∧ ∀ i, i < nl → ∃ wd fr md tt, lineOK K k o i wd fr md tt kd nm Sc Sm
def Wn (o : Nat) (Sm : pS) (ns nt nl ng rd tn : Nat) : Prop :=
  ns ≤ 6 ∧ nt ≤ 8 ∧ nl ≤ 100 ∧ ng ≤ 60 ∧ rd ≤ 6 ∧ (tn < nt ∨ (tn = 0 ∧ nt = 0 ∧ rd = 0)) ∧ Sm o 67 = nI ns ∧ Sm o 68 = nI nt ∧ Sm o 2 = nI nl ∧ Sm o 69 = nI ng ∧ Sm o 0 = nI rd ∧ Sm o 1 = nI tn ∧ isN (Sm o 66) 10000 ∧ isN (Sm o 62) 10 ∧ isN (Sm o 63) 10
def ordOK (b o ns t i : Nat) (Sc Sm : pS) : Prop := Sc (b + 29 + 2 * t) (5 * i) = Sm o (150 + 60 * t + 5 * i) ∧ (Sm o (150 + 60 * t + 5 * i) = -1 ∨ (isN (Sm o (150 + 60 * t + 5 * i)) 100 ∧ isN (Sm o (150 + 60 * t + 5 * i + 1)) 61 ∧ isN (Sm o (150 + 60 * t + 5 * i + 2)) ns ∧ isN (Sm o (150 + 60 * t + 5 * i + 3)) 10 ∧ Sc (b + 29 + 2 * t) (5 * i + 1) = Sm o (150 + 60 * t + 5 * i + 1) ∧ Sc (b + 29 + 2 * t) (5 * i + 2) = Sm o (150 + 60 * t + 5 * i + 2) ∧ Sc (b + 29 + 2 * t) (5 * i + 3) = Sm o (150 + 60 * t + 5 * i + 3) ∧ Sc (b + 29 + 2 * t) (5 * i + 4) = Sm o (150 + 60 * t + 5 * i + 4)))
def thrOK (b o ns t : Nat) (Sc Sm : pS) : Prop := isN (Sm o (4 + 7 * t)) 100 ∧ isN (Sm o (5 + 7 * t)) 1001 ∧ isN (Sm o (6 + 7 * t)) 475201 ∧ ∃ nx no, nx ≤ no ∧ no ≤ 12 ∧ Sm o (8 + 7 * t) = nI nx ∧ Sm o (82 + t) = nI no ∧ ∀ i, i < no → ordOK b o ns t i Sc Sm
def WB (o ns nl : Nat) (Sm : pS) : Prop := ∀ i, i < nl → isN (Sm o (3296 + 10 * i + 3)) ns ∧ isN (Sm o (3296 + 10 * i + 4)) 100 ∧ isN (Sm o (3296 + 10 * i + 5)) 91
def RW (b o ns nt nl ng rd tn : Nat) (Sc Sm : pS) : Prop := RE b o Sc Sm ∧ Wn o Sm ns nt nl ng rd tn ∧ (∀ t, t < nt → thrOK b o ns t Sc Sm) ∧ WB o ns nl Sm ∧ LR (b + 7) 0 o Sc Sm ∧ LR (b + 14) 1 o Sc Sm ∧ LR (b + 21) 2 o Sc Sm
/-- one of the rows to go back by: wj: the reference's row, wn: the state behind it, q: the class' row -/
def rowOK (wj wn : Nat → Int32) (cq : Nat → Int32) (nt : Nat) (no : Nat → Int32) : Prop := ∃ rd tn nl nl2 nx m, rd ≤ 5 ∧ tn < nt ∧ (nl ≤ nl2 ∧ nl2 ≤ 100) ∧ nx ≤ m ∧ m ≤ 12 ∧ wj 0 = nI rd ∧ wj 1 = nI tn ∧ wj 2 = nI nl ∧ wn 2 = nI nl2 ∧ no tn = nI m ∧ wj (8 + 7 * tn) = nI nx
  ∧ cq 0 = wj 3 ∧ cq 1 = wj 2 ∧ cq 2 = wj 0 ∧ cq 3 = wj 1 ∧ cq 4 = wj (5 + 7 * tn) ∧ cq 5 = wj (6 + 7 * tn) ∧ cq 6 = wj (7 + 7 * tn) ∧ cq 7 = wj (8 + 7 * tn)
  ∧ isN (wj (5 + 7 * tn)) 1001 ∧ isN (wj (6 + 7 * tn)) 475201 ∧ wj (4 + 7 * tn) = wn (4 + 7 * tn) ∧ ∀ t, t < 8 → t ≠ tn → ∀ f, f < 5 → wj (4 + 7 * t + f) = wn (4 + 7 * t + f)
def PastR (nu la nt : Nat) (Sc Sm : pS) : Prop := nu ≤ 8 ∧ la < 8 ∧ Sm 0 3 = nI nu ∧ Sc 65 0 = nI nu ∧ Sc 65 1 = nI la ∧ ∀ j, j < nu → rowOK (fun i => Sm 3 (60 * (nu - 1 - j) + i)) (if j = 0 then fun i => Sm 1 i else fun i => Sm 3 (60 * (nu - j) + i)) (Sc (67 + (la + 8 - j) % 8)) nt (fun t => Sm 1 (82 + t))
def TapeR (n : Nat) (Sc Sm : pS) : Prop := n ≤ 400 ∧ Sm 0 16 = nI n ∧ Sc 46 0 = nI n ∧ ∀ i, i < n → ∃ c, c < 256 ∧ Sm 7 i = nI c ∧ Sc 47 i = (nI c).toInt8.toInt32
def FaultR (Sc Sm : pS) : Prop := Sc 45 1 = Sm 0 23 ∧ Sc 45 2 = Sm 0 25
def ImgR (Sc Sm : pS) : Prop := (Sm 0 4 = 0 ∧ Sc 0 5 = 0) ∨ (Sm 0 4 = 1 ∧ Sc 0 5 = 75 ∧ ∃ ns nt nl ng rd tn, RW 75 2 ns nt nl ng rd tn Sc Sm)
def MarkR (Sm : pS) : Prop := ∀ i, i < 100100 → Sm 13 i = 0
def AllR (gG : Nat → Int32) (Sc : pS) : Prop := (Sc 0 6 = 0 ∨ Sc 0 6 = 119) ∧ (Sc 0 7 = 0 ∨ (Sc 0 7 = 131 ∧ ((Sc 131 2 = 132 ∧ Sc 131 3 = 133) ∨ (Sc 131 2 = 133 ∧ Sc 131 3 = 132)))) ∧ ∀ j, 5 ≤ j → j < 8 → Sc 0 j = gG j
def Rel (gG : Nat → Int32) (Sc Sm : pS) : Prop := ∃ ns nt nl ng rd tn nu la np, RW 1 1 ns nt nl ng rd tn Sc Sm ∧ PastR nu la nt Sc Sm ∧ TapeR np Sc Sm ∧ FaultR Sc Sm ∧ ImgR Sc Sm ∧ MarkR Sm ∧ (AllR gG) Sc
/-- what is thought only -/
def scC (k : Nat) : Prop := k = 14 ∨ k = 21 ∨ k = 28 ∨ (59 ≤ k ∧ k ≤ 64) ∨ (119 ≤ k ∧ k ≠ 131)
def scM (k : Nat) : Prop := 8 ≤ k ∧ k ≠ 13
def fC (S S' : pS) : Prop := ∀ k, ¬ scC k → S' k = S k
def fM (S S' : pS) : Prop := (∀ k, k ≠ 0 → ¬ scM k → S' k = S k) ∧ ∀ j, j < 27 → S' 0 j = S 0 j
theorem fC_r (S : pS) : fC S S := fun _ _ => rfl
theorem fM_r (S : pS) : fM S S := ⟨fun _ _ _ => rfl, fun _ _ => rfl⟩
theorem fC_t {S S' S'' : pS} (h : fC S S') (h' : fC S' S'') : fC S S'' := fun k hk => (h' k hk).trans (h k hk)
theorem fM_t {S S' S'' : pS} (h : fM S S') (h' : fM S' S'') : fM S S'' := ⟨fun k h0 hk => (h'.1 k h0 hk).trans (h.1 k h0 hk), fun j hj => (h'.2 j hj).trans (h.2 j hj)⟩
theorem fC_u {S S' : pS} {k j : Nat} {v : Int32} (hk : scC k) (h : fC S S') : fC S (sU S' k j v) := fun k' hk' => by
  have hn : k' ≠ k := fun e => hk' (by rw [e]; exact hk)
  rw [sU_ne hn]
  exact h k' hk'
theorem fM_u {S S' : pS} {k j : Nat} {v : Int32} (hk : scM k ∨ (k = 0 ∧ 27 ≤ j)) (h : fM S S') : fM S (sU S' k j v) := by
  refine ⟨fun k' h0 hk' => ?_, fun j' hj' => ?_⟩
  · have : k' ≠ k := fun e => by
      subst e
      rcases hk with q | q
      · exact hk' q
      · exact h0 q.1
    rw [sU_ne this]
    exact h.1 k' h0 hk'
  · rw [sU_n (fun q => by
      rcases hk with r | r
      · have := r.1; omega
      · omega)]
    exact h.2 j' hj'
theorem LR_fr {K k o : Nat} {Sc Sm Sc' Sm' : pS} (h : LR K k o Sc Sm) (hc : ∀ i, 0 < i → i < 6 → Sc' (K + i) = Sc (K + i)) (hm : Sm' o = Sm o) : LR K k o Sc' Sm' := by
  obtain ⟨nl, kd, nm, h1, h2, h3⟩ := h
  refine ⟨nl, kd, nm, h1, by rw [hm]; exact h2, fun i hi => ?_⟩
  obtain ⟨wd, fr, md, tt, q⟩ := h3 i hi
  refine ⟨wd, fr, md, tt, ?_⟩
  unfold lineOK at q ⊢
  rw [hm, hc 1 (by omega) (by omega), hc 2 (by omega) (by omega), hc 3 (by omega) (by omega), hc 4 (by omega) (by omega), hc 5 (by omega) (by omega)]
  exact q
theorem RW_fr {b o ns nt nl ng rd tn : Nat} {Sc Sm Sc' Sm' : pS} (h : RW b o ns nt nl ng rd tn Sc Sm) (hc : ∀ k, b ≤ k → k < b + 44 → k ≠ b + 13 → k ≠ b + 20 → k ≠ b + 27 → Sc' k = Sc k) (hm : Sm' o = Sm o) : RW b o ns nt nl ng rd tn Sc' Sm' := by
  obtain ⟨h1, h2, h3, h4, h5, h6, h7⟩ := h
  refine ⟨?_, ?_, ?_, ?_, LR_fr h5 (fun i h0 h1 => hc _ (by omega) (by omega) (by omega) (by omega) (by omega)) hm, LR_fr h6 (fun i h0 h1 => hc _ (by omega) (by omega) (by omega) (by omega) (by omega)) hm, LR_fr h7 (fun i h0 h1 => hc _ (by omega) (by omega) (by omega) (by omega) (by omega)) hm⟩
  · intro j k i hl
    have e := loc_in hl
    unfold inL at e
    rw [hm, hc k (by omega) (by omega) (by omega) (by omega) (by omega)]
    exact h1 j k i hl
  · unfold Wn at h2 ⊢
    rw [hm]; exact h2
  · intro t ht
    have q := h3 t ht
    unfold Wn at h2
    unfold thrOK ordOK at q ⊢
    rw [hm, hc (b + 29 + 2 * t) (by omega) (by omega) (by omega) (by omega) (by omega)]
    exact q
  · unfold WB at h4 ⊢
    rw [hm]; exact h4
theorem Rel_fr {Sc Sm Sc' Sm' : pS} (h : (Rel gG) Sc Sm) (hc : fC Sc Sc') (hm : fM Sm Sm') : (Rel gG) Sc' Sm' := by
  obtain ⟨ns, nt, nl, ng, rd, tn, nu, la, np, h1, h2, h3, h4, h5, h6, h7⟩ := h
  have m1 := hm.1 1 (by decide) (by unfold scM; omega)
  have m2 := hm.1 2 (by decide) (by unfold scM; omega)
  have m3 := hm.1 3 (by decide) (by unfold scM; omega)
  have m7 := hm.1 7 (by decide) (by unfold scM; omega)
  have m13 := hm.1 13 (by decide) (by unfold scM; omega)
  have c0 := hc 0 (by unfold scC; omega)
  have c45 := hc 45 (by unfold scC; omega)
  have c46 := hc 46 (by unfold scC; omega)
  have c47 := hc 47 (by unfold scC; omega)
  have c65 := hc 65 (by unfold scC; omega)
  have c131 := hc 131 (by unfold scC; omega)
  refine ⟨ns, nt, nl, ng, rd, tn, nu, la, np, RW_fr h1 (fun k a1 a2 a3 a4 a5 => hc k (by unfold scC; omega)) m1, ?_, ?_, ?_, ?_, ?_, ?_⟩
  · unfold PastR at h2 ⊢
    rw [hm.2 3 (by decide), c65, m1, m3]
    obtain ⟨a1, a2, a3, a4, a5, a6⟩ := h2
    refine ⟨a1, a2, a3, a4, a5, fun j hj => ?_⟩
    rw [hc (67 + (la + 8 - j) % 8) (by unfold scC; omega)]
    exact a6 j hj
  · unfold TapeR at h3 ⊢
    rw [hm.2 16 (by decide), c46, c47, m7]
    exact h3
  · unfold FaultR at h4 ⊢
    rw [hm.2 23 (by decide), hm.2 25 (by decide), c45]
    exact h4
  · unfold ImgR at h5 ⊢
    rw [hm.2 4 (by decide), c0]
    rcases h5 with q | ⟨a1, a2, ns, nt, nl, ng, rd, tn, q⟩
    · exact Or.inl q
    · exact Or.inr ⟨a1, a2, ns, nt, nl, ng, rd, tn, RW_fr q (fun k a1 a2 a3 a4 a5 => hc k (by unfold scC; omega)) m2⟩
  · unfold MarkR at h6 ⊢
    rw [m13]; exact h6
  · unfold AllR at h7 ⊢
    rw [c0, c131]; exact h7

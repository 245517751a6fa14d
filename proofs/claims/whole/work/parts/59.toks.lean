section
/-! the tokens of a text -/
def ltB (c : Nat) : Bool := (decide (97 ≤ c) && decide (c ≤ 122)) || (decide (65 ≤ c) && decide (c ≤ 90))
def dgB (c : Nat) : Bool := decide (48 ≤ c) && decide (c ≤ 57)
def blB (c : Nat) : Bool := c == 32 || c == 10
def snB (c : Nat) : Bool := c == 59 || c == 43 || c == 45 || c == 42 || c == 47 || c == 40 || c == 41 || c == 60 || c == 61 || c == 62
def sgI (c : Nat) : Int32 := (nI c).toInt8.toInt32
theorem ltR : ∀ c : Fin 256, F12_isLetter (nI c.val) = (if ltB c.val = true then 1 else 0) ∧ F12_isDigit (nI c.val) = (if dgB c.val = true then 1 else 0) := by decide +kernel
theorem ltC : ∀ c : Fin 256, F6_isLetter (sgI c.val) = (if ltB c.val = true then 1 else 0) ∧ F6_isDigit (sgI c.val) = (if dgB c.val = true then 1 else 0) ∧ F6_isSign (sgI c.val) = (if snB c.val = true then 1 else 0) ∧ ((sgI c.val = 32 ∨ sgI c.val = 10) ↔ blB c.val = true) ∧ (c.val < 128 → sgI c.val = nI c.val) ∧ (128 ≤ c.val → sgI c.val < 0) := by decide +kernel
/-- what stands at p .. e is literal i -/
def mtB (b : Nat → Nat) (p e i : Nat) : Bool := decide (e - p = litLen.getD i 0) && (List.range (litLen.getD i 0)).all (fun k => decide (nI (b (p + k)) = strch i k))
theorem mtB_e {b : Nat → Nat} {p e i : Nat} : mtB b p e i = true ↔ e - p = litLen.getD i 0 ∧ ∀ k, k < litLen.getD i 0 → nI (b (p + k)) = strch i k := by
  unfold mtB
  rw [Bool.and_eq_true, decide_eq_true_iff, List.all_eq_true]
  constructor
  · rintro ⟨h1, h2⟩
    exact ⟨h1, fun k hk => of_decide_eq_true (h2 k (List.mem_range.mpr hk))⟩
  · rintro ⟨h1, h2⟩
    exact ⟨h1, fun k hk => decide_eq_true (h2 k (List.mem_range.mp hk))⟩
def fnd (b : Nat → Nat) (p e : Nat) : List (Nat × Nat) → Nat → Nat
  | [], _ => 0
  | (i, _) :: r, j => if mtB b p e i = true then 256 + j else fnd b p e r (j + 1)
/-- the words of a text: the literal, and the reference's token -/
def wdL (r : Nat) : List (Nat × Nat) :=
  if r = 0 then [(37, 3), (38, 4), (39, 5), (40, 6), (4, 20), (5, 21), (6, 22), (7, 23), (8, 41), (9, 42), (10, 43), (11, 44), (12, 45), (13, 46), (14, 47), (15, 48), (16, 49)]
  else if r = 1 then [(37, 3), (38, 4), (39, 5), (40, 6), (17, 24), (18, 25), (19, 26), (20, 50), (21, 51), (22, 52), (23, 53), (24, 54), (25, 55), (26, 56), (27, 57)]
  else if r = 2 then [(32, 7), (34, 9), (35, 10), (21, 11), (36, 12), (33, 8)]
  else [(37, 3), (38, 4), (39, 5), (40, 6), (28, 27), (29, 28), (30, 58), (24, 54), (23, 53), (31, 59)]
/-- the reference's token of the class' -/
def tmN (r k : Nat) : Nat := if k = 0 then 1 else if k = 1 then 2 else if k = 2 then 0 else if k < 256 then 100 + k else ((wdL r).map Prod.snd).getD (k - 256) 1
def amt (b : Nat → Nat) (p : Nat) : Nat → Nat
  | 0 => 0
  | q + 1 => 10 * amt b p q + (b (p + q) - 48)
def Tok (b : Nat → Nat) (n r i k v p e : Nat) : Prop :=
  i ≤ p ∧ p ≤ n ∧ (∀ j, i ≤ j → j < p → blB (b j) = true) ∧ (p < n → blB (b p) = false) ∧ (
  (p = n ∧ k = 2 ∧ e = n) ∨
  (p < n ∧ ltB (b p) = true ∧ p < e ∧ e ≤ n ∧ (∀ j, p ≤ j → j < e → ltB (b j) = true) ∧ (e < n → ltB (b e) = false) ∧ k = fnd b p e (wdL r) 0) ∨
  (p < n ∧ ltB (b p) = false ∧ dgB (b p) = true ∧ p < e ∧ e ≤ n ∧ (∀ j, p ≤ j → j < e → dgB (b j) = true) ∧ (e < n → dgB (b e) = false) ∧ ((e - p ≤ 4 ∧ k = 1 ∧ v = amt b p (e - p)) ∨ (4 < e - p ∧ k = 0))) ∨
  (p < n ∧ ltB (b p) = false ∧ dgB (b p) = false ∧ e = p + 1 ∧ ((snB (b p) = true ∧ k = b p) ∨ (snB (b p) = false ∧ k = 0))))
theorem run_ex (Q : Nat → Bool) (n : Nat) : ∀ d i, i + d = n → ∃ p, i ≤ p ∧ p ≤ n ∧ (∀ j, i ≤ j → j < p → Q j = true) ∧ (p < n → Q p = false) := by
  intro d
  induction d with
  | zero => intro i h; exact ⟨i, Nat.le_refl _, by omega, fun j h1 h2 => by omega, fun h1 => by omega⟩
  | succ d ih =>
    intro i h
    cases hq : Q i with
    | false => exact ⟨i, Nat.le_refl _, by omega, fun j h1 h2 => by omega, fun _ => hq⟩
    | true =>
      obtain ⟨p, h1, h2, h3, h4⟩ := ih (i + 1) (by omega)
      refine ⟨p, by omega, h2, fun j h5 h6 => ?_, h4⟩
      by_cases q : j = i
      · rw [q]; exact hq
      · exact h3 j (by omega) h6
theorem Tok_ex {b : Nat → Nat} {n r : Nat} (i : Nat) (hi : i ≤ n) : ∃ k v p e, Tok b n r i k v p e := by
  obtain ⟨p, h1, h2, h3, h4⟩ := run_ex (fun j => blB (b j)) n (n - i) i (by omega)
  by_cases hp : p = n
  · exact ⟨2, 0, p, n, h1, h2, h3, h4, Or.inl ⟨hp, rfl, rfl⟩⟩
  · cases hl : ltB (b p) with
    | true =>
      obtain ⟨e, g1, g2, g3, g4⟩ := run_ex (fun j => ltB (b j)) n (n - p) p (by omega)
      have hpe : p < e := by
        by_cases q : p < e
        · exact q
        · have e1 : e = p := by omega
          have := g4 (by omega)
          simp only [e1, hl] at this
          cases this
      exact ⟨_, 0, p, e, h1, h2, h3, h4, Or.inr (Or.inl ⟨by omega, hl, hpe, g2, g3, g4, rfl⟩)⟩
    | false =>
      cases hd : dgB (b p) with
      | true =>
        obtain ⟨e, g1, g2, g3, g4⟩ := run_ex (fun j => dgB (b j)) n (n - p) p (by omega)
        have hpe : p < e := by
          by_cases q : p < e
          · exact q
          · have e1 : e = p := by omega
            have := g4 (by omega)
            simp only [e1, hd] at this
            cases this
        by_cases h4' : e - p ≤ 4
        · exact ⟨1, _, p, e, h1, h2, h3, h4, Or.inr (Or.inr (Or.inl ⟨by omega, hl, hd, hpe, g2, g3, g4, Or.inl ⟨h4', rfl, rfl⟩⟩))⟩
        · exact ⟨0, 0, p, e, h1, h2, h3, h4, Or.inr (Or.inr (Or.inl ⟨by omega, hl, hd, hpe, g2, g3, g4, Or.inr ⟨by omega, rfl⟩⟩))⟩
      | false =>
        cases hs : snB (b p) with
        | true => exact ⟨b p, 0, p, p + 1, h1, h2, h3, h4, Or.inr (Or.inr (Or.inr ⟨by omega, hl, hd, rfl, Or.inl ⟨hs, rfl⟩⟩))⟩
        | false => exact ⟨0, 0, p, p + 1, h1, h2, h3, h4, Or.inr (Or.inr (Or.inr ⟨by omega, hl, hd, rfl, Or.inr ⟨hs, rfl⟩⟩))⟩
theorem fnd_c {b : Nat → Nat} {p e : Nat} : ∀ (l : List (Nat × Nat)) (j : Nat), fnd b p e l j = 0 ∨ (256 + j ≤ fnd b p e l j ∧ fnd b p e l j < 256 + j + l.length) := by
  intro l
  induction l with
  | nil => intro j; exact Or.inl rfl
  | cons a r ih =>
    intro j
    obtain ⟨i, t⟩ := a
    unfold fnd
    by_cases h : mtB b p e i = true
    · rw [if_pos h]; exact Or.inr ⟨Nat.le_refl _, by rw [List.length_cons]; omega⟩
    · rw [if_neg h]
      rcases ih (j + 1) with q | q
      · exact Or.inl q
      · refine Or.inr ?_
        rw [List.length_cons]; omega
theorem snB_c {c : Nat} (h : snB c = true) : 40 ≤ c ∧ c ≤ 62 := by
  unfold snB at h
  simp only [Bool.or_eq_true, beq_iff_eq] at h
  omega
theorem wdL_len (r : Nat) : (wdL r).length ≤ 17 := by
  unfold wdL
  split
  · exact Nat.le_refl _
  · split
    · decide
    · split <;> decide
/-- what the kinds can be -/
def isK (k : Nat) : Prop := k ≤ 2 ∨ (40 ≤ k ∧ k ≤ 62 ∧ snB k = true) ∨ (256 ≤ k ∧ k < 273)
theorem Tok_k {b : Nat → Nat} {n r i k v p e : Nat} (h : Tok b n r i k v p e) : isK k ∧ (k = 2 ↔ p = n) ∧ (k = 2 → e = n) ∧ e ≤ n ∧ (k ≠ 2 → p < e) ∧ (k = 1 → v ≤ 9999) ∧ i ≤ e := by
  obtain ⟨h1, h2, h3, h4, h5⟩ := h
  unfold isK
  rcases h5 with ⟨a, b1, c⟩ | ⟨a, b1, c, d, e1, f, g⟩ | ⟨a, b0, b1, c, d, e1, f, g⟩ | ⟨a, b1, c, d, g⟩
  · exact ⟨Or.inl (by omega), ⟨fun _ => a, fun _ => b1⟩, fun _ => c, by omega, fun q => absurd b1 q, fun q => by omega, by omega⟩
  · have := fnd_c (b := b) (p := p) (e := e) (wdL r) 0
    have hl := wdL_len r
    rw [← g] at this
    exact ⟨by omega, ⟨fun q => by omega, fun q => by omega⟩, fun q => by omega, d, fun _ => c, fun q => by omega, by omega⟩
  · refine ⟨by omega, ⟨fun q => by omega, fun q => by omega⟩, fun q => by omega, d, fun _ => c, fun q => ?_, by omega⟩
    rcases g with ⟨g1, g2, g3⟩ | ⟨g1, g2⟩
    · have hd : ∀ q, q < e - p → b (p + q) - 48 ≤ 9 := fun q hq => by
        have := e1 (p + q) (by omega) (by omega)
        unfold dgB at this
        simp only [Bool.and_eq_true, decide_eq_true_iff] at this
        omega
      rw [g3]
      rcases (show e - p = 1 ∨ e - p = 2 ∨ e - p = 3 ∨ e - p = 4 by omega) with z | z | z | z
      · rw [z] at hd ⊢
        have h0 := hd 0 (by omega)
        simp only [amt]
        omega
      · rw [z] at hd ⊢
        have h0 := hd 0 (by omega)
        have h1 := hd 1 (by omega)
        simp only [amt]
        omega
      · rw [z] at hd ⊢
        have h0 := hd 0 (by omega)
        have h1 := hd 1 (by omega)
        have h2 := hd 2 (by omega)
        simp only [amt]
        omega
      · rw [z] at hd ⊢
        have h0 := hd 0 (by omega)
        have h1 := hd 1 (by omega)
        have h2 := hd 2 (by omega)
        have h3 := hd 3 (by omega)
        simp only [amt]
        omega
    · omega
  · rcases g with ⟨g1, g2⟩ | ⟨g1, g2⟩
    · have := snB_c g1
      exact ⟨Or.inr (Or.inl (by rw [g2]; exact ⟨this.1, this.2, g1⟩)), ⟨fun q => by omega, fun q => by omega⟩, fun q => by omega, by omega, fun _ => by omega, fun q => by omega, by omega⟩
    · exact ⟨by omega, ⟨fun q => by omega, fun q => by omega⟩, fun q => by omega, by omega, fun _ => by omega, fun q => by omega, by omega⟩
/-- the row of the tokens: m of them, the last one the end -/
def Toks (b : Nat → Nat) (n r m : Nat) (K V P A : Nat → Nat) : Prop := n ≤ 400 ∧ (∀ j, j < n → b j < 256) ∧ 1 ≤ m ∧ m ≤ n + 1 ∧ A 0 = 0 ∧ (∀ q, q < m → Tok b n r (A q) (K q) (V q) (P q) (A (q + 1))) ∧ (∀ q, q < m → (K q = 2 ↔ q + 1 = m)) ∧ ∀ q, q < m → q ≤ A q ∧ A q ≤ n
theorem least {P : Nat → Prop} : ∀ n, P n → ∃ q, q ≤ n ∧ P q ∧ ∀ q', q' < q → ¬ P q' := by
  intro n
  induction n using Nat.strongRecOn with
  | ind n ih =>
    intro h
    by_cases hx : ∃ q, q < n ∧ P q
    · obtain ⟨q, hq, hp⟩ := hx
      obtain ⟨q', h1, h2, h3⟩ := ih q hq hp
      exact ⟨q', by omega, h2, h3⟩
    · exact ⟨n, Nat.le_refl _, h, fun q' hq hp => hx ⟨q', hq, hp⟩⟩
theorem Toks_ex {b : Nat → Nat} {n r : Nat} (hn : n ≤ 400) (hb : ∀ j, j < n → b j < 256) : ∃ m K V P A, Toks b n r m K V P A := by
  have hc : ∀ i, ∃ f : Nat × Nat × Nat × Nat, i ≤ n → Tok b n r i f.1 f.2.1 f.2.2.1 f.2.2.2 := by
    intro i
    by_cases hi : i ≤ n
    · obtain ⟨k, v, p, e, h⟩ := Tok_ex (b := b) (r := r) i hi
      exact ⟨(k, v, p, e), fun _ => h⟩
    · exact ⟨(0, 0, 0, 0), fun q => absurd q hi⟩
  obtain ⟨f, hf⟩ := Classical.axiomOfChoice hc
  let A : Nat → Nat := fun q => Nat.rec 0 (fun _ a => (f a).2.2.2) q
  have hA : ∀ q, A q ≤ n := by
    intro q
    induction q with
    | zero => exact Nat.zero_le _
    | succ q ih => exact (Tok_k (hf (A q) ih)).2.2.2.1
  have hT : ∀ q, Tok b n r (A q) (f (A q)).1 (f (A q)).2.1 (f (A q)).2.2.1 (A (q + 1)) := fun q => hf (A q) (hA q)
  have hq : ∀ q, (∀ q', q' < q → (f (A q')).1 ≠ 2) → q ≤ A q := by
    intro q
    induction q with
    | zero => intro _; exact Nat.zero_le _
    | succ q ih =>
      intro h
      have h1 := ih (fun q' h' => h q' (by omega))
      have h2 := Tok_k (hT q)
      have h3 := h2.2.2.2.2.1 (h q (by omega))
      have h4 := (hT q).1
      omega
  have hex : ∃ q, q ≤ n ∧ (f (A q)).1 = 2 := by
    by_cases hx : ∃ q, q ≤ n ∧ (f (A q)).1 = 2
    · exact hx
    · have h1 := hq (n + 1) (fun q' h' e => hx ⟨q', by omega, e⟩)
      have := hA (n + 1)
      omega
  obtain ⟨q0, hq0, hk0⟩ := hex
  obtain ⟨q1, h1, h2, h3⟩ := least (P := fun q => (f (A q)).1 = 2) q0 hk0
  refine ⟨q1 + 1, fun q => (f (A q)).1, fun q => (f (A q)).2.1, fun q => (f (A q)).2.2.1, A, hn, hb, by omega, by omega, rfl, fun q _ => hT q, fun q hq' => ?_, fun q hq' => ⟨hq q (fun q' h' => h3 q' (by omega)), hA q⟩⟩
  constructor
  · intro e
    by_cases z : q < q1
    · exact absurd e (h3 q z)
    · omega
  · intro e
    have : q = q1 := by omega
    rw [this]; exact h2
end

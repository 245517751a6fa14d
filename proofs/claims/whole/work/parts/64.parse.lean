section
/-! reading a law, side by side -/
def faN (r : Nat) : Nat := if r = 0 then 264 else if r = 1 then 263 else 262
def lix (r : Nat) : Nat := if r = 3 then 2 else r
def kS (T : pS) (q : Nat) : Nat := (T 56 q).toNatClampNeg % 16
def nS (T : pS) (q : Nat) : Nat := (T 56 q).toNatClampNeg / 16
def tmC (r K : Nat) : Bool :=
  decide (K = 1 ↔ tmN r K = 2) && decide (faN r ≤ K → 41 ≤ tmN r K ∧ tmN r K ≤ 59 ∧ tmN r K = 40 + fmN (lix r) (K - faN r) ∧ K - faN r < nfN (lix r))
  && decide (K < faN r → ¬ (41 ≤ tmN r K ∧ tmN r K ≤ 59)) && decide (tmN r K < 400)
  && decide (tmN r K = 142 ↔ K = 42) && decide (tmN r K = 147 ↔ K = 47) && decide (tmN r K = 143 ↔ K = 43) && decide (tmN r K = 145 ↔ K = 45)
  && decide (tmN r K = 6 ↔ K = 259) && decide (tmN r K = 140 ↔ K = 40) && decide (tmN r K = 141 ↔ K = 41) && decide (tmN r K = 160 ↔ K = 60)
  && decide (tmN r K = 161 ↔ K = 61) && decide (tmN r K = 162 ↔ K = 62) && decide (tmN r K = 5 ↔ K = 258) && decide (tmN r K = 4 ↔ K = 257)
  && decide (tmN r K = 3 ↔ K = 256) && decide (tmN r K = 159 ↔ K = 59) && decide (tmN r K = 0 ↔ K = 2)
  && decide ((20 ≤ tmN r K ∧ tmN r K ≤ 28) ↔ (260 ≤ K ∧ K < faN r)) && decide (260 ≤ K → K < faN r → tmN r K = wbN (lix r) + (K - 260) ∧ K - 260 < 8)
theorem tmC_0 : ∀ K : Fin 273, (tmC 0 K.val = true) := by decide +kernel
theorem tmC_1 : ∀ K : Fin 271, (tmC 1 K.val = true) := by decide +kernel
theorem tmC_3 : ∀ K : Fin 266, (tmC 3 K.val = true) := by decide +kernel
theorem Tok_w {b : Nat → Nat} {n r i k v p e : Nat} (h : Tok b n r i k v p e) : k < 256 + (wdL r).length := by
  have hk := Tok_k h
  obtain ⟨h1, h2, h3, h4, h5⟩ := h
  rcases h5 with ⟨a, b1, c⟩ | ⟨a, b1, c, d, e1, f, g⟩ | ⟨a, b0, b1, c, d, e1, f, g⟩ | ⟨a, b1, c, d, g⟩
  · omega
  · have := fnd_c (b := b) (p := p) (e := e) (wdL r) 0
    omega
  · omega
  · rcases g with ⟨g1, g2⟩ | ⟨g1, g2⟩
    · have := snB_c g1; omega
    · omega
theorem tmC_t {r K : Nat} (hr : r = 0 ∨ r = 1 ∨ r = 3) (hK : K < 256 + (wdL r).length) : tmC r K = true := by
  rcases hr with rfl | rfl | rfl
  · exact tmC_0 ⟨K, hK⟩
  · exact tmC_1 ⟨K, hK⟩
  · exact tmC_3 ⟨K, hK⟩
def frC (T T' : pS) : Prop := ∀ k', (k' < 45 ∨ 58 < k') → T' k' = T k'
def frL (T T' : pS) : Prop := (∀ k', k' ≠ 45 → k' ≠ 46 → k' ≠ 51 → k' ≠ 56 → T' k' = T k') ∧ T' 51 0 = T 51 0 ∧ T' 45 6 = T 45 6 ∧ T' 45 5 = T 45 5 ∧ T' 46 0 = T 46 0 ∧ T' 45 2 = T 45 2
def frU (U U' : pS) : Prop := (∀ k', k' ≠ 0 → k' ≠ 5 → U' k' = U k') ∧ ∀ j, (j < 14 ∨ j = 15 ∨ j = 16 ∨ j = 23 ∨ 25 ≤ j) → U' 0 j = U 0 j
theorem frC_r (T : pS) : frC T T := fun _ _ => rfl
theorem frL_r (T : pS) : frL T T := ⟨fun _ _ _ _ _ => rfl, rfl, rfl, rfl, rfl, rfl⟩
theorem frU_r (U : pS) : frU U U := ⟨fun _ _ _ => rfl, fun _ _ => rfl⟩
theorem frC_t {T T' T'' : pS} (h : frC T T') (h' : frC T' T'') : frC T T'' := fun k hk => (h' k hk).trans (h k hk)
theorem frL_t {T T' T'' : pS} (h : frL T T') (h' : frL T' T'') : frL T T'' := ⟨fun k a b c d => (h'.1 k a b c d).trans (h.1 k a b c d), h'.2.1.trans h.2.1, h'.2.2.1.trans h.2.2.1, h'.2.2.2.1.trans h.2.2.2.1, h'.2.2.2.2.1.trans h.2.2.2.2.1, h'.2.2.2.2.2.trans h.2.2.2.2.2⟩
theorem frU_t {U U' U'' : pS} (h : frU U U') (h' : frU U' U'') : frU U U'' := ⟨fun k a b => (h'.1 k a b).trans (h.1 k a b), fun j hj => (h'.2 j hj).trans (h.2 j hj)⟩
theorem frL_C {T T' : pS} (h : frL T T') : frC T T' := fun k hk => h.1 k (by omega) (by omega) (by omega) (by omega)
theorem fN_U {U U' : pS} (h : fN U U') : frU U U' := ⟨fun k a _ => h.1 k a, fun j hj => h.2 j (by omega)⟩
def PL (b : Nat → Nat) (n r m : Nat) (K V P A : Nat → Nat) (j st : Nat) (T U : pS) : Prop := T 45 1 = 0 ∧ T 45 6 = nI (faN r) ∧ CT n m K V P j T ∧ byR b n U ∧ U 0 12 = nI r ∧ U 0 17 = nI (A (j + 1)) ∧ U 0 18 = nI (tmN r (K j)) ∧ U 0 19 = nI (P j) ∧ (K j = 1 → U 0 20 = nI (V j)) ∧ T 51 1 = nI st ∧ U 0 14 = nI st ∧ (∃ ln, ln ≤ 16 ∧ T 51 0 = nI ln) ∧ ∀ q, q < st → SR (lix r) (kS T q) (nS T q) (T 56 q) (U 5 (2 * q)) (U 5 (2 * q + 1))
def BD (n m : Nat) (K V P : Nat → Nat) (fa : Nat) (T : pS) (f p : Int32) : Prop := T 45 1 = f ∧ T 45 2 = p ∧ ¬ f = 0 ∧ T 45 6 = nI fa ∧ (∃ j, CT n m K V P j T) ∧ (∃ st, st ≤ 400 ∧ T 51 1 = nI st) ∧ ∃ ln, ln ≤ 16 ∧ T 51 0 = nI ln
def TY (T : pS) (a a' c : Nat) (s1 : List Bool) : Prop := ∀ s : List Bool, s.length + c ≤ 32 → tyN (kS T) a (a' - a) s = some (s1 ++ s)
def GD (j st j' st' : Nat) (T T' U U' : pS) : Prop := j ≤ j' ∧ st ≤ st' ∧ frL T T' ∧ U' 0 24 = U 0 24 ∧ ∀ q, q < st → T' 56 q = T 56 q
def OUT (b : Nat → Nat) (n r m : Nat) (K V P A : Nat → Nat) (j st c : Nat) (t : Bool) (T U T' : pS) (p : Int32 × pS) : Prop := frC T T' ∧ frU U p.2 ∧ ((p.1 = 1 ∧ ∃ j' st', PL b n r m K V P A j' st' T' p.2 ∧ st' + j ≤ st + j' ∧ GD j st j' st' T T' U p.2 ∧ TY T' st st' c [t]) ∨ (p.1 = 0 ∧ BD n m K V P (faN r) T' (p.2 0 21) (p.2 0 22)))
theorem GD_r (j st : Nat) (T U : pS) : GD j st j st T T U U := ⟨Nat.le_refl _, Nat.le_refl _, frL_r T, rfl, fun _ _ => rfl⟩
theorem GD_t {j st j' st' j'' st'' : Nat} {T T' T'' U U' U'' : pS} (h : GD j st j' st' T T' U U') (h' : GD j' st' j'' st'' T' T'' U' U'') : GD j st j'' st'' T T'' U U'' := by
  obtain ⟨a1, a2, a4, a5, a6⟩ := h
  obtain ⟨b1, b2, b4, b5, b6⟩ := h'
  exact ⟨by omega, by omega, frL_t a4 b4, b5.trans a5, fun q hq => (b6 q (by omega)).trans (a6 q hq)⟩
theorem tyN_s (kd : Nat → Nat) : ∀ (n a : Nat) (s : List Bool), tyN kd a (n + 1) s = (tyN kd a n s).bind (ty1 (kd (a + n))) := by
  intro n
  induction n with
  | zero =>
    intro a s
    simp only [tyN, Nat.add_zero, Option.bind_some]
    cases ty1 (kd a) s <;> rfl
  | succ n ih =>
    intro a s
    rw [tyN]
    cases h : ty1 (kd a) s with
    | none => rw [tyN, h]; rfl
    | some s' =>
      rw [Option.bind_some, ih (a + 1) s', tyN, h, Option.bind_some, show a + 1 + n = a + (n + 1) by omega]
theorem tyN_a (kd : Nat → Nat) : ∀ (n k a : Nat) (s : List Bool), tyN kd a (n + k) s = (tyN kd a n s).bind (fun s' => tyN kd (a + n) k s') := by
  intro n k
  induction k with
  | zero => intro a s; rw [Nat.add_zero]; cases tyN kd a n s <;> rfl
  | succ k ih =>
    intro a s
    rw [← Nat.add_assoc, tyN_s, ih a s]
    cases tyN kd a n s with
    | none => rfl
    | some s' =>
      rw [Option.bind_some, Option.bind_some, tyN_s, show a + (n + k) = a + n + k by omega]
theorem tyN_c {kd kd' : Nat → Nat} : ∀ (n a : Nat) (s : List Bool), (∀ q, a ≤ q → q < a + n → kd q = kd' q) → tyN kd a n s = tyN kd' a n s := by
  intro n
  induction n with
  | zero => intro a s _; rfl
  | succ n ih =>
    intro a s h
    rw [tyN_s, tyN_s, ih a s (fun q h1 h2 => h q h1 (by omega)), h (a + n) (by omega) (by omega)]
theorem TY_0 (T : pS) (a c : Nat) : TY T a a c [] := by
  intro s _
  rw [Nat.sub_self]; rfl
theorem TY_f {T T' : pS} {a st c : Nat} {s1 : List Bool} (h : TY T a st c s1) (hf : ∀ q, q < st → T' 56 q = T 56 q) : TY T' a st c s1 := by
  intro s hs
  rw [← h s hs]
  refine tyN_c _ _ _ (fun q h1 h2 => ?_)
  unfold kS
  rw [hf q (by omega)]
theorem TY_1 {T : pS} {a st c : Nat} {s1 s2 : List Bool} (h : TY T a st c s1) (ha : a ≤ st) (h1 : ∀ s : List Bool, s.length + c ≤ 32 → ty1 (kS T st) (s1 ++ s) = some (s2 ++ s)) : TY T a (st + 1) c s2 := by
  intro s hs
  rw [show st + 1 - a = (st - a) + 1 by omega, tyN_s, h s hs, Option.bind_some, show a + (st - a) = st by omega]
  exact h1 s hs
theorem TY_2 {T : pS} {a st st' c c' : Nat} {s1 : List Bool} {t : Bool} (h : TY T a st c s1) (ha : a ≤ st) (hst : st ≤ st') (h1 : TY T st st' c' [t]) (hc : s1.length + c' ≤ c) : TY T a st' c (t :: s1) := by
  intro s hs
  rw [show st' - a = (st - a) + (st' - st) by omega, tyN_a, h s hs, Option.bind_some, show a + (st - a) = st by omega, h1 (s1 ++ s) (by rw [List.length_append]; omega)]
  rfl
/-- the facts of a token -/
theorem tkF {b : Nat → Nat} {n r m : Nat} {K V P A : Nat → Nat} (hr : r = 0 ∨ r = 1 ∨ r = 3) (hK : Toks b n r m K V P A) {j : Nat} (hj : j < m) : tmC r (K j) = true ∧ isK (K j) ∧ (K j = 1 → V j ≤ 9999) ∧ (K j = 2 ↔ j + 1 = m) ∧ m ≤ 401 := by
  obtain ⟨hn, hb, hm1, hmn, hA0, hTk, hK2, hqA⟩ := hK
  have h := Tok_k (hTk j hj)
  exact ⟨tmC_t hr (Tok_w (hTk j hj)), h.1, h.2.2.2.2.2.1, hK2 j hj, by omega⟩
theorem tmF {r K : Nat} (h : tmC r K = true) : (K = 1 ↔ tmN r K = 2) ∧ (faN r ≤ K → 41 ≤ tmN r K ∧ tmN r K ≤ 59 ∧ tmN r K = 40 + fmN (lix r) (K - faN r) ∧ K - faN r < nfN (lix r)) ∧ (K < faN r → ¬ (41 ≤ tmN r K ∧ tmN r K ≤ 59)) ∧ (tmN r K < 400) ∧ (tmN r K = 142 ↔ K = 42) ∧ (tmN r K = 147 ↔ K = 47) ∧ (tmN r K = 143 ↔ K = 43) ∧ (tmN r K = 145 ↔ K = 45) ∧ (tmN r K = 6 ↔ K = 259) ∧ (tmN r K = 140 ↔ K = 40) ∧ (tmN r K = 141 ↔ K = 41) ∧ (tmN r K = 160 ↔ K = 60) ∧ (tmN r K = 161 ↔ K = 61) ∧ (tmN r K = 162 ↔ K = 62) ∧ (tmN r K = 5 ↔ K = 258) ∧ (tmN r K = 4 ↔ K = 257) ∧ (tmN r K = 3 ↔ K = 256) ∧ (tmN r K = 159 ↔ K = 59) ∧ (tmN r K = 0 ↔ K = 2) ∧ ((20 ≤ tmN r K ∧ tmN r K ≤ 28) ↔ (260 ≤ K ∧ K < faN r)) ∧ (260 ≤ K → K < faN r → tmN r K = wbN (lix r) + (K - 260) ∧ K - 260 < 8) := by
  unfold tmC at h
  simp only [Bool.and_eq_true, decide_eq_true_iff] at h
  obtain ⟨⟨⟨⟨⟨⟨⟨⟨⟨⟨⟨⟨⟨⟨⟨⟨⟨⟨⟨⟨h1, h2⟩, h3⟩, h4⟩, h5⟩, h6⟩, h7⟩, h8⟩, h9⟩, h10⟩, h11⟩, h12⟩, h13⟩, h14⟩, h15⟩, h16⟩, h17⟩, h18⟩, h19⟩, h20⟩, h21⟩ := h
  exact ⟨h1, h2, h3, h4, h5, h6, h7, h8, h9, h10, h11, h12, h13, h14, h15, h16, h17, h18, h19, h20, h21⟩
theorem P_next {b : Nat → Nat} {n r m : Nat} {K V P A : Nat → Nat} (hr : r = 0 ∨ r = 1 ∨ r = 3) (hK : Toks b n r m K V P A) {j st : Nat} {T U : pS} (h : PL b n r m K V P A j st T U) (hk : K j ≠ 2) : ∃ T' U', F6_next T 46 = some T' ∧ F12_next0 U = some U' ∧ PL b n r m K V P A (j + 1) st T' U' ∧ GD j st (j + 1) st T T' U U' ∧ frU U U' ∧ T' 56 = T 56 ∧ j + 1 < m := by
  obtain ⟨h1, h2, h3, h4, h5, h6, h7, h8, h9, h10, h11, h12, h13⟩ := h
  have hjm := h3.2.2.1
  have hj : j + 1 < m := by
    have := (tkF hr hK hjm).2.2.2.1
    by_cases z : j + 1 = m
    · exact absurd (this.mpr z) hk
    · omega
  obtain ⟨T', e1, e2, e3, e4⟩ := L_nextC h3 hj
  obtain ⟨U', g1, g2, g3, g4, g5, g6⟩ := L_next0 (hK.2.2.2.2.2.1 (j + 1) hj) h4 h6 h5 (by omega)
  refine ⟨T', U', e1, g1, ⟨by rw [e3 45 (by decide)]; exact h1, by rw [e3 45 (by decide)]; exact h2, e2, byR_f h4 g2, (g2.2 12 (by omega)).trans h5, g3, g4, g5, g6, by rw [e3 51 (by decide)]; exact h10, (g2.2 14 (by omega)).trans h11, by rw [e3 51 (by decide)]; exact h12, fun q hq => ?_⟩, ⟨by omega, by omega, ⟨fun k a b c d => e3 k b, by rw [e3 51 (by decide)], by rw [e3 45 (by decide)], by rw [e3 45 (by decide)], e4, by rw [e3 45 (by decide)]⟩, g2.2 24 (by omega), fun q _ => by rw [e3 56 (by decide)]⟩, fN_U g2, e3 56 (by decide), hj⟩
  have := h13 q hq
  unfold kS nS at this ⊢
  rw [e3 56 (by decide), g2.1 5 (by decide)]
  exact this
theorem P_put {b : Nat → Nat} {n r m : Nat} {K V P A : Nat → Nat} {j st c num : Nat} {s v : Int32} {T U : pS} (h : PL b n r m K V P A j st T U) (hst : st < 400) (hc : c < 16) (hs : SR (lix r) c num (nI (c + 16 * num)) s v) : ∃ T' U', F3_put T 51 (nI c) (nI num) = some T' ∧ F12_lay U s v = some U' ∧ PL b n r m K V P A j (st + 1) T' U' ∧ GD j st j (st + 1) T T' U U' ∧ frU U U' ∧ kS T' st = c := by
  obtain ⟨h1, h2, h3, h4, h5, h6, h7, h8, h9, h10, h11, h12, h13⟩ := h
  have hnum := hs.2.1
  unfold F3_put F12_lay
  simp only [bL_d, Nat.reduceAdd]
  rw [h10, if_neg (nge 400 (b := 400) rfl hst (by decide)), bG_N hst (by decide), h11, show (2 : Int32) = nI 2 from rfl, pk_mul, bG_N (by omega) (by decide), nI_clamp (by omega)]
  have u1 : ∀ (S : pS) (j : Nat) (v : Int32), sU S 5 j v 0 14 = S 0 14 := fun S j v => by rw [sU_n (by omega)]
  simp only [u1, h11, pk_mul, nI_1]
  rw [bG_N (show 2 * st + 1 < 820 by omega) (by decide), nI_clamp (by omega), nI_clamp (by omega), sU_n (show ¬ (51 = 56 ∧ 1 = st) by omega), h10, nI_1, show (16 : Int32) = nI 16 from rfl, pk_mul, nI_add]
  have hk : ∀ (S : pS), S 56 st = nI (c + 16 * num) → kS S st = c ∧ nS S st = num := fun S e => by
    unfold kS nS
    rw [e, nI_clamp (by omega)]
    omega
  refine ⟨_, _, rfl, rfl, ⟨?_, ?_, ?_, ?_, ?_, ?_, ?_, ?_, fun z => ?_, ?_, ?_, ?_, fun q hq => ?_⟩, ⟨Nat.le_refl _, by omega, ⟨fun k a1 a2 a3 a4 => ?_, ?_, ?_, ?_, ?_, ?_⟩, ?_, fun q hq => ?_⟩, ⟨fun k a1 a2 => ?_, fun j hj => ?_⟩, ?_⟩
  · rw [sU_n (by omega), sU_n (by omega)]; exact h1
  · rw [sU_n (by omega), sU_n (by omega)]; exact h2
  · unfold CT at h3 ⊢
    rw [sU_ne (k' := 46) (by decide), sU_ne (k' := 46) (by decide), sU_ne (k' := 48) (by decide), sU_ne (k' := 48) (by decide), sU_ne (k' := 49) (by decide), sU_ne (k' := 49) (by decide), sU_ne (k' := 50) (by decide), sU_ne (k' := 50) (by decide)]
    exact h3
  · refine ⟨?_, h4.2.1, fun j hj => ?_⟩
    · rw [sU_n (by omega), sU_n (by omega), sU_n (by omega)]; exact h4.1
    · rw [sU_n (by omega), sU_n (by omega), sU_n (by omega)]; exact h4.2.2 j hj
  · rw [sU_n (by omega), sU_n (by omega), sU_n (by omega)]; exact h5
  · rw [sU_n (by omega), sU_n (by omega), sU_n (by omega)]; exact h6
  · rw [sU_n (by omega), sU_n (by omega), sU_n (by omega)]; exact h7
  · rw [sU_n (by omega), sU_n (by omega), sU_n (by omega)]; exact h8
  · rw [sU_n (by omega), sU_n (by omega), sU_n (by omega)]; exact h9 z
  · rw [sU_s]
  · rw [sU_s]
  · rw [sU_n (by omega), sU_n (by omega)]; exact h12
  · have e5 : ∀ x, sU (sU (sU U 5 (2 * st) s) 5 (2 * st + 1) v) 0 14 (nI (st + 1)) 5 x = sU (sU U 5 (2 * st) s) 5 (2 * st + 1) v 5 x := fun x => by rw [sU_ne (show 5 ≠ 0 by decide)]
    rw [e5, e5]
    by_cases z : q = st
    · subst z
      have := hk (sU (sU T 56 q (nI (c + 16 * num))) 51 1 (nI (q + 1))) (by rw [sU_n (by omega), sU_s])
      rw [this.1, this.2, sU_n (show ¬ (56 = 51 ∧ q = 1) by omega), sU_s, sU_s, sU_n (by omega), sU_s]
      exact hs
    · have e56 : sU (sU T 56 st (nI (c + 16 * num))) 51 1 (nI (st + 1)) 56 q = T 56 q := by rw [sU_n (by omega), sU_n (by omega)]
      unfold kS nS
      rw [e56, sU_n (by omega), sU_n (by omega), sU_n (by omega), sU_n (by omega)]
      exact h13 q (by omega)
  · rw [sU_ne a3, sU_ne a4]
  · rw [sU_n (by omega), sU_n (by omega)]
  · rw [sU_n (by omega), sU_n (by omega)]
  · rw [sU_n (by omega), sU_n (by omega)]
  · rw [sU_n (by omega), sU_n (by omega)]
  · rw [sU_n (by omega), sU_n (by omega)]
  · rw [sU_n (by omega), sU_n (by omega), sU_n (by omega)]
  · rw [sU_n (by omega), sU_n (by omega)]
  · rw [sU_ne a1, sU_ne a2, sU_ne a2]
  · rw [sU_n (by omega), sU_n (by omega), sU_n (by omega)]
  · exact (hk _ (by rw [sU_n (by omega), sU_s])).1
/-- a fault on both sides -/
theorem P_fail {b : Nat → Nat} {n r m : Nat} {K V P A : Nat → Nat} {j st x : Nat} {T U : pS} (h : PL b n r m K V P A j st T U) (hst : st ≤ 400) (hx : 0 < x) (hx4 : x < 4) : ∃ U', F12_bad U (nI x) = (0, U') ∧ frU U U' ∧ frC T (F5_fail T 45 (nI x)) ∧ BD n m K V P (faN r) (F5_fail T 45 (nI x)) (U' 0 21) (U' 0 22) := by
  obtain ⟨h1, h2, h3, h4, h5, h6, h7, h8, h9, h10, h11, h12, h13⟩ := h
  unfold F12_bad F5_fail
  simp only [bL_d, Nat.reduceAdd]
  rw [if_pos h1]
  refine ⟨_, rfl, ⟨fun k a _ => by rw [sU_ne a, sU_ne a], fun j hj => by rw [sU_n (by omega), sU_n (by omega)]⟩, fun k hk => by rw [sU_ne (by omega), sU_ne (by omega)], ?_, ?_, ?_, ?_, ⟨j, ?_⟩, ⟨st, hst, ?_⟩, ?_⟩
  · rw [sU_n (by omega), sU_s, sU_n (by omega), sU_s]
  · rw [sU_s, sU_s, sU_n (by omega), sU_n (by omega), h8]
    exact h3.2.2.2.2.2.2.1
  · rw [sU_n (by omega), sU_s]; exact nI_ne0 hx (by omega)
  · rw [sU_n (by omega), sU_n (by omega)]; exact h2
  · unfold CT at h3 ⊢
    rw [sU_ne (k' := 46) (by decide), sU_ne (k' := 46) (by decide), sU_ne (k' := 48) (by decide), sU_ne (k' := 48) (by decide), sU_ne (k' := 49) (by decide), sU_ne (k' := 49) (by decide), sU_ne (k' := 50) (by decide), sU_ne (k' := 50) (by decide)]
    exact h3
  · rw [sU_ne (by decide), sU_ne (by decide)]; exact h10
  · rw [sU_ne (by decide), sU_ne (by decide)]; exact h12
end

/-! the small methods, by numbers -/
theorem in_N {a m : Int32} {n : Nat} (hm : m = nI n) (hn : n + 1 < 2 ^ 31) : (0 ≤ a ∧ a ≤ m) ↔ isN a (n + 1) := by
  subst hm
  constructor
  · rintro ⟨h0, h1⟩
    obtain ⟨j, hj, rfl⟩ := nI_of (Int32.not_lt.mpr h0)
    exact ⟨j, by have := (nI_leI hj (by omega)).mp h1; omega, rfl⟩
  · rintro ⟨j, hj, rfl⟩
    exact ⟨nI_pos' (by omega), nI_le (by omega) (by omega)⟩
theorem in_t {a m : Int32} {n : Nat} (hm : m = nI n) (hn : n + 1 < 2 ^ 31) (h : isN a (n + 1)) : F12_isIn a 0 m = 1 := by
  rw [isIn_d, if_pos ((in_N hm hn).mpr h)]
theorem in_f {a m : Int32} {n : Nat} (hm : m = nI n) (hn : n + 1 < 2 ^ 31) (h : ¬ isN a (n + 1)) : F12_isIn a 0 m = 0 := by
  rw [isIn_d, if_neg (fun q => h ((in_N hm hn).mp q))]
theorem wi_t {a m : Int32} {n : Nat} (hm : m = nI n) (hn : n + 1 < 2 ^ 31) (h : isN a (n + 1)) : F11_within a 0 m = 1 := in_t hm hn h
theorem wi_f {a m : Int32} {n : Nat} (hm : m = nI n) (hn : n + 1 < 2 ^ 31) (h : ¬ isN a (n + 1)) : F11_within a 0 m = 0 := in_f hm hn h
/-- 0 .. n - 1, where n itself may be 0 -/
theorem inM_t {a : Int32} {n : Nat} (hn : n < 2 ^ 31) (h : isN a n) : F12_isIn a 0 (nI n - 1) = 1 := by
  obtain ⟨i, hi, rfl⟩ := h
  cases n with
  | zero => omega
  | succ n => rw [nI_pred]; exact in_t rfl (by omega) ⟨i, hi, rfl⟩
theorem inM_f {a : Int32} {n : Nat} (hn : n < 2 ^ 31) (h : ¬ isN a n) : F12_isIn a 0 (nI n - 1) = 0 := by
  cases n with
  | zero =>
    rw [isIn_d, if_neg]
    intro q
    have e : nI 0 - 1 = -1 := by decide
    rw [e] at q
    exact absurd (Int32.le_trans q.1 q.2) (by decide)
  | succ n => rw [nI_pred]; exact in_f rfl (by omega) h
theorem b01 {a : Int32} (h : a = 0 ∨ a = 1) : a &&& 1 = a := by rcases h with rfl | rfl <;> decide
theorem nge (m : Int32) {a b : Nat} (hm : m = nI b) (h : a < b) (hb : b < 2 ^ 31) : ¬ m ≤ nI a := by subst hm; exact nI_ge h hb
theorem bG_N {α : Type} {n L : Nat} {x : Option α} (h : n < L) (hL : L < 2 ^ 31) : bG (vp_in (nI n) L) x = x := bG_t (vp_in_nI h hL)
theorem bG_ne {α : Type} {n : Nat} {x : Option α} (h : 0 < n) (hL : n < 2 ^ 31) : bG (¬ nI n = nI 0) x = x := bG_t (nI_ne0 h hL)
theorem pk_subN {a b : Nat} (h : b ≤ a) : nI a + -nI b = nI (a - b) := by
  rw [← pk_sub h, Int32.sub_eq_add_neg]
theorem nge' (a b : Nat) (h : b < a) (ha : a < 2 ^ 31) : ¬ nI a ≤ nI b := nI_ge h ha
section AC
variable {S : pS} {a v : Int32} {n i t f : Nat}
theorem thr_t (h : S 1 68 = nI n) (hn : n ≤ 8) (ha : isN a n) : F12_isThrower S a = 1 := by
  unfold F12_isThrower
  rw [h, inM_t (by omega) ha]; decide
theorem thr_f (h : S 1 68 = nI n) (hn : n ≤ 8) (ha : ¬ isN a n) : F12_isThrower S a = 0 := by
  unfold F12_isThrower
  rw [h, inM_f (by omega) ha]; decide
theorem spe_t (h : S 1 67 = nI n) (hn : n ≤ 6) (ha : isN a n) : F12_isSpear S a = 1 := by
  unfold F12_isSpear
  rw [h, inM_t (by omega) ha]; decide
theorem spe_f (h : S 1 67 = nI n) (hn : n ≤ 6) (ha : ¬ isN a n) : F12_isSpear S a = 0 := by
  unfold F12_isSpear
  rw [h, inM_f (by omega) ha]; decide
theorem wea (hv : a = nI i) (hi : i < 5) : F12_weather S a = some (S 1 (60 + i)) := by
  subst hv
  unfold F12_weather
  simp only [lit_I, nI_add]
  rw [bG_t (vp_in_nI (by omega) (by omega)), nI_clamp (by omega)]
theorem own (hv : v = nI f) (ht : t < 8) (hf : f < 7) : F12_own S (nI t) v = some (S 1 (4 + 7 * t + f)) := by
  subst hv
  unfold F12_own
  simp only [lit_I, nI_add, pk_mul]
  rw [bG_t (vp_in_nI (by omega) (by omega)), nI_clamp (by omega)]
theorem giv (hv : v = nI f) (ht : t < 8) (hf : f < 7) : F12_gives S (nI t) v a = some (sU S 1 (4 + 7 * t + f) a) := by
  subst hv
  unfold F12_gives
  simp only [lit_I, nI_add, pk_mul, bL_d]
  rw [bG_t (vp_in_nI (by omega) (by omega)), nI_clamp (by omega)]
/-- the class' -/
theorem vinI {x : Int32} {n : Nat} (hn : n < 2 ^ 31) : isN x n ↔ ¬ (x < 0 ∨ nI n ≤ x) := by
  rw [isN_iff hn]
  constructor
  · rintro ⟨h0, h1⟩ (h | h)
    · exact h0 h
    · exact (Int32.not_le.mpr h1) h
  · intro h
    exact ⟨fun q => h (Or.inl q), Int32.not_le.mp (fun q => h (Or.inr q))⟩
theorem hsp_t (h : S 1 4 = nI n) (hn : n ≤ 6) (ha : isN a n) : F10_hasSpear S 1 a = 1 := by
  unfold F10_hasSpear
  simp only [bL_d]
  obtain ⟨i, hi, rfl⟩ := ha
  rw [h, if_neg (nI_pos (by omega)), if_neg (nI_ge hi (by omega)), if_neg (nge 6 (b := 6) rfl (by omega) (by decide))]
theorem hsp_f (h : S 1 4 = nI n) (hn : n ≤ 6) (ha : ¬ isN a n) : F10_hasSpear S 1 a = 0 := by
  unfold F10_hasSpear
  simp only [bL_d]
  rw [vinI (by omega)] at ha
  have ha := Classical.not_not.mp ha
  rw [h]
  by_cases h0 : a < 0
  · rw [if_pos h0]
  · rw [if_neg h0, if_pos (ha.resolve_left h0)]
theorem one_t (h : S 1 5 = nI n) (hn : n ≤ 8) (hi : i < n) : F10_one S 1 (nI i) = some (some (29 + 2 * i)) := by
  unfold F10_one
  simp only [bL_d]
  rw [h, if_neg (nI_pos (by omega)), if_neg (nI_ge hi (by omega)), if_neg (nge 8 (b := 8) rfl (by omega) (by decide)), bG_t (vp_in_nI (by omega) (by omega)), nI_clamp (by omega)]
theorem one_f (h : S 1 5 = nI n) (hn : n ≤ 8) (ha : ¬ isN a n) : F10_one S 1 a = some none := by
  unfold F10_one
  simp only [bL_d]
  rw [vinI (by omega)] at ha
  have ha := Classical.not_not.mp ha
  rw [h]
  by_cases h0 : a < 0
  · rw [if_pos h0]
  · rw [if_neg h0, if_pos (ha.resolve_left h0)]
theorem hli_t (h : S 1 6 = nI n) (hn : n ≤ 100) (ha : isN a n) : F10_hasLine S 1 a = 1 := by
  unfold F10_hasLine
  simp only [bL_d]
  obtain ⟨i, hi, rfl⟩ := ha
  rw [h, if_neg (nI_pos (by omega)), if_neg (nI_ge hi (by omega)), if_neg (nge 100 (b := 100) rfl (by omega) (by decide))]
theorem hli_f (h : S 1 6 = nI n) (hn : n ≤ 100) (ha : ¬ isN a n) : F10_hasLine S 1 a = 0 := by
  unfold F10_hasLine
  simp only [bL_d]
  rw [vinI (by omega)] at ha
  have ha := Classical.not_not.mp ha
  rw [h]
  by_cases h0 : a < 0
  · rw [if_pos h0]
  · rw [if_neg h0, if_pos (ha.resolve_left h0)]
theorem col (h : S 1 6 = nI n) (hn : n ≤ 100) (hi : i < n) (hv : v = nI f) (hf : f < 9) : F10_column S 1 (nI i) v = some (S 6 (9 * i + f)) := by
  subst hv
  unfold F10_column
  simp only [bL_d]
  rw [hli_t h hn ⟨i, hi, rfl⟩, if_neg (by decide), wi_t (m := 8) (n := 8) rfl (by decide) ⟨f, hf, rfl⟩, if_neg (by decide)]
  simp only [lit_I, nI_add, pk_mul]
  rw [bG_t (vp_in_nI (by omega) (by omega)), nI_clamp (by omega), Nat.mul_comm]
theorem cth_t {x s : Int32} (h : S 1 4 = nI n) (hn : n ≤ 6) (h1 : isN x 100) (h2 : isN a 61) (h3 : isN s n) : F11_canThrow S x a s = 1 := by
  unfold F11_canThrow
  simp only [bL_d]
  rw [wi_t (m := 99) (n := 99) rfl (by decide) h1, if_neg (by decide), wi_t (m := 60) (n := 60) rfl (by decide) h2, if_neg (by decide), hsp_t h hn h3, if_neg (by decide)]
theorem cth_f {x s : Int32} (h : S 1 4 = nI n) (hn : n ≤ 6) (hx : ¬ (isN x 100 ∧ isN a 61 ∧ isN s n)) : F11_canThrow S x a s = 0 := by
  unfold F11_canThrow
  simp only [bL_d]
  by_cases h1 : isN x 100
  · rw [wi_t (m := 99) (n := 99) rfl (by decide) h1, if_neg (by decide)]
    by_cases h2 : isN a 61
    · rw [wi_t (m := 60) (n := 60) rfl (by decide) h2, if_neg (by decide)]
      by_cases h3 : isN s n
      · exact absurd (And.intro h1 (And.intro h2 h3)) hx
      · rw [hsp_f h hn h3, if_pos rfl]
    · rw [wi_f (m := 60) (n := 60) rfl (by decide) h2, if_pos rfl]
  · rw [wi_f (m := 99) (n := 99) rfl (by decide) h1, if_pos rfl]
theorem for_t (h : isN a 100) : F12_isForce a = 1 := by
  unfold F12_isForce
  rw [in_t (m := 99) (n := 99) rfl (by decide) h]; decide
theorem for_f (h : ¬ isN a 100) : F12_isForce a = 0 := by
  unfold F12_isForce
  rw [in_f (m := 99) (n := 99) rfl (by decide) h]; decide
theorem hol {lo hi : Int32} (h : lo ≤ hi) : F11_hold a lo hi = F12_held a lo hi := by
  unfold F11_hold F12_held F12_greater F12_lesser
  grind
end AC
theorem wea0 (S : pS) : F12_weather S 0 = some (S 1 60) := wea (a := 0) (i := 0) rfl (by decide)
theorem own0 {t : Nat} (S : pS) (ht : t < 8) : F12_own S (nI t) 0 = some (S 1 (4 + 7 * t)) := by
  rw [own (v := 0) (f := 0) rfl ht (by decide), show 4 + 7 * t + 0 = 4 + 7 * t by omega]
theorem giv0 {t : Nat} (S : pS) (a : Int32) (ht : t < 8) : F12_gives S (nI t) 0 a = some (sU S 1 (4 + 7 * t) a) := by
  rw [giv (v := 0) (f := 0) rfl ht (by decide), show 4 + 7 * t + 0 = 4 + 7 * t by omega]
theorem wea1 (S : pS) : F12_weather S 1 = some (S 1 61) := wea (a := 1) (i := 1) rfl (by decide)
theorem own1 {t : Nat} (S : pS) (ht : t < 8) : F12_own S (nI t) 1 = some (S 1 (5 + 7 * t)) := by
  rw [own (v := 1) (f := 1) rfl ht (by decide), show 4 + 7 * t + 1 = 5 + 7 * t by omega]
theorem giv1 {t : Nat} (S : pS) (a : Int32) (ht : t < 8) : F12_gives S (nI t) 1 a = some (sU S 1 (5 + 7 * t) a) := by
  rw [giv (v := 1) (f := 1) rfl ht (by decide), show 4 + 7 * t + 1 = 5 + 7 * t by omega]
theorem wea2 (S : pS) : F12_weather S 2 = some (S 1 62) := wea (a := 2) (i := 2) rfl (by decide)
theorem own2 {t : Nat} (S : pS) (ht : t < 8) : F12_own S (nI t) 2 = some (S 1 (6 + 7 * t)) := by
  rw [own (v := 2) (f := 2) rfl ht (by decide), show 4 + 7 * t + 2 = 6 + 7 * t by omega]
theorem giv2 {t : Nat} (S : pS) (a : Int32) (ht : t < 8) : F12_gives S (nI t) 2 a = some (sU S 1 (6 + 7 * t) a) := by
  rw [giv (v := 2) (f := 2) rfl ht (by decide), show 4 + 7 * t + 2 = 6 + 7 * t by omega]
theorem wea3 (S : pS) : F12_weather S 3 = some (S 1 63) := wea (a := 3) (i := 3) rfl (by decide)
theorem own3 {t : Nat} (S : pS) (ht : t < 8) : F12_own S (nI t) 3 = some (S 1 (7 + 7 * t)) := by
  rw [own (v := 3) (f := 3) rfl ht (by decide), show 4 + 7 * t + 3 = 7 + 7 * t by omega]
theorem giv3 {t : Nat} (S : pS) (a : Int32) (ht : t < 8) : F12_gives S (nI t) 3 a = some (sU S 1 (7 + 7 * t) a) := by
  rw [giv (v := 3) (f := 3) rfl ht (by decide), show 4 + 7 * t + 3 = 7 + 7 * t by omega]
theorem wea4 (S : pS) : F12_weather S 4 = some (S 1 64) := wea (a := 4) (i := 4) rfl (by decide)
theorem own4 {t : Nat} (S : pS) (ht : t < 8) : F12_own S (nI t) 4 = some (S 1 (8 + 7 * t)) := by
  rw [own (v := 4) (f := 4) rfl ht (by decide), show 4 + 7 * t + 4 = 8 + 7 * t by omega]
theorem giv4 {t : Nat} (S : pS) (a : Int32) (ht : t < 8) : F12_gives S (nI t) 4 a = some (sU S 1 (8 + 7 * t) a) := by
  rw [giv (v := 4) (f := 4) rfl ht (by decide), show 4 + 7 * t + 4 = 8 + 7 * t by omega]
theorem loc_thr {b t f : Nat} (ht : t < 8) (hf : f < 4) : loc b (4 + f + 7 * t) = some (b + 28 + 2 * t, f) := by
  grind (splits := 60) [loc]
theorem loc_nx {b t : Nat} (ht : t < 8) : loc b (8 + 7 * t) = some (b + 28 + 2 * t, 5) := by
  grind (splits := 60) [loc]
theorem loc_no {b t : Nat} (ht : t < 8) : loc b (82 + t) = some (b + 28 + 2 * t, 4) := by
  grind (splits := 60) [loc]
theorem loc_wea {b i : Nat} (hi : i < 5) : loc b (60 + i) = some (b + 1, i) := by
  grind (splits := 60) [loc]
theorem loc_gu {b i : Nat} (hi : i < 60) : loc b (90 + i) = some (b + 6, i) := by
  grind (splits := 60) [loc]
theorem loc_bk {b i f : Nat} (hi : i < 100) (hf : f < 9) : loc b (3296 + 10 * i + f) = some (b + 5, 9 * i + f) := by
  grind (splits := 60) [loc]
theorem RE_bk {i f : Nat} {Sc Sm : pS} (h : RE 1 1 Sc Sm) (hi : i < 100) (hf : f < 9) : Sc 6 (9 * i + f) = Sm 1 (3296 + 10 * i + f) := h _ _ _ (loc_bk hi hf)
theorem RE_t0 {t : Nat} {Sc Sm : pS} (h : RE 1 1 Sc Sm) (ht : t < 8) : Sc (29 + 2 * t) 0 = Sm 1 (4 + 7 * t) := h _ _ _ (loc_thr (f := 0) ht (by decide))
theorem RE_t1 {t : Nat} {Sc Sm : pS} (h : RE 1 1 Sc Sm) (ht : t < 8) : Sc (29 + 2 * t) 1 = Sm 1 (5 + 7 * t) := h _ _ _ (loc_thr (f := 1) ht (by decide))
theorem RE_t2 {t : Nat} {Sc Sm : pS} (h : RE 1 1 Sc Sm) (ht : t < 8) : Sc (29 + 2 * t) 2 = Sm 1 (6 + 7 * t) := h _ _ _ (loc_thr (f := 2) ht (by decide))
theorem RE_t3 {t : Nat} {Sc Sm : pS} (h : RE 1 1 Sc Sm) (ht : t < 8) : Sc (29 + 2 * t) 3 = Sm 1 (7 + 7 * t) := h _ _ _ (loc_thr (f := 3) ht (by decide))
theorem RE_t5 {t : Nat} {Sc Sm : pS} (h : RE 1 1 Sc Sm) (ht : t < 8) : Sc (29 + 2 * t) 5 = Sm 1 (8 + 7 * t) := h _ _ _ (loc_nx ht)
theorem RE_t4 {t : Nat} {Sc Sm : pS} (h : RE 1 1 Sc Sm) (ht : t < 8) : Sc (29 + 2 * t) 4 = Sm 1 (82 + t) := h _ _ _ (loc_no ht)
theorem RE_gu {i : Nat} {Sc Sm : pS} (h : RE 1 1 Sc Sm) (hi : i < 60) : Sc 7 i = Sm 1 (90 + i) := h _ _ _ (loc_gu hi)
/-- from -c to c -/
theorem sw_lt {c i : Nat} (hc : c < 100) (hi : i < 1000) : nI c < nI i - nI c ↔ 2 * c < i := by
  rw [Int32.lt_iff_toInt_lt, pk_sub_toInt (by omega) (by omega), nI_toInt (by omega)]
  omega
theorem sw_1 {c i : Nat} : nI i - nI c + 1 = nI (i + 1) - nI c := by
  rw [← nI_1]
  grind
theorem sw_0 {c : Nat} : -nI c = nI 0 - nI c := by
  rw [nI_0]
  grind
theorem sw_h {c i a : Nat} (hc : c < 100) (hi : i < 1000) (ha : a < 1000) : F12_held (nI a + (nI i - nI c)) 0 90 = nI (min 90 (a + i - c)) := by
  have e : nI a + (nI i - nI c) = nI (a + i) - nI c := by rw [← nI_add]; grind
  rw [e]
  unfold F12_held F12_greater F12_lesser
  by_cases h : c ≤ a + i
  · rw [pk_sub h]
    by_cases h2 : a + i - c ≤ 90
    · rw [if_pos (show nI (a + i - c) ≤ 90 from nI_le h2 (by decide)), if_pos (nI_pos' (by omega)), Nat.min_eq_right h2]
    · have p1 : ¬ nI (a + i - c) ≤ 90 := nge' (a + i - c) 90 (by omega) (by omega)
      simp only [if_neg p1]
      rw [if_pos (by decide), Nat.min_eq_left (by omega)]
      rfl
  · have h3 := pk_sneg (a := a + i) (b := c) (by omega) (by omega)
    rw [show a + i - c = 0 by omega]
    generalize nI (a + i) - nI c = v at h3 ⊢
    have p1 : v ≤ 90 := by grind
    have p2 : ¬ 0 ≤ v := by grind
    simp only [if_pos p1, if_neg p2]
    rfl
theorem col0 {S : pS} {n i : Nat} (h : S 1 6 = nI n) (hn : n ≤ 100) (hi : i < n) : F10_column S 1 (nI i) 0 = some (S 6 (9 * i + 0)) := col (v := 0) (f := 0) h hn hi rfl (by decide)
theorem col1 {S : pS} {n i : Nat} (h : S 1 6 = nI n) (hn : n ≤ 100) (hi : i < n) : F10_column S 1 (nI i) 1 = some (S 6 (9 * i + 1)) := col (v := 1) (f := 1) h hn hi rfl (by decide)
theorem col2 {S : pS} {n i : Nat} (h : S 1 6 = nI n) (hn : n ≤ 100) (hi : i < n) : F10_column S 1 (nI i) 2 = some (S 6 (9 * i + 2)) := col (v := 2) (f := 2) h hn hi rfl (by decide)
theorem col3 {S : pS} {n i : Nat} (h : S 1 6 = nI n) (hn : n ≤ 100) (hi : i < n) : F10_column S 1 (nI i) 3 = some (S 6 (9 * i + 3)) := col (v := 3) (f := 3) h hn hi rfl (by decide)
theorem col4 {S : pS} {n i : Nat} (h : S 1 6 = nI n) (hn : n ≤ 100) (hi : i < n) : F10_column S 1 (nI i) 4 = some (S 6 (9 * i + 4)) := col (v := 4) (f := 4) h hn hi rfl (by decide)
theorem col5 {S : pS} {n i : Nat} (h : S 1 6 = nI n) (hn : n ≤ 100) (hi : i < n) : F10_column S 1 (nI i) 5 = some (S 6 (9 * i + 5)) := col (v := 5) (f := 5) h hn hi rfl (by decide)
theorem col6 {S : pS} {n i : Nat} (h : S 1 6 = nI n) (hn : n ≤ 100) (hi : i < n) : F10_column S 1 (nI i) 6 = some (S 6 (9 * i + 6)) := col (v := 6) (f := 6) h hn hi rfl (by decide)
theorem col7 {S : pS} {n i : Nat} (h : S 1 6 = nI n) (hn : n ≤ 100) (hi : i < n) : F10_column S 1 (nI i) 7 = some (S 6 (9 * i + 7)) := col (v := 7) (f := 7) h hn hi rfl (by decide)
theorem col8 {S : pS} {n i : Nat} (h : S 1 6 = nI n) (hn : n ≤ 100) (hi : i < n) : F10_column S 1 (nI i) 8 = some (S 6 (9 * i + 8)) := col (v := 8) (f := 8) h hn hi rfl (by decide)

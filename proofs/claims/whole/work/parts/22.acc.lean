/-! the small methods, by numbers -/
theorem in_N {a m : Int32} {n : Nat} (hm : m = nI n) (hn : n + 1 < 2 ^ 31) : (0 ≤ a ∧ a ≤ m) ↔ isN a (n + 1) := by
  subst hm
  constructor
  · rintro ⟨h0, h1⟩
    obtain ⟨j, hj, rfl⟩ := nI_of (Int32.not_lt.mpr h0)
    exact ⟨j, by have := (nI_leI hj (by omega)).mp h1; omega, rfl⟩
  · rintro ⟨j, hj, rfl⟩
    exact ⟨nI_pos' (by omega), nI_le (by omega) (by omega)⟩
theorem in_t {a m : Int32} {n : Nat} (hm : m = nI n) (hn : n + 1 < 2 ^ 31) (h : isN a (n + 1)) : F12_isIn a 0 m = 1 := by
  rw [isIn_d, if_pos ((in_N hm hn).mpr h)]
theorem in_f {a m : Int32} {n : Nat} (hm : m = nI n) (hn : n + 1 < 2 ^ 31) (h : ¬ isN a (n + 1)) : F12_isIn a 0 m = 0 := by
  rw [isIn_d, if_neg (fun q => h ((in_N hm hn).mp q))]
theorem wi_t {a m : Int32} {n : Nat} (hm : m = nI n) (hn : n + 1 < 2 ^ 31) (h : isN a (n + 1)) : F11_within a 0 m = 1 := in_t hm hn h
theorem wi_f {a m : Int32} {n : Nat} (hm : m = nI n) (hn : n + 1 < 2 ^ 31) (h : ¬ isN a (n + 1)) : F11_within a 0 m = 0 := in_f hm hn h
/-- 0 .. n - 1, where n itself may be 0 -/
theorem inM_t {a : Int32} {n : Nat} (hn : n < 2 ^ 31) (h : isN a n) : F12_isIn a 0 (nI n - 1) = 1 := by
  obtain ⟨i, hi, rfl⟩ := h
  cases n with
  | zero => omega
  | succ n => rw [nI_pred]; exact in_t rfl (by omega) ⟨i, hi, rfl⟩
theorem inM_f {a : Int32} {n : Nat} (hn : n < 2 ^ 31) (h : ¬ isN a n) : F12_isIn a 0 (nI n - 1) = 0 := by
  cases n with
  | zero =>
    rw [isIn_d, if_neg]
    intro q
    have e : nI 0 - 1 = -1 := by decide
    rw [e] at q
    exact absurd (Int32.le_trans q.1 q.2) (by decide)
  | succ n => rw [nI_pred]; exact in_f rfl (by omega) h
theorem b01 {a : Int32} (h : a = 0 ∨ a = 1) : a &&& 1 = a := by rcases h with rfl | rfl <;> decide
theorem nge (m : Int32) {a b : Nat} (hm : m = nI b) (h : a < b) (hb : b < 2 ^ 31) : ¬ m ≤ nI a := by subst hm; exact nI_ge h hb
theorem bG_N {α : Type} {n L : Nat} {x : Option α} (h : n < L) (hL : L < 2 ^ 31) : bG (vp_in (nI n) L) x = x := bG_t (vp_in_nI h hL)
theorem bG_ne {α : Type} {n : Nat} {x : Option α} (h : 0 < n) (hL : n < 2 ^ 31) : bG (¬ nI n = nI 0) x = x := bG_t (nI_ne0 h hL)
theorem pk_subN {a b : Nat} (h : b ≤ a) : nI a + -nI b = nI (a - b) := by
  rw [← pk_sub h, Int32.sub_eq_add_neg]
section AC
variable {S : pS} {a v : Int32} {n i t f : Nat}
theorem thr_t (h : S 1 68 = nI n) (hn : n ≤ 8) (ha : isN a n) : F12_isThrower S a = 1 := by
  unfold F12_isThrower
  rw [h, inM_t (by omega) ha]; decide
theorem thr_f (h : S 1 68 = nI n) (hn : n ≤ 8) (ha : ¬ isN a n) : F12_isThrower S a = 0 := by
  unfold F12_isThrower
  rw [h, inM_f (by omega) ha]; decide
theorem spe_t (h : S 1 67 = nI n) (hn : n ≤ 6) (ha : isN a n) : F12_isSpear S a = 1 := by
  unfold F12_isSpear
  rw [h, inM_t (by omega) ha]; decide
theorem spe_f (h : S 1 67 = nI n) (hn : n ≤ 6) (ha : ¬ isN a n) : F12_isSpear S a = 0 := by
  unfold F12_isSpear
  rw [h, inM_f (by omega) ha]; decide
theorem wea (hv : a = nI i) (hi : i < 5) : F12_weather S a = some (S 1 (60 + i)) := by
  subst hv
  unfold F12_weather
  simp only [lit_I, nI_add]
  rw [bG_t (vp_in_nI (by omega) (by omega)), nI_clamp (by omega)]
theorem own (hv : v = nI f) (ht : t < 8) (hf : f < 7) : F12_own S (nI t) v = some (S 1 (4 + 7 * t + f)) := by
  subst hv
  unfold F12_own
  simp only [lit_I, nI_add, pk_mul]
  rw [bG_t (vp_in_nI (by omega) (by omega)), nI_clamp (by omega)]
theorem giv (hv : v = nI f) (ht : t < 8) (hf : f < 7) : F12_gives S (nI t) v a = some (sU S 1 (4 + 7 * t + f) a) := by
  subst hv
  unfold F12_gives
  simp only [lit_I, nI_add, pk_mul, bL_d]
  rw [bG_t (vp_in_nI (by omega) (by omega)), nI_clamp (by omega)]
/-- the class' -/
theorem vinI {x : Int32} {n : Nat} (hn : n < 2 ^ 31) : isN x n ↔ ¬ (x < 0 ∨ nI n ≤ x) := by
  rw [isN_iff hn]
  constructor
  · rintro ⟨h0, h1⟩ (h | h)
    · exact h0 h
    · exact (Int32.not_le.mpr h1) h
  · intro h
    exact ⟨fun q => h (Or.inl q), Int32.not_le.mp (fun q => h (Or.inr q))⟩
theorem hsp_t (h : S 1 4 = nI n) (hn : n ≤ 6) (ha : isN a n) : F10_hasSpear S 1 a = 1 := by
  unfold F10_hasSpear
  simp only [bL_d]
  obtain ⟨i, hi, rfl⟩ := ha
  rw [h, if_neg (nI_pos (by omega)), if_neg (nI_ge hi (by omega)), if_neg (nge 6 (b := 6) rfl (by omega) (by decide))]
theorem hsp_f (h : S 1 4 = nI n) (hn : n ≤ 6) (ha : ¬ isN a n) : F10_hasSpear S 1 a = 0 := by
  unfold F10_hasSpear
  simp only [bL_d]
  rw [vinI (by omega)] at ha
  have ha := Classical.not_not.mp ha
  rw [h]
  by_cases h0 : a < 0
  · rw [if_pos h0]
  · rw [if_neg h0, if_pos (ha.resolve_left h0)]
theorem one_t (h : S 1 5 = nI n) (hn : n ≤ 8) (hi : i < n) : F10_one S 1 (nI i) = some (some (29 + 2 * i)) := by
  unfold F10_one
  simp only [bL_d]
  rw [h, if_neg (nI_pos (by omega)), if_neg (nI_ge hi (by omega)), if_neg (nge 8 (b := 8) rfl (by omega) (by decide)), bG_t (vp_in_nI (by omega) (by omega)), nI_clamp (by omega)]
theorem one_f (h : S 1 5 = nI n) (hn : n ≤ 8) (ha : ¬ isN a n) : F10_one S 1 a = some none := by
  unfold F10_one
  simp only [bL_d]
  rw [vinI (by omega)] at ha
  have ha := Classical.not_not.mp ha
  rw [h]
  by_cases h0 : a < 0
  · rw [if_pos h0]
  · rw [if_neg h0, if_pos (ha.resolve_left h0)]
theorem hli_t (h : S 1 6 = nI n) (hn : n ≤ 100) (ha : isN a n) : F10_hasLine S 1 a = 1 := by
  unfold F10_hasLine
  simp only [bL_d]
  obtain ⟨i, hi, rfl⟩ := ha
  rw [h, if_neg (nI_pos (by omega)), if_neg (nI_ge hi (by omega)), if_neg (nge 100 (b := 100) rfl (by omega) (by decide))]
theorem hli_f (h : S 1 6 = nI n) (hn : n ≤ 100) (ha : ¬ isN a n) : F10_hasLine S 1 a = 0 := by
  unfold F10_hasLine
  simp only [bL_d]
  rw [vinI (by omega)] at ha
  have ha := Classical.not_not.mp ha
  rw [h]
  by_cases h0 : a < 0
  · rw [if_pos h0]
  · rw [if_neg h0, if_pos (ha.resolve_left h0)]
theorem col (h : S 1 6 = nI n) (hn : n ≤ 100) (hi : i < n) (hv : v = nI f) (hf : f < 9) : F10_column S 1 (nI i) v = some (S 6 (9 * i + f)) := by
  subst hv
  unfold F10_column
  simp only [bL_d]
  rw [hli_t h hn ⟨i, hi, rfl⟩, if_neg (by decide), wi_t (m := 8) (n := 8) rfl (by decide) ⟨f, hf, rfl⟩, if_neg (by decide)]
  simp only [lit_I, nI_add, pk_mul]
  rw [bG_t (vp_in_nI (by omega) (by omega)), nI_clamp (by omega), Nat.mul_comm]
theorem cth_t {x s : Int32} (h : S 1 4 = nI n) (hn : n ≤ 6) (h1 : isN x 100) (h2 : isN a 61) (h3 : isN s n) : F11_canThrow S x a s = 1 := by
  unfold F11_canThrow
  simp only [bL_d]
  rw [wi_t (m := 99) (n := 99) rfl (by decide) h1, if_neg (by decide), wi_t (m := 60) (n := 60) rfl (by decide) h2, if_neg (by decide), hsp_t h hn h3, if_neg (by decide)]
theorem cth_f {x s : Int32} (h : S 1 4 = nI n) (hn : n ≤ 6) (hx : ¬ (isN x 100 ∧ isN a 61 ∧ isN s n)) : F11_canThrow S x a s = 0 := by
  unfold F11_canThrow
  simp only [bL_d]
  by_cases h1 : isN x 100
  · rw [wi_t (m := 99) (n := 99) rfl (by decide) h1, if_neg (by decide)]
    by_cases h2 : isN a 61
    · rw [wi_t (m := 60) (n := 60) rfl (by decide) h2, if_neg (by decide)]
      by_cases h3 : isN s n
      · exact absurd (And.intro h1 (And.intro h2 h3)) hx
      · rw [hsp_f h hn h3, if_pos rfl]
    · rw [wi_f (m := 60) (n := 60) rfl (by decide) h2, if_pos rfl]
  · rw [wi_f (m := 99) (n := 99) rfl (by decide) h1, if_pos rfl]
theorem for_t (h : isN a 100) : F12_isForce a = 1 := by
  unfold F12_isForce
  rw [in_t (m := 99) (n := 99) rfl (by decide) h]; decide
theorem for_f (h : ¬ isN a 100) : F12_isForce a = 0 := by
  unfold F12_isForce
  rw [in_f (m := 99) (n := 99) rfl (by decide) h]; decide
theorem hol {lo hi : Int32} (h : lo ≤ hi) : F11_hold a lo hi = F12_held a lo hi := by
  unfold F11_hold F12_held F12_greater F12_lesser
  grind
end AC
theorem wea0 (S : pS) : F12_weather S 0 = some (S 1 60) := wea (a := 0) (i := 0) rfl (by decide)
theorem own0 {t : Nat} (S : pS) (ht : t < 8) : F12_own S (nI t) 0 = some (S 1 (4 + 7 * t)) := by
  rw [own (v := 0) (f := 0) rfl ht (by decide), show 4 + 7 * t + 0 = 4 + 7 * t by omega]
theorem giv0 {t : Nat} (S : pS) (a : Int32) (ht : t < 8) : F12_gives S (nI t) 0 a = some (sU S 1 (4 + 7 * t) a) := by
  rw [giv (v := 0) (f := 0) rfl ht (by decide), show 4 + 7 * t + 0 = 4 + 7 * t by omega]
theorem wea1 (S : pS) : F12_weather S 1 = some (S 1 61) := wea (a := 1) (i := 1) rfl (by decide)
theorem own1 {t : Nat} (S : pS) (ht : t < 8) : F12_own S (nI t) 1 = some (S 1 (5 + 7 * t)) := by
  rw [own (v := 1) (f := 1) rfl ht (by decide), show 4 + 7 * t + 1 = 5 + 7 * t by omega]
theorem giv1 {t : Nat} (S : pS) (a : Int32) (ht : t < 8) : F12_gives S (nI t) 1 a = some (sU S 1 (5 + 7 * t) a) := by
  rw [giv (v := 1) (f := 1) rfl ht (by decide), show 4 + 7 * t + 1 = 5 + 7 * t by omega]
theorem wea2 (S : pS) : F12_weather S 2 = some (S 1 62) := wea (a := 2) (i := 2) rfl (by decide)
theorem own2 {t : Nat} (S : pS) (ht : t < 8) : F12_own S (nI t) 2 = some (S 1 (6 + 7 * t)) := by
  rw [own (v := 2) (f := 2) rfl ht (by decide), show 4 + 7 * t + 2 = 6 + 7 * t by omega]
theorem giv2 {t : Nat} (S : pS) (a : Int32) (ht : t < 8) : F12_gives S (nI t) 2 a = some (sU S 1 (6 + 7 * t) a) := by
  rw [giv (v := 2) (f := 2) rfl ht (by decide), show 4 + 7 * t + 2 = 6 + 7 * t by omega]
theorem wea3 (S : pS) : F12_weather S 3 = some (S 1 63) := wea (a := 3) (i := 3) rfl (by decide)
theorem own3 {t : Nat} (S : pS) (ht : t < 8) : F12_own S (nI t) 3 = some (S 1 (7 + 7 * t)) := by
  rw [own (v := 3) (f := 3) rfl ht (by decide), show 4 + 7 * t + 3 = 7 + 7 * t by omega]
theorem giv3 {t : Nat} (S : pS) (a : Int32) (ht : t < 8) : F12_gives S (nI t) 3 a = some (sU S 1 (7 + 7 * t) a) := by
  rw [giv (v := 3) (f := 3) rfl ht (by decide), show 4 + 7 * t + 3 = 7 + 7 * t by omega]
theorem wea4 (S : pS) : F12_weather S 4 = some (S 1 64) := wea (a := 4) (i := 4) rfl (by decide)
theorem own4 {t : Nat} (S : pS) (ht : t < 8) : F12_own S (nI t) 4 = some (S 1 (8 + 7 * t)) := by
  rw [own (v := 4) (f := 4) rfl ht (by decide), show 4 + 7 * t + 4 = 8 + 7 * t by omega]
theorem giv4 {t : Nat} (S : pS) (a : Int32) (ht : t < 8) : F12_gives S (nI t) 4 a = some (sU S 1 (8 + 7 * t) a) := by
  rw [giv (v := 4) (f := 4) rfl ht (by decide), show 4 + 7 * t + 4 = 8 + 7 * t by omega]

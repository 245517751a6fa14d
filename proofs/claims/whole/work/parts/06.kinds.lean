abbrev K_Arms : (Nat × Nat) ⊕ (Nat × List Nat) := .inr (0, [3])
abbrev K_B400 : (Nat × Nat) ⊕ (Nat × List Nat) := .inl (1, 400)
abbrev K_Chances : (Nat × Nat) ⊕ (Nat × List Nat) := .inr (1, [3, 0, 0, 4, 6, 1, 0, 0, 0])
abbrev K_Flight : (Nat × Nat) ⊕ (Nat × List Nat) := .inr (2, [3, 0, 0, 0, 0])
abbrev K_G7x1000 : (Nat × Nat) ⊕ (Nat × List Nat) := .inl (5, 7)
abbrev K_G8x8 : (Nat × Nat) ⊕ (Nat × List Nat) := .inl (5, 8)
abbrev K_I1000 : (Nat × Nat) ⊕ (Nat × List Nat) := .inl (0, 1000)
abbrev K_I16 : (Nat × Nat) ⊕ (Nat × List Nat) := .inl (0, 16)
abbrev K_I32 : (Nat × Nat) ⊕ (Nat × List Nat) := .inl (0, 32)
abbrev K_I4 : (Nat × Nat) ⊕ (Nat × List Nat) := .inl (0, 4)
abbrev K_I400 : (Nat × Nat) ⊕ (Nat × List Nat) := .inl (0, 400)
abbrev K_I401 : (Nat × Nat) ⊕ (Nat × List Nat) := .inl (0, 401)
abbrev K_I5 : (Nat × Nat) ⊕ (Nat × List Nat) := .inl (0, 5)
abbrev K_I6 : (Nat × Nat) ⊕ (Nat × List Nat) := .inl (0, 6)
abbrev K_I60 : (Nat × Nat) ⊕ (Nat × List Nat) := .inl (0, 60)
abbrev K_I8 : (Nat × Nat) ⊕ (Nat × List Nat) := .inl (0, 8)
abbrev K_I9 : (Nat × Nat) ⊕ (Nat × List Nat) := .inl (0, 9)
abbrev K_I900 : (Nat × Nat) ⊕ (Nat × List Nat) := .inl (0, 900)
abbrev K_I91 : (Nat × Nat) ⊕ (Nat × List Nat) := .inl (0, 91)
abbrev K_J6300 : (Nat × Nat) ⊕ (Nat × List Nat) := .inl (3, 6300)
abbrev K_Law : (Nat × Nat) ⊕ (Nat × List Nat) := .inr (3, [0, 0, 3, 4, 5, 6, 7, 8])
abbrev K_PF : (Nat × Nat) ⊕ (Nat × List Nat) := .inr (11, [3, 47, 61, 65, 67, 1, 1, 1])
abbrev K_Past : (Nat × Nat) ⊕ (Nat × List Nat) := .inr (4, [0, 0, 3])
abbrev K_Reader : (Nat × Nat) ⊕ (Nat × List Nat) := .inr (5, [3, 0, 0, 8, 15, 0, 0])
abbrev K_T8 : (Nat × Nat) ⊕ (Nat × List Nat) := .inl (4, 8)
abbrev K_Tape : (Nat × Nat) ⊕ (Nat × List Nat) := .inr (6, [0, 0, 0, 0, 3, 0, 0, 4, 5, 6])
abbrev K_Thought : (Nat × Nat) ⊕ (Nat × List Nat) := .inr (7, [3, 0, 0, 5])
abbrev K_Thrower : (Nat × Nat) ⊕ (Nat × List Nat) := .inr (8, [0, 0, 0, 0, 0, 0, 3])
abbrev K_Training : (Nat × Nat) ⊕ (Nat × List Nat) := .inr (9, [0, 0, 1, 1, 5])
abbrev K_World : (Nat × Nat) ⊕ (Nat × List Nat) := .inr (10, [0, 0, 0, 0, 0, 0, 0, 0, 3, 4, 5, 6, 7, 8, 9, 16, 23])
abbrev K_Z10 : (Nat × Nat) ⊕ (Nat × List Nat) := .inl (2, 10)
def kdCl : List ((Nat × Nat) ⊕ (Nat × List Nat)) := [K_PF, K_World, K_I5, K_I6, K_I6, K_T8, K_I900, K_I60, K_Law, K_I16, K_I16, K_I16, K_I16, K_I400, K_I32, K_Law, K_I16, K_I16, K_I16, K_I16, K_I400, K_I32, K_Law, K_I16, K_I16, K_I16, K_I16, K_I400, K_I32, K_Thrower, K_I60, K_Thrower, K_I60, K_Thrower, K_I60, K_Thrower, K_I60, K_Thrower, K_I60, K_Thrower, K_I60, K_Thrower, K_I60, K_Thrower, K_I60, K_Reader, K_Tape, K_B400, K_I401, K_I401, K_I401, K_Law, K_I16, K_I16, K_I16, K_I16, K_I400, K_I32, K_I60, K_Thought, K_Flight, K_I9, K_I91, K_Arms, K_I8, K_Past, K_G8x8, K_I8, K_I8, K_I8, K_I8, K_I8, K_I8, K_I8, K_I8, K_World, K_I5, K_I6, K_I6, K_T8, K_I900, K_I60, K_Law, K_I16, K_I16, K_I16, K_I16, K_I400, K_I32, K_Law, K_I16, K_I16, K_I16, K_I16, K_I400, K_I32, K_Law, K_I16, K_I16, K_I16, K_I16, K_I400, K_I32, K_Thrower, K_I60, K_Thrower, K_I60, K_Thrower, K_I60, K_Thrower, K_I60, K_Thrower, K_I60, K_Thrower, K_I60, K_Thrower, K_I60, K_Thrower, K_I60, K_Chances, K_Z10, K_Arms, K_I8, K_G7x1000, K_I1000, K_I1000, K_I1000, K_I1000, K_I1000, K_I1000, K_I1000, K_Training, K_J6300, K_J6300, K_I4]
def kdC : pK := fun k => kdCl.getD k (.inl (0, 0))
theorem kdC_big {k : Nat} (h : 135 ≤ k) : kdC k = .inl (0, 0) := by
  show kdCl.getD k _ = _
  rw [List.getD_eq_getElem?_getD, List.getElem?_eq_none (by exact h)]
  rfl
theorem kall {K K2 : (Nat × Nat) ⊕ (Nat × List Nat)} {o : Nat} (hK : K ≠ .inl (0, 0)) (h : (List.range 135).all (fun k => decide (kdC k = K → kdC (k + o) = K2)) = true) {k : Nat} (hk : kdC k = K) : kdC (k + o) = K2 := by
  by_cases hl : k < 135
  · exact of_decide_eq_true (List.all_eq_true.mp h k (List.mem_range.mpr hl)) hk
  · exact absurd (hk.symm.trans (kdC_big (by omega))) hK
/-- the parts of an object that are always there -/
def subo : (Nat × Nat) ⊕ (Nat × List Nat) → List Nat
  | .inl (4, n) => (List.range n).map (fun t => 24 + 2 * t)
  | .inl (5, n) => (List.range n).map (fun t => 1 + t)
  | .inl _ => []
  | .inr (_, qs) => qs.filterMap (fun q => if 2 ≤ q then some (q - 2) else none)
def CC (Z : pZ) : Prop := zk Z = kdC ∧ ∀ k, k ∈ zL Z → ∀ o, o ∈ subo (kdC k) → k + o ∈ zL Z
theorem subF {Z : pZ} (hZ : CC Z) {K K2 : (Nat × Nat) ⊕ (Nat × List Nat)} {o k : Nat} (hK : K ≠ .inl (0, 0)) (h : (List.range 135).all (fun k => decide (kdC k = K → kdC (k + o) = K2)) = true) (ho : o ∈ subo K) (hk : isA Z K k) : isA Z K2 (k + o) := by
  have e : kdC k = K := by rw [← hZ.1]; exact hk.1
  exact ⟨by rw [hZ.1]; exact kall hK h e, hZ.2 k hk.2 o (by rw [e]; exact ho)⟩
theorem sub_PF_now {Z : pZ} {k : Nat} (hZ : CC Z) (h : isA Z K_PF k) : isA Z K_World (k + 1) := subF hZ (by decide) (by decide +kernel) (by decide) h
theorem sub_PF_reader {Z : pZ} {k : Nat} (hZ : CC Z) (h : isA Z K_PF k) : isA Z K_Reader (k + 45) := subF hZ (by decide) (by decide +kernel) (by decide) h
theorem sub_PF_thought {Z : pZ} {k : Nat} (hZ : CC Z) (h : isA Z K_PF k) : isA Z K_Thought (k + 59) := subF hZ (by decide) (by decide +kernel) (by decide) h
theorem sub_PF_arms {Z : pZ} {k : Nat} (hZ : CC Z) (h : isA Z K_PF k) : isA Z K_Arms (k + 63) := subF hZ (by decide) (by decide +kernel) (by decide) h
theorem sub_PF_past {Z : pZ} {k : Nat} (hZ : CC Z) (h : isA Z K_PF k) : isA Z K_Past (k + 65) := subF hZ (by decide) (by decide +kernel) (by decide) h
theorem sub_World_told {Z : pZ} {k : Nat} (hZ : CC Z) (h : isA Z K_World k) : isA Z K_I5 (k + 1) := subF hZ (by decide) (by decide +kernel) (by decide) h
theorem sub_World_soft {Z : pZ} {k : Nat} (hZ : CC Z) (h : isA Z K_World k) : isA Z K_I6 (k + 2) := subF hZ (by decide) (by decide +kernel) (by decide) h
theorem sub_World_tip {Z : pZ} {k : Nat} (hZ : CC Z) (h : isA Z K_World k) : isA Z K_I6 (k + 3) := subF hZ (by decide) (by decide +kernel) (by decide) h
theorem sub_World_team {Z : pZ} {k : Nat} (hZ : CC Z) (h : isA Z K_World k) : isA Z K_T8 (k + 4) := subF hZ (by decide) (by decide +kernel) (by decide) h
theorem sub_World_lineOf {Z : pZ} {k : Nat} (hZ : CC Z) (h : isA Z K_World k) : isA Z K_I900 (k + 5) := subF hZ (by decide) (by decide +kernel) (by decide) h
theorem sub_World_minute {Z : pZ} {k : Nat} (hZ : CC Z) (h : isA Z K_World k) : isA Z K_I60 (k + 6) := subF hZ (by decide) (by decide +kernel) (by decide) h
theorem sub_World_flight {Z : pZ} {k : Nat} (hZ : CC Z) (h : isA Z K_World k) : isA Z K_Law (k + 7) := subF hZ (by decide) (by decide +kernel) (by decide) h
theorem sub_World_arms {Z : pZ} {k : Nat} (hZ : CC Z) (h : isA Z K_World k) : isA Z K_Law (k + 14) := subF hZ (by decide) (by decide +kernel) (by decide) h
theorem sub_World_training {Z : pZ} {k : Nat} (hZ : CC Z) (h : isA Z K_World k) : isA Z K_Law (k + 21) := subF hZ (by decide) (by decide +kernel) (by decide) h
theorem sub_Thrower_plan {Z : pZ} {k : Nat} (hZ : CC Z) (h : isA Z K_Thrower k) : isA Z K_I60 (k + 1) := subF hZ (by decide) (by decide +kernel) (by decide) h
theorem sub_Law_word {Z : pZ} {k : Nat} (hZ : CC Z) (h : isA Z K_Law k) : isA Z K_I16 (k + 1) := subF hZ (by decide) (by decide +kernel) (by decide) h
theorem sub_Law_from {Z : pZ} {k : Nat} (hZ : CC Z) (h : isA Z K_Law k) : isA Z K_I16 (k + 2) := subF hZ (by decide) (by decide +kernel) (by decide) h
theorem sub_Law_when {Z : pZ} {k : Nat} (hZ : CC Z) (h : isA Z K_Law k) : isA Z K_I16 (k + 3) := subF hZ (by decide) (by decide +kernel) (by decide) h
theorem sub_Law_to {Z : pZ} {k : Nat} (hZ : CC Z) (h : isA Z K_Law k) : isA Z K_I16 (k + 4) := subF hZ (by decide) (by decide +kernel) (by decide) h
theorem sub_Law_step {Z : pZ} {k : Nat} (hZ : CC Z) (h : isA Z K_Law k) : isA Z K_I400 (k + 5) := subF hZ (by decide) (by decide +kernel) (by decide) h
theorem sub_Law_stack {Z : pZ} {k : Nat} (hZ : CC Z) (h : isA Z K_Law k) : isA Z K_I32 (k + 6) := subF hZ (by decide) (by decide +kernel) (by decide) h
theorem sub_Tape_bytes {Z : pZ} {k : Nat} (hZ : CC Z) (h : isA Z K_Tape k) : isA Z K_B400 (k + 1) := subF hZ (by decide) (by decide +kernel) (by decide) h
theorem sub_Tape_kinds {Z : pZ} {k : Nat} (hZ : CC Z) (h : isA Z K_Tape k) : isA Z K_I401 (k + 2) := subF hZ (by decide) (by decide +kernel) (by decide) h
theorem sub_Tape_values {Z : pZ} {k : Nat} (hZ : CC Z) (h : isA Z K_Tape k) : isA Z K_I401 (k + 3) := subF hZ (by decide) (by decide +kernel) (by decide) h
theorem sub_Tape_places {Z : pZ} {k : Nat} (hZ : CC Z) (h : isA Z K_Tape k) : isA Z K_I401 (k + 4) := subF hZ (by decide) (by decide +kernel) (by decide) h
theorem sub_Reader_tape {Z : pZ} {k : Nat} (hZ : CC Z) (h : isA Z K_Reader k) : isA Z K_Tape (k + 1) := subF hZ (by decide) (by decide +kernel) (by decide) h
theorem sub_Reader_law {Z : pZ} {k : Nat} (hZ : CC Z) (h : isA Z K_Reader k) : isA Z K_Law (k + 6) := subF hZ (by decide) (by decide +kernel) (by decide) h
theorem sub_Reader_orders {Z : pZ} {k : Nat} (hZ : CC Z) (h : isA Z K_Reader k) : isA Z K_I60 (k + 13) := subF hZ (by decide) (by decide +kernel) (by decide) h
theorem sub_Arms_asked {Z : pZ} {k : Nat} (hZ : CC Z) (h : isA Z K_Arms k) : isA Z K_I8 (k + 1) := subF hZ (by decide) (by decide +kernel) (by decide) h
theorem sub_Flight_is {Z : pZ} {k : Nat} (hZ : CC Z) (h : isA Z K_Flight k) : isA Z K_I9 (k + 1) := subF hZ (by decide) (by decide +kernel) (by decide) h
theorem sub_Thought_flight {Z : pZ} {k : Nat} (hZ : CC Z) (h : isA Z K_Thought k) : isA Z K_Flight (k + 1) := subF hZ (by decide) (by decide +kernel) (by decide) h
theorem sub_Thought_fars {Z : pZ} {k : Nat} (hZ : CC Z) (h : isA Z K_Thought k) : isA Z K_I91 (k + 3) := subF hZ (by decide) (by decide +kernel) (by decide) h
theorem sub_Past_rows {Z : pZ} {k : Nat} (hZ : CC Z) (h : isA Z K_Past k) : isA Z K_G8x8 (k + 1) := subF hZ (by decide) (by decide +kernel) (by decide) h
theorem sub_Chances_reaches {Z : pZ} {k : Nat} (hZ : CC Z) (h : isA Z K_Chances k) : isA Z K_Z10 (k + 1) := subF hZ (by decide) (by decide +kernel) (by decide) h
theorem sub_Chances_arms {Z : pZ} {k : Nat} (hZ : CC Z) (h : isA Z K_Chances k) : isA Z K_Arms (k + 2) := subF hZ (by decide) (by decide +kernel) (by decide) h
theorem sub_Chances_known {Z : pZ} {k : Nat} (hZ : CC Z) (h : isA Z K_Chances k) : isA Z K_G7x1000 (k + 4) := subF hZ (by decide) (by decide +kernel) (by decide) h
theorem sub_Training_asked {Z : pZ} {k : Nat} (hZ : CC Z) (h : isA Z K_Training k) : isA Z K_I4 (k + 3) := subF hZ (by decide) (by decide +kernel) (by decide) h
theorem tm_0 {Z : pZ} {k : Nat} (hZ : CC Z) (h : isA Z K_T8 k) : isA Z K_Thrower (k + 24) := subF hZ (by decide) (by decide +kernel) (by decide) h
theorem tm_1 {Z : pZ} {k : Nat} (hZ : CC Z) (h : isA Z K_T8 k) : isA Z K_Thrower (k + 26) := subF hZ (by decide) (by decide +kernel) (by decide) h
theorem tm_2 {Z : pZ} {k : Nat} (hZ : CC Z) (h : isA Z K_T8 k) : isA Z K_Thrower (k + 28) := subF hZ (by decide) (by decide +kernel) (by decide) h
theorem tm_3 {Z : pZ} {k : Nat} (hZ : CC Z) (h : isA Z K_T8 k) : isA Z K_Thrower (k + 30) := subF hZ (by decide) (by decide +kernel) (by decide) h
theorem tm_4 {Z : pZ} {k : Nat} (hZ : CC Z) (h : isA Z K_T8 k) : isA Z K_Thrower (k + 32) := subF hZ (by decide) (by decide +kernel) (by decide) h
theorem tm_5 {Z : pZ} {k : Nat} (hZ : CC Z) (h : isA Z K_T8 k) : isA Z K_Thrower (k + 34) := subF hZ (by decide) (by decide +kernel) (by decide) h
theorem tm_6 {Z : pZ} {k : Nat} (hZ : CC Z) (h : isA Z K_T8 k) : isA Z K_Thrower (k + 36) := subF hZ (by decide) (by decide +kernel) (by decide) h
theorem tm_7 {Z : pZ} {k : Nat} (hZ : CC Z) (h : isA Z K_T8 k) : isA Z K_Thrower (k + 38) := subF hZ (by decide) (by decide +kernel) (by decide) h
theorem tm {Z : pZ} {k t : Nat} (hZ : CC Z) (h : isA Z K_T8 k) (ht : t < 8) : isA Z K_Thrower (k + 24 + 2 * t) := by
  rcases (show t = 0 ∨ t = 1 ∨ t = 2 ∨ t = 3 ∨ t = 4 ∨ t = 5 ∨ t = 6 ∨ t = 7 by omega) with rfl | rfl | rfl | rfl | rfl | rfl | rfl | rfl
  · exact tm_0 hZ h
  · exact tm_1 hZ h
  · exact tm_2 hZ h
  · exact tm_3 hZ h
  · exact tm_4 hZ h
  · exact tm_5 hZ h
  · exact tm_6 hZ h
  · exact tm_7 hZ h
theorem gr_G7x1000_0 {Z : pZ} {k : Nat} (hZ : CC Z) (h : isA Z K_G7x1000 k) : isA Z K_I1000 (k + 1) := subF hZ (by decide) (by decide +kernel) (by decide) h
theorem gr_G7x1000_1 {Z : pZ} {k : Nat} (hZ : CC Z) (h : isA Z K_G7x1000 k) : isA Z K_I1000 (k + 2) := subF hZ (by decide) (by decide +kernel) (by decide) h
theorem gr_G7x1000_2 {Z : pZ} {k : Nat} (hZ : CC Z) (h : isA Z K_G7x1000 k) : isA Z K_I1000 (k + 3) := subF hZ (by decide) (by decide +kernel) (by decide) h
theorem gr_G7x1000_3 {Z : pZ} {k : Nat} (hZ : CC Z) (h : isA Z K_G7x1000 k) : isA Z K_I1000 (k + 4) := subF hZ (by decide) (by decide +kernel) (by decide) h
theorem gr_G7x1000_4 {Z : pZ} {k : Nat} (hZ : CC Z) (h : isA Z K_G7x1000 k) : isA Z K_I1000 (k + 5) := subF hZ (by decide) (by decide +kernel) (by decide) h
theorem gr_G7x1000_5 {Z : pZ} {k : Nat} (hZ : CC Z) (h : isA Z K_G7x1000 k) : isA Z K_I1000 (k + 6) := subF hZ (by decide) (by decide +kernel) (by decide) h
theorem gr_G7x1000_6 {Z : pZ} {k : Nat} (hZ : CC Z) (h : isA Z K_G7x1000 k) : isA Z K_I1000 (k + 7) := subF hZ (by decide) (by decide +kernel) (by decide) h
theorem gr_G7x1000 {Z : pZ} {k t : Nat} (hZ : CC Z) (h : isA Z K_G7x1000 k) (ht : t < 7) : isA Z K_I1000 (k + 1 + t) := by
  rcases (show t = 0 ∨ t = 1 ∨ t = 2 ∨ t = 3 ∨ t = 4 ∨ t = 5 ∨ t = 6 by omega) with rfl | rfl | rfl | rfl | rfl | rfl | rfl
  · exact gr_G7x1000_0 hZ h
  · exact gr_G7x1000_1 hZ h
  · exact gr_G7x1000_2 hZ h
  · exact gr_G7x1000_3 hZ h
  · exact gr_G7x1000_4 hZ h
  · exact gr_G7x1000_5 hZ h
  · exact gr_G7x1000_6 hZ h
theorem gr_G8x8_0 {Z : pZ} {k : Nat} (hZ : CC Z) (h : isA Z K_G8x8 k) : isA Z K_I8 (k + 1) := subF hZ (by decide) (by decide +kernel) (by decide) h
theorem gr_G8x8_1 {Z : pZ} {k : Nat} (hZ : CC Z) (h : isA Z K_G8x8 k) : isA Z K_I8 (k + 2) := subF hZ (by decide) (by decide +kernel) (by decide) h
theorem gr_G8x8_2 {Z : pZ} {k : Nat} (hZ : CC Z) (h : isA Z K_G8x8 k) : isA Z K_I8 (k + 3) := subF hZ (by decide) (by decide +kernel) (by decide) h
theorem gr_G8x8_3 {Z : pZ} {k : Nat} (hZ : CC Z) (h : isA Z K_G8x8 k) : isA Z K_I8 (k + 4) := subF hZ (by decide) (by decide +kernel) (by decide) h
theorem gr_G8x8_4 {Z : pZ} {k : Nat} (hZ : CC Z) (h : isA Z K_G8x8 k) : isA Z K_I8 (k + 5) := subF hZ (by decide) (by decide +kernel) (by decide) h
theorem gr_G8x8_5 {Z : pZ} {k : Nat} (hZ : CC Z) (h : isA Z K_G8x8 k) : isA Z K_I8 (k + 6) := subF hZ (by decide) (by decide +kernel) (by decide) h
theorem gr_G8x8_6 {Z : pZ} {k : Nat} (hZ : CC Z) (h : isA Z K_G8x8 k) : isA Z K_I8 (k + 7) := subF hZ (by decide) (by decide +kernel) (by decide) h
theorem gr_G8x8_7 {Z : pZ} {k : Nat} (hZ : CC Z) (h : isA Z K_G8x8 k) : isA Z K_I8 (k + 8) := subF hZ (by decide) (by decide +kernel) (by decide) h
theorem gr_G8x8 {Z : pZ} {k t : Nat} (hZ : CC Z) (h : isA Z K_G8x8 k) (ht : t < 8) : isA Z K_I8 (k + 1 + t) := by
  rcases (show t = 0 ∨ t = 1 ∨ t = 2 ∨ t = 3 ∨ t = 4 ∨ t = 5 ∨ t = 6 ∨ t = 7 by omega) with rfl | rfl | rfl | rfl | rfl | rfl | rfl | rfl
  · exact gr_G8x8_0 hZ h
  · exact gr_G8x8_1 hZ h
  · exact gr_G8x8_2 hZ h
  · exact gr_G8x8_3 hZ h
  · exact gr_G8x8_4 hZ h
  · exact gr_G8x8_5 hZ h
  · exact gr_G8x8_6 hZ h
  · exact gr_G8x8_7 hZ h
theorem KX0 : CK 0 RX0 TX0 1 tyX0 := ⟨rfl, inX0, tyX0_ok, nmX0, by decide +kernel⟩
theorem KX1 : CK 1 RX1 TX1 9 tyX1 := ⟨rfl, inX1, tyX1_ok, nmX1, by decide +kernel⟩
theorem KX2 : CK 2 RX2 TX2 5 tyX2 := ⟨rfl, inX2, tyX2_ok, nmX2, by decide +kernel⟩
theorem KX3 : CK 3 RX3 TX3 8 tyX3 := ⟨rfl, inX3, tyX3_ok, nmX3, by decide +kernel⟩
theorem KX4 : CK 4 RX4 TX4 3 tyX4 := ⟨rfl, inX4, tyX4_ok, nmX4, by decide +kernel⟩
theorem KX5 : CK 5 RX5 TX5 7 tyX5 := ⟨rfl, inX5, tyX5_ok, nmX5, by decide +kernel⟩
theorem KX6 : CK 6 RX6 TX6 10 tyX6 := ⟨rfl, inX6, tyX6_ok, nmX6, by decide +kernel⟩
theorem KX7 : CK 7 RX7 TX7 4 tyX7 := ⟨rfl, inX7, tyX7_ok, nmX7, by decide +kernel⟩
theorem KX8 : CK 8 RX8 TX8 7 tyX8 := ⟨rfl, inX8, tyX8_ok, nmX8, by decide +kernel⟩
theorem KX9 : CK 9 RX9 TX9 5 tyX9 := ⟨rfl, inX9, tyX9_ok, nmX9, by decide +kernel⟩
theorem KX10 : CK 10 RX10 TX10 17 tyX10 := ⟨rfl, inX10, tyX10_ok, nmX10, by decide +kernel⟩
theorem KX11 : CK 11 RX11 TX11 8 tyX11 := ⟨rfl, inX11, tyX11_ok, nmX11, by decide +kernel⟩
theorem KX12 : CK 12 RX12 TX12 46 tyX12 := ⟨rfl, inX12, tyX12_ok, nmX12, by decide +kernel⟩
abbrev K_M : (Nat × Nat) ⊕ (Nat × List Nat) := .inr (12, [3, 4, 5, 0, 0, 6, 7, 8, 9, 10, 11, 12, 0, 0, 0, 0, 0, 0, 0, 0, 0, 0, 0, 0, 0, 0, 0, 0, 0, 0, 0, 0, 0, 0, 0, 0, 0, 0, 0, 0, 13, 14, 15, 16, 17, 18])
def kdMl : List ((Nat × Nat) ⊕ (Nat × List Nat)) := [K_M, .inl (0, 4296), .inl (0, 4296), .inl (0, 480), .inl (0, 64), .inl (0, 820), .inl (0, 60), .inl (0, 400), .inl (0, 420), .inl (0, 20), .inl (0, 60), .inl (0, 100100), .inl (0, 100100), .inl (2, 100100), .inl (0, 7007), .inl (0, 7007), .inl (0, 10)]
def kdM : pK := fun k => kdMl.getD k (.inl (0, 0))
def CM (Z : pZ) : Prop := zk Z = kdM ∧ ∀ k, k < 17 → k ∈ zL Z
theorem m_this {Z : pZ} (hZ : CM Z) : isA Z K_M 0 := ⟨by rw [hZ.1]; rfl, hZ.2 0 (by decide)⟩
theorem m_w {Z : pZ} (hZ : CM Z) : isA Z (.inl (0, 4296)) 1 := ⟨by rw [hZ.1]; rfl, hZ.2 1 (by decide)⟩
theorem m_kept {Z : pZ} (hZ : CM Z) : isA Z (.inl (0, 4296)) 2 := ⟨by rw [hZ.1]; rfl, hZ.2 2 (by decide)⟩
theorem m_back {Z : pZ} (hZ : CM Z) : isA Z (.inl (0, 480)) 3 := ⟨by rw [hZ.1]; rfl, hZ.2 3 (by decide)⟩
theorem m_freshLine {Z : pZ} (hZ : CM Z) : isA Z (.inl (0, 64)) 4 := ⟨by rw [hZ.1]; rfl, hZ.2 4 (by decide)⟩
theorem m_freshStep {Z : pZ} (hZ : CM Z) : isA Z (.inl (0, 820)) 5 := ⟨by rw [hZ.1]; rfl, hZ.2 5 (by decide)⟩
theorem m_freshOrder {Z : pZ} (hZ : CM Z) : isA Z (.inl (0, 60)) 6 := ⟨by rw [hZ.1]; rfl, hZ.2 6 (by decide)⟩
theorem m_tape {Z : pZ} (hZ : CM Z) : isA Z (.inl (0, 400)) 7 := ⟨by rw [hZ.1]; rfl, hZ.2 7 (by decide)⟩
theorem m_pile {Z : pZ} (hZ : CM Z) : isA Z (.inl (0, 420)) 8 := ⟨by rw [hZ.1]; rfl, hZ.2 8 (by decide)⟩
theorem m_facts {Z : pZ} (hZ : CM Z) : isA Z (.inl (0, 20)) 9 := ⟨by rw [hZ.1]; rfl, hZ.2 9 (by decide)⟩
theorem m_lying {Z : pZ} (hZ : CM Z) : isA Z (.inl (0, 60)) 10 := ⟨by rw [hZ.1]; rfl, hZ.2 10 (by decide)⟩
theorem m_reach {Z : pZ} (hZ : CM Z) : isA Z (.inl (0, 100100)) 11 := ⟨by rw [hZ.1]; rfl, hZ.2 11 (by decide)⟩
theorem m_reachNext {Z : pZ} (hZ : CM Z) : isA Z (.inl (0, 100100)) 12 := ⟨by rw [hZ.1]; rfl, hZ.2 12 (by decide)⟩
theorem m_mark {Z : pZ} (hZ : CM Z) : isA Z (.inl (2, 100100)) 13 := ⟨by rw [hZ.1]; rfl, hZ.2 13 (by decide)⟩
theorem m_chances {Z : pZ} (hZ : CM Z) : isA Z (.inl (0, 7007)) 14 := ⟨by rw [hZ.1]; rfl, hZ.2 14 (by decide)⟩
theorem m_firsts {Z : pZ} (hZ : CM Z) : isA Z (.inl (0, 7007)) 15 := ⟨by rw [hZ.1]; rfl, hZ.2 15 (by decide)⟩
theorem m_reached {Z : pZ} (hZ : CM Z) : isA Z (.inl (0, 10)) 16 := ⟨by rw [hZ.1]; rfl, hZ.2 16 (by decide)⟩
theorem ki_m1 : Int32.ofInt (-1) = (-1) := by decide
theorem ki_0 : Int32.ofInt 0 = 0 := by decide
theorem ki_1 : Int32.ofInt 1 = 1 := by decide
theorem ki_2 : Int32.ofInt 2 = 2 := by decide
theorem ki_3 : Int32.ofInt 3 = 3 := by decide
theorem ki_4 : Int32.ofInt 4 = 4 := by decide
theorem ki_5 : Int32.ofInt 5 = 5 := by decide
theorem kb_m100 : (Int8.ofInt (-100)).toInt32 = (-100) := by decide
theorem kb_m29 : (Int8.ofInt (-29)).toInt32 = (-29) := by decide
theorem kb_m20 : (Int8.ofInt (-20)).toInt32 = (-20) := by decide
theorem kb_m9 : (Int8.ofInt (-9)).toInt32 = (-9) := by decide
theorem kb_6 : (Int8.ofInt 6).toInt32 = 6 := by decide
theorem kb_7 : (Int8.ofInt 7).toInt32 = 7 := by decide
theorem kb_8 : (Int8.ofInt 8).toInt32 = 8 := by decide
theorem kb_9 : (Int8.ofInt 9).toInt32 = 9 := by decide
theorem kb_10 : (Int8.ofInt 10).toInt32 = 10 := by decide
theorem kb_11 : (Int8.ofInt 11).toInt32 = 11 := by decide
theorem kb_12 : (Int8.ofInt 12).toInt32 = 12 := by decide
theorem kb_13 : (Int8.ofInt 13).toInt32 = 13 := by decide
theorem kb_14 : (Int8.ofInt 14).toInt32 = 14 := by decide
theorem kb_15 : (Int8.ofInt 15).toInt32 = 15 := by decide
theorem kb_16 : (Int8.ofInt 16).toInt32 = 16 := by decide
theorem kb_17 : (Int8.ofInt 17).toInt32 = 17 := by decide
theorem kb_18 : (Int8.ofInt 18).toInt32 = 18 := by decide
theorem kb_19 : (Int8.ofInt 19).toInt32 = 19 := by decide
theorem kb_20 : (Int8.ofInt 20).toInt32 = 20 := by decide
theorem kb_21 : (Int8.ofInt 21).toInt32 = 21 := by decide
theorem kb_22 : (Int8.ofInt 22).toInt32 = 22 := by decide
theorem kb_23 : (Int8.ofInt 23).toInt32 = 23 := by decide
theorem kb_24 : (Int8.ofInt 24).toInt32 = 24 := by decide
theorem kb_25 : (Int8.ofInt 25).toInt32 = 25 := by decide
theorem kb_26 : (Int8.ofInt 26).toInt32 = 26 := by decide
theorem kb_27 : (Int8.ofInt 27).toInt32 = 27 := by decide
theorem kb_28 : (Int8.ofInt 28).toInt32 = 28 := by decide
theorem kb_29 : (Int8.ofInt 29).toInt32 = 29 := by decide
theorem kb_30 : (Int8.ofInt 30).toInt32 = 30 := by decide
theorem kb_31 : (Int8.ofInt 31).toInt32 = 31 := by decide
theorem kb_32 : (Int8.ofInt 32).toInt32 = 32 := by decide
theorem kb_40 : (Int8.ofInt 40).toInt32 = 40 := by decide
theorem kb_41 : (Int8.ofInt 41).toInt32 = 41 := by decide
theorem kb_42 : (Int8.ofInt 42).toInt32 = 42 := by decide
theorem kb_43 : (Int8.ofInt 43).toInt32 = 43 := by decide
theorem kb_44 : (Int8.ofInt 44).toInt32 = 44 := by decide
theorem kb_45 : (Int8.ofInt 45).toInt32 = 45 := by decide
theorem kb_46 : (Int8.ofInt 46).toInt32 = 46 := by decide
theorem kb_47 : (Int8.ofInt 47).toInt32 = 47 := by decide
theorem kb_48 : (Int8.ofInt 48).toInt32 = 48 := by decide
theorem kb_49 : (Int8.ofInt 49).toInt32 = 49 := by decide
theorem kb_50 : (Int8.ofInt 50).toInt32 = 50 := by decide
theorem kb_51 : (Int8.ofInt 51).toInt32 = 51 := by decide
theorem kb_52 : (Int8.ofInt 52).toInt32 = 52 := by decide
theorem kb_53 : (Int8.ofInt 53).toInt32 = 53 := by decide
theorem kb_54 : (Int8.ofInt 54).toInt32 = 54 := by decide
theorem kb_55 : (Int8.ofInt 55).toInt32 = 55 := by decide
theorem kb_56 : (Int8.ofInt 56).toInt32 = 56 := by decide
theorem kb_57 : (Int8.ofInt 57).toInt32 = 57 := by decide
theorem kb_58 : (Int8.ofInt 58).toInt32 = 58 := by decide
theorem kb_59 : (Int8.ofInt 59).toInt32 = 59 := by decide
theorem kb_60 : (Int8.ofInt 60).toInt32 = 60 := by decide
theorem kb_61 : (Int8.ofInt 61).toInt32 = 61 := by decide
theorem kb_62 : (Int8.ofInt 62).toInt32 = 62 := by decide
theorem kb_63 : (Int8.ofInt 63).toInt32 = 63 := by decide
theorem kb_64 : (Int8.ofInt 64).toInt32 = 64 := by decide
theorem kb_65 : (Int8.ofInt 65).toInt32 = 65 := by decide
theorem kb_66 : (Int8.ofInt 66).toInt32 = 66 := by decide
theorem kb_67 : (Int8.ofInt 67).toInt32 = 67 := by decide
theorem kb_68 : (Int8.ofInt 68).toInt32 = 68 := by decide
theorem kb_69 : (Int8.ofInt 69).toInt32 = 69 := by decide
theorem kb_70 : (Int8.ofInt 70).toInt32 = 70 := by decide
theorem kb_82 : (Int8.ofInt 82).toInt32 = 82 := by decide
theorem kb_90 : (Int8.ofInt 90).toInt32 = 90 := by decide
theorem kb_91 : (Int8.ofInt 91).toInt32 = 91 := by decide
theorem kb_97 : (Int8.ofInt 97).toInt32 = 97 := by decide
theorem kb_99 : (Int8.ofInt 99).toInt32 = 99 := by decide
theorem kb_100 : (Int8.ofInt 100).toInt32 = 100 := by decide
theorem kb_122 : (Int8.ofInt 122).toInt32 = 122 := by decide
theorem ks_m10000 : (Int16.ofInt (-10000)).toInt32 = (-10000) := by decide
theorem ks_m1000 : (Int16.ofInt (-1000)).toInt32 = (-1000) := by decide
theorem ks_m200 : (Int16.ofInt (-200)).toInt32 = (-200) := by decide
theorem ks_140 : (Int16.ofInt 140).toInt32 = 140 := by decide
theorem ks_141 : (Int16.ofInt 141).toInt32 = 141 := by decide
theorem ks_142 : (Int16.ofInt 142).toInt32 = 142 := by decide
theorem ks_143 : (Int16.ofInt 143).toInt32 = 143 := by decide
theorem ks_145 : (Int16.ofInt 145).toInt32 = 145 := by decide
theorem ks_147 : (Int16.ofInt 147).toInt32 = 147 := by decide
theorem ks_150 : (Int16.ofInt 150).toInt32 = 150 := by decide
theorem ks_159 : (Int16.ofInt 159).toInt32 = 159 := by decide
theorem ks_160 : (Int16.ofInt 160).toInt32 = 160 := by decide
theorem ks_161 : (Int16.ofInt 161).toInt32 = 161 := by decide
theorem ks_162 : (Int16.ofInt 162).toInt32 = 162 := by decide
theorem ks_180 : (Int16.ofInt 180).toInt32 = 180 := by decide
theorem ks_200 : (Int16.ofInt 200).toInt32 = 200 := by decide
theorem ks_255 : (Int16.ofInt 255).toInt32 = 255 := by decide
theorem ks_256 : (Int16.ofInt 256).toInt32 = 256 := by decide
theorem ks_257 : (Int16.ofInt 257).toInt32 = 257 := by decide
theorem ks_258 : (Int16.ofInt 258).toInt32 = 258 := by decide
theorem ks_259 : (Int16.ofInt 259).toInt32 = 259 := by decide
theorem ks_260 : (Int16.ofInt 260).toInt32 = 260 := by decide
theorem ks_261 : (Int16.ofInt 261).toInt32 = 261 := by decide
theorem ks_400 : (Int16.ofInt 400).toInt32 = 400 := by decide
theorem ks_401 : (Int16.ofInt 401).toInt32 = 401 := by decide
theorem ks_420 : (Int16.ofInt 420).toInt32 = 420 := by decide
theorem ks_480 : (Int16.ofInt 480).toInt32 = 480 := by decide
theorem ks_640 : (Int16.ofInt 640).toInt32 = 640 := by decide
theorem ks_641 : (Int16.ofInt 641).toInt32 = 641 := by decide
theorem ks_642 : (Int16.ofInt 642).toInt32 = 642 := by decide
theorem ks_644 : (Int16.ofInt 644).toInt32 = 644 := by decide
theorem ks_692 : (Int16.ofInt 692).toInt32 = 692 := by decide
theorem ks_740 : (Int16.ofInt 740).toInt32 = 740 := by decide
theorem ks_788 : (Int16.ofInt 788).toInt32 = 788 := by decide
theorem ks_820 : (Int16.ofInt 820).toInt32 = 820 := by decide
theorem ks_836 : (Int16.ofInt 836).toInt32 = 836 := by decide
theorem ks_900 : (Int16.ofInt 900).toInt32 = 900 := by decide
theorem ks_999 : (Int16.ofInt 999).toInt32 = 999 := by decide
theorem ks_1000 : (Int16.ofInt 1000).toInt32 = 1000 := by decide
theorem ks_1001 : (Int16.ofInt 1001).toInt32 = 1001 := by decide
theorem ks_3296 : (Int16.ofInt 3296).toInt32 = 3296 := by decide
theorem ks_4000 : (Int16.ofInt 4000).toInt32 = 4000 := by decide
theorem ks_4296 : (Int16.ofInt 4296).toInt32 = 4296 := by decide
theorem ks_6300 : (Int16.ofInt 6300).toInt32 = 6300 := by decide
theorem ks_7007 : (Int16.ofInt 7007).toInt32 = 7007 := by decide
theorem ks_9999 : (Int16.ofInt 9999).toInt32 = 9999 := by decide

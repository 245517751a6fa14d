/-! the calls that may make an object -/
theorem mut_at {k ci j : Nat} {qs : List Nat} (h : kdC k = .inr (ci, qs)) (hj : qs[j]? = some 1) : (k = 0 ∧ (j = 5 ∨ j = 6 ∨ j = 7)) ∨ (k = 119 ∧ j = 5) ∨ (k = 131 ∧ (j = 2 ∨ j = 3)) := by
  have hk : k < 135 := by
    rcases Nat.lt_or_ge k 135 with q | q
    · exact q
    · rw [kdC_big q] at h; cases h
  have hc : (List.range 135).all (fun k => match kdC k with
    | .inl _ => true
    | .inr (_, qs) => (List.range qs.length).all (fun j => decide (qs[j]? = some 1 → (k = 0 ∧ (j = 5 ∨ j = 6 ∨ j = 7)) ∨ (k = 119 ∧ j = 5) ∨ (k = 131 ∧ (j = 2 ∨ j = 3))))) = true := by decide +kernel
  have h1 := List.all_eq_true.mp hc k (List.mem_range.mpr hk)
  rw [h] at h1
  have h2 := List.all_eq_true.mp h1 j (List.mem_range.mpr (List.getElem?_eq_some_iff.mp hj).1)
  exact of_decide_eq_true h2 hj
theorem pcel_119 {Z : pZ} {S : pS} {x : Int32} (hk : zk Z 119 = K_Chances) (h : (pmu x).map (za Z) = (pmu (S 119 5)).map (za Z)) : pcel Z (sU S 119 5 x) 119 = pcel Z S 119 := by
  rw [pcel_o hk, pcel_o hk]
  simp [pfs, pfv, sU_get, h]
theorem cel_re {Z : pZ} {S : pS} {x : Int32} (hk : zk Z = kdC) (h : (pmu x).map (za Z) = (pmu (S 119 5)).map (za Z)) : cel Z (sU S 119 5 x) = cel Z S := by
  unfold cel
  refine List.map_congr_left (fun k _ => ?_)
  by_cases q : k = 119
  · subst q
    rw [pcel_119 (by rw [hk]; rfl) h]
  · rw [pcel_congr (sU_ne q)]
theorem inZ_big {S : pS} {k : Nat} (h : 135 ≤ k) : ¬ inZ S k := by
  unfold inZ
  intro q
  omega
section MD
variable {Z0 : pZ} {s : State} {Bc Bm : pZ} {Sc Sm S2 S3 : pS} {H H2 : Heap} {locs locs2 : List Loc} {cells slots k0 n : Nat}
/-- the one reference that nobody keeps told where it points to: not into what isn't made -/
theorem LI_fix (hI : LI Z0 s Bc Bm Sc Sm H locs cells slots) (hb : ∀ k, k0 ≤ k → k < k0 + n → k ∉ zL Bc) (hn : k0 + n ≤ 135) : ∃ S' : pS, LI Z0 s Bc Bm S' Sm H locs cells slots ∧ (∀ k, k ≠ 119 → S' k = Sc k) ∧ ∀ o, pmu (S' 119 5) = some o → ¬ (k0 ≤ o ∧ o < k0 + n) := by
  have hx : ∃ x : Int32, (pmu x).map (za Bc) = (pmu (Sc 119 5)).map (za Bc) ∧ ∀ o, pmu x = some o → ¬ (k0 ≤ o ∧ o < k0 + n) := by
    by_cases q : ∃ o, pmu (Sc 119 5) = some o ∧ k0 ≤ o ∧ o < k0 + n
    · obtain ⟨o, e, q1, q2⟩ := q
      have e1 : pmu 1000 = some 1000 := by decide
      refine ⟨1000, ?_, fun o' h' => ?_⟩
      · rw [e, e1]
        show some (za Bc 1000) = some (za Bc o)
        rw [hI.2.2.2.2.2.1 o (hb o q1 q2), hI.2.2.2.2.2.1 1000 (fun q => inZ_big (by decide) ((hI.2.2.2.2.1 1000).mp q))]
      · rw [e1] at h'
        cases h'
        omega
    · exact ⟨Sc 119 5, rfl, fun o h1 h2 => q ⟨o, h1, h2.1, h2.2⟩⟩
  obtain ⟨x, hx1, hx2⟩ := hx
  have hs : ∀ k, k ≠ 119 → sU Sc 119 5 x k = Sc k := fun k hk => sU_ne hk
  refine ⟨sU Sc 119 5 x, ?_, hs, fun o h => hx2 o (by rw [sU_s] at h; exact h)⟩
  have hT := hI.two
  have hA := Rel_A hI.rel
  refine hI.next ?_ (Rel_sw hI.rel (fun k _ hk => hs k (by omega)) (by rw [hs 0 (by decide)]) ?_)
  · unfold Two at hT ⊢
    rw [cel_re hI.2.2.1.1 hx1]
    exact hT
  · unfold AllR at hA ⊢
    rw [hs 0 (by decide), hs 131 (by decide)]
    exact hA
theorem AllR_5 (hR : (Rel (Sc 0)) Sc Sm) : Sc 0 5 = 0 ∨ Sc 0 5 = 75 := by
  obtain ⟨ns, nt, nl, ng, rd, tn, nu, la, np, h1, h2, h3, h4, h5', h6, h7⟩ := hR
  rcases h5' with ⟨_, q⟩ | ⟨_, q, _⟩
  · exact Or.inl q
  · exact Or.inr q
theorem LI_hm (hI : LI Z0 s Bc Bm Sc Sm H locs cells slots) (h119 : (119 ∈ zL Bc) → ∀ o, pmu (Sc 119 5) = some o → ¬ (k0 ≤ o ∧ o < k0 + n)) (h5 : Sc 0 5 = 0 ∨ ¬ (k0 ≤ 75 ∧ 75 < k0 + n)) (h6 : Sc 0 6 = 0 ∨ ¬ (k0 ≤ 119 ∧ 119 < k0 + n)) (h7 : Sc 0 7 = 0 ∨ (¬ (k0 ≤ 131 ∧ 131 < k0 + n) ∧ ¬ (k0 ≤ 132 ∧ 132 < k0 + n) ∧ ¬ (k0 ≤ 133 ∧ 133 < k0 + n))) {X : va_W} : ∀ k, k ∈ zL (wX Bc X) → ∀ ci qs j o, zk (wX Bc X) k = .inr (ci, qs) → qs[j]? = some 1 → pmu (Sc k j) = some o → ¬ (k0 ≤ o ∧ o < k0 + n) := by
  intro k hk ci qs j o hz hj ho
  have hz : kdC k = .inr (ci, qs) := by rw [← hI.2.2.1.1]; exact hz
  have hA := Rel_A hI.rel
  have hin := (hI.2.2.2.2.1 k).mp hk
  have e75 : pmu 75 = some 75 := by decide
  have e119 : pmu 119 = some 119 := by decide
  have e131 : pmu 131 = some 131 := by decide
  have e132 : pmu 132 = some 132 := by decide
  have e133 : pmu 133 = some 133 := by decide
  have e0 : pmu 0 = none := by decide
  rcases mut_at hz hj with ⟨rfl, rfl | rfl | rfl⟩ | ⟨rfl, rfl⟩ | ⟨rfl, hj⟩
  · rcases AllR_5 hI.rel with q | q
    · rw [q, e0] at ho; cases ho
    · rcases h5 with r | r
      · rw [r, e0] at ho; cases ho
      · rw [q, e75] at ho; cases ho; exact r
  · rcases hA.1 with q | q
    · rw [q, e0] at ho; cases ho
    · rcases h6 with r | r
      · rw [r, e0] at ho; cases ho
      · rw [q, e119] at ho; cases ho; exact r
  · rcases hA.2.1 with q | ⟨q, -⟩
    · rw [q, e0] at ho; cases ho
    · rcases h7 with r | r
      · rw [r, e0] at ho; cases ho
      · rw [q, e131] at ho; cases ho; exact r.1
  · exact h119 hk o ho
  · have h131 : Sc 0 7 = 131 := by
      rcases hin with q | q | q | q
      · omega
      · omega
      · omega
      · exact q.2.2
    rcases h7 with r | r
    · rw [r] at h131; cases h131
    · rcases hA.2.1 with q | ⟨-, ⟨q1, q2⟩ | ⟨q1, q2⟩⟩
      · rw [q] at h131; cases h131
      · rcases hj with rfl | rfl
        · rw [q1, e132] at ho; cases ho; exact r.2.1
        · rw [q2, e133] at ho; cases ho; exact r.2.2
      · rcases hj with rfl | rfl
        · rw [q1, e133] at ho; cases ho; exact r.2.2
        · rw [q2, e132] at ho; cases ho; exact r.2.1
theorem LI_made {q : Nat} {b' : Nat → Nat} {cells2 slots2 : Nat} (hI : LI Z0 s Bc Bm Sc Sm H locs cells slots) (hch : (List.range n).all (fun i => (subo (kdC (k0 + i))).all (fun o => decide (k0 ≤ k0 + i + o ∧ k0 + i + o < k0 + n))) = true) (hin : ∀ k, (inZ Sc k ∨ (k0 ≤ k ∧ k < k0 + n)) ↔ inZ S2 k) (hT : Two (zx Bc k0 n q b') Bm s S2 S3 H2 locs2) (hR : (Rel (S2 0)) S2 S3) (hc : cells2 + rm5 S2 44 12 4 ≤ 200) (hs : slots2 + rm5 S2 3050 7035 12609 ≤ 400000) : LI Z0 s (zx Bc k0 n q b') Bm S2 S3 H2 locs2 cells2 slots2 := by
  have hmem : ∀ k, k ∈ zL (zx Bc k0 n q b') ↔ k ∈ zL Bc ∨ (k0 ≤ k ∧ k < k0 + n) := fun k => by
    show k ∈ zL Bc ++ (List.range n).map (fun i => k0 + i) ↔ _
    rw [List.mem_append, List.mem_map]
    refine or_congr Iff.rfl ⟨fun ⟨i, hi, e⟩ => ?_, fun h => ⟨k - k0, List.mem_range.mpr (by omega), by omega⟩⟩
    have := List.mem_range.mp hi
    omega
  refine ⟨hI.1, hI.2.1, zx_C hI.2.2.1 hch, hI.2.2.2.1, fun k => ?_, fun k hk => ?_, hT, hR, hc, hs⟩
  · rw [hmem, hI.2.2.2.2.1 k]; exact hin k
  · rw [hmem] at hk
    rw [zx_out (fun q => hk (Or.inr q))]
    exact hI.2.2.2.2.2.1 k (fun q => hk (Or.inl q))
end MD
theorem one_row {S S' : pS} (h : S' 1 = S 1) (a : Int32) : F10_one S' 1 a = F10_one S 1 a := by unfold F10_one; rw [h]
theorem cth_row {S S' : pS} (h : S' 1 = S 1) (a b c : Int32) : F11_canThrow S' a b c = F11_canThrow S a b c := by unfold F11_canThrow F10_hasSpear; rw [h]

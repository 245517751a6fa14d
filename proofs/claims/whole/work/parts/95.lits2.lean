theorem lit_q : ∀ q ∈ litR, q.2.2.2 < litN ∧ litT q.2.2.2 = .string q.1 q.2.1 := by
  unfold litR
  simp only [List.forall_mem_cons]
  exact ⟨⟨by decide, rfl⟩, ⟨by decide, rfl⟩, ⟨by decide, rfl⟩, ⟨by decide, rfl⟩, ⟨by decide, rfl⟩, ⟨by decide, rfl⟩, ⟨by decide, rfl⟩, ⟨by decide, rfl⟩, ⟨by decide, rfl⟩, ⟨by decide, rfl⟩, ⟨by decide, rfl⟩, ⟨by decide, rfl⟩, ⟨by decide, rfl⟩, ⟨by decide, rfl⟩, ⟨by decide, rfl⟩, ⟨by decide, rfl⟩, ⟨by decide, rfl⟩, ⟨by decide, rfl⟩, ⟨by decide, rfl⟩, ⟨by decide, rfl⟩, ⟨by decide, rfl⟩, ⟨by decide, rfl⟩, ⟨by decide, rfl⟩, ⟨by decide, rfl⟩, ⟨by decide, rfl⟩, ⟨by decide, rfl⟩, ⟨by decide, rfl⟩, ⟨by decide, rfl⟩, ⟨by decide, rfl⟩, ⟨by decide, rfl⟩, ⟨by decide, rfl⟩, ⟨by decide, rfl⟩, ⟨by decide, rfl⟩, ⟨by decide, rfl⟩, ⟨by decide, rfl⟩, ⟨by decide, rfl⟩, ⟨by decide, rfl⟩, ⟨by decide, rfl⟩, ⟨by decide, rfl⟩, ⟨by decide, rfl⟩, ⟨by decide, rfl⟩, fun _ h => absurd h List.not_mem_nil⟩
theorem lit_len : ∀ i, i < litN → litLen.getD i 0 < 2 ^ 31 := by decide +kernel
theorem lit_ne {i j : Nat} (hi : i < litN) (hj : j < litN) (h1 : litLen.getD i 0 = litLen.getD j 0) (h2 : ∀ k, k < litLen.getD i 0 → (litByt.getD i []).getD k 0 = (litByt.getD j []).getD k 0) : i = j := by
  have hc : (List.range litN).all (fun i => (List.range litN).all (fun j => decide (i = j) || decide (litLen.getD i 0 ≠ litLen.getD j 0) || (List.range (litLen.getD i 0)).any (fun k => decide ((litByt.getD i []).getD k 0 ≠ (litByt.getD j []).getD k 0)))) = true := by decide +kernel
  have h := List.all_eq_true.mp (List.all_eq_true.mp hc i (List.mem_range.mpr hi)) j (List.mem_range.mpr hj)
  simp only [Bool.or_eq_true, decide_eq_true_eq] at h
  rcases h with (h | h) | h
  · exact h
  · exact absurd h1 h
  · obtain ⟨k, hk, h⟩ := List.any_eq_true.mp h
    exact absurd (h2 k (List.mem_range.mp hk)) (of_decide_eq_true h)
theorem lits_at {args : Array Value} {s : State} {A : Nat → Prop} (hgv : (Jvm.Cond.and given_1 narrow_1).before args s = true) (hA : ∀ a : Nat, a < s.heap.size → ¬ A a) : ∃ adK adV : Nat → Nat, vk_S litN litLen litByt adK adV A s s.heap ∧ ∀ i : Nat, i < litN → (litT i).eval args s none [] s = some (.ref (adK i)) := by
  have hc : ∀ i, i < litN → ∀ w ∈ litC i, w.before args s = true := fun i hi w hw => flat_of_before _ hgv w (List.mem_append_right _ (lit_all i hi w hw))
  have h0 : ∀ i : Nat, ∃ q : Nat × Nat, i < litN → (litT i).eval args s none [] s = some (.ref q.1) ∧ va_O "java/lang/String" q.1 A s s.heap ∧ va_OF "java/lang/String" "coder" "B" (.int 0) q.1 A s s.heap ∧ va_OF "java/lang/String" "value" "[B" (.ref q.2) q.1 A s s.heap ∧ va_T .byte q.2 (litLen.getD i 0) (fun j => .int ((litByt.getD i []).getD j 0)) A s s.heap := by
    intro i
    by_cases hi : i < litN
    · have w1 := hc i hi _ (List.mem_append_left _ List.mem_cons_self)
      have w2 := hc i hi _ (List.mem_append_left _ (List.mem_cons_of_mem _ List.mem_cons_self))
      have w3 := hc i hi _ (List.mem_append_left _ (List.mem_cons_of_mem _ (List.mem_cons_of_mem _ List.mem_cons_self)))
      have w4 := hc i hi _ (List.mem_append_left _ (List.mem_cons_of_mem _ (List.mem_cons_of_mem _ (List.mem_cons_of_mem _ List.mem_cons_self))))
      have w5 : ∀ j, j < litLen.getD i 0 → (Cond.eq (.elem (litV i) (.int (Int32.ofNat j))) (.int ((litByt.getD i []).getD j 0))).before args s = true := fun j hj => hc i hi _ (List.mem_append_right _ (List.mem_map.mpr ⟨j, List.mem_range.mpr hj, rfl⟩))
      obtain ⟨a, c, cA, kA, q1, q2, q3, q4, q5, q6, -⟩ := Cond.exactly_spec (args := args) (first := s) (o := none) (s := s) (idx := []) (t := litT i) (cls := "java/lang/String") w1
      obtain ⟨t, ht, hT⟩ := va_Tof (f := fun j => .int ((litByt.getD i []).getD j 0)) (A := A) (lit_len i hi) w3 (va_eqt w4) (fun j hj => va_eqt (w5 j hj)) hA
      exact ⟨(a, t), fun _ => ⟨q1, ⟨cA, q3, q5, by rw [q6]; exact q2, hA a (Array.getElem?_eq_some_iff.mp q3).1⟩, vk_OFof q1 (va_eqt w2) hA, vk_OFof q1 ht hA, hT⟩⟩
    · exact ⟨(0, 0), fun h => absurd h hi⟩
  obtain ⟨ad, had⟩ := Classical.axiomOfChoice h0
  refine ⟨fun i => (ad i).1, fun i => (ad i).2, ⟨fun i hi => (had i hi).2, fun i j hi hj e => ?_⟩, fun i hi => (had i hi).1⟩
  obtain ⟨-, -, -, ⟨cf, k, fi, f, cell, h1, h2, h3, h4, h5, h6⟩, ⟨ce, t1, t2, t3, t4, t5, t6, t7⟩⟩ := had i hi
  obtain ⟨-, -, -, ⟨cf', k', fi', f', cell', h1', h2', h3', h4', h5', h6'⟩, ⟨ce', t1', t2', t3', t4', t5', t6', t7'⟩⟩ := had j hj
  have e : (ad i).1 = (ad j).1 := e
  rw [h1] at h1'
  cases h1'
  rw [e, h3'] at h3
  cases h3
  rw [h5'] at h5
  have e2 : (ad j).2 = (ad i).2 := Value.ref.inj (Option.some.inj h5)
  rw [e2, t1] at t1'
  cases t1'
  have eN : litLen.getD i 0 = litLen.getD j 0 := (nI_eq (lit_len i hi) (lit_len j hj)).mp (t5.symm.trans t5')
  refine lit_ne hi hj eN (fun k hk => ?_)
  have a1 := t6 k hk
  rw [t6' k (by rw [← eN]; exact hk)] at a1
  exact (Value.int.inj (Option.some.inj a1)).symm
theorem ls_1 : Cond.laysStatic "java/lang/String" "COMPACT_STRINGS" "Z" ∈ lw_tbl := mT3 _ (List.mem_of_getElem? (i := 12) (by decide +kernel))
theorem ls_2 : Cond.laysStatic "jdk/internal/util/Preconditions" "SIOOBE_FORMATTER" "Ljava/util/function/BiFunction;" ∈ lw_tbl := mT3 _ (List.mem_of_getElem? (i := 28) (by decide +kernel))
theorem ls_3 : Cond.initialized "java/lang/String" ∈ lw_tbl := mT1 _ (List.mem_of_getElem? (i := 12) (by decide +kernel))
theorem ls_4 : Cond.initialized "jdk/internal/util/Preconditions" ∈ lw_tbl := mT1 _ (List.mem_of_getElem? (i := 14) (by decide +kernel))
theorem ls_5 : Cond.eq (.static "java/lang/String" "COMPACT_STRINGS" "Z") (.int 1) ∈ flatC narrow_1 := List.mem_of_getElem? (i := 2) (by decide +kernel)
theorem ls_6 : Cond.isRef (.static "jdk/internal/util/Preconditions" "SIOOBE_FORMATTER" "Ljava/util/function/BiFunction;") ∈ flatC narrow_1 := List.mem_of_getElem? (i := 3) (by decide +kernel)
theorem ro_all {s : State} {b : Addr} (hts : ∀ w ∈ lw_tbl, w.before #[Value.ref b] s = true) (hgv : (Jvm.Cond.and given_1 narrow_1).before #[Value.ref b] s = true) : ∃ adK adV : Nat → Nat, ∀ (D : va_G) (d : Nat → ClassId), RO (mkZ D d kdC adK adV) s s.heap s.heap.size := by
  have hA : ∀ a : Nat, a < s.heap.size → ¬ A0 s a := fun a h => Nat.not_le.mpr h
  obtain ⟨adK, adV, hS, hE⟩ := lits_at (A := A0 s) hgv hA
  have hn : ∀ w ∈ flatC narrow_1, w.before #[Value.ref b] s = true := fun w hw => flat_of_before _ hgv w (List.mem_append_right _ hw)
  refine ⟨adK, adV, fun D d => ?_⟩
  unfold RO
  rw [mkZ_A]
  refine ⟨hS, va_Zof (hts _ ls_1) (hts _ ls_3) (va_eqi (hn _ ls_5)) hA, ?_, fun q hq => ?_⟩
  · obtain ⟨v, hv, hr⟩ := Cond.isRef_spec (args := #[Value.ref b]) (first := s) (o := none) (s := s) (idx := []) (hn _ ls_6)
    cases v with
    | null => exact ⟨none, va_Zof (hts _ ls_2) (hts _ ls_4) hv hA⟩
    | ref a => exact ⟨some a, va_Zof (hts _ ls_2) (hts _ ls_4) hv hA⟩
    | _ => cases hr
  · obtain ⟨q1, q2⟩ := lit_q q hq
    refine vk_R.of (hts _ (sr_all q hq)) ?_
    rw [← q2]
    exact hE _ q1

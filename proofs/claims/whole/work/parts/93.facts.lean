/-! what the tables say at the law's entry -/
section FA
variable {s : State} {b : Addr}
theorem kn_all (hts : ∀ w ∈ wsG, w.before #[Value.ref b] s = true) : ∃ D : va_G, ∀ (k : Nat) (q : vw_C), vwCl[k]? = some q → u_Kn s q.1 q.2.1 q.2.2 (D.1 k) (D.2 k) := by
  have one : ∀ {ci : Nat} {C : String} {T : u_T} {N n : Nat} {ty : Nat → FieldType}, CK ci C T N ty → Cond.instantiable C n ∈ wsG → ∃ r : ClassId × (Nat → Nat), ∀ q, vwCl[ci]? = some q → u_Kn s q.1 q.2.1 q.2.2 r.1 r.2 := by
    intro ci C T N n ty hc hi
    obtain ⟨c, i, h⟩ := u_known hts hc.2.1 (hts _ hi)
    refine ⟨(c, i), fun q hq => ?_⟩
    rw [hc.1] at hq
    cases hq
    exact h
  have h : ∀ k : Nat, ∃ r : ClassId × (Nat → Nat), ∀ q, vwCl[k]? = some q → u_Kn s q.1 q.2.1 q.2.2 r.1 r.2 := by
    intro k
    match k with
    | 0 => exact one KX0 ia_X0
    | 1 => exact one KX1 ia_X1
    | 2 => exact one KX2 ia_X2
    | 3 => exact one KX3 ia_X3
    | 4 => exact one KX4 ia_X4
    | 5 => exact one KX5 ia_X5
    | 6 => exact one KX6 ia_X6
    | 7 => exact one KX7 ia_X7
    | 8 => exact one KX8 ia_X8
    | 9 => exact one KX9 ia_X9
    | 10 => exact one KX10 ia_X10
    | 11 => exact one KX11 ia_X11
    | 12 => exact one KX12 ia_X12
    | k + 13 => exact ⟨(0, fun _ => 0), fun q hq => by simp [vwCl] at hq⟩
  obtain ⟨f, hf⟩ := Classical.axiomOfChoice h
  exact ⟨(fun k => (f k).1, fun k => (f k).2), hf⟩
theorem ar_p {ty : FieldType} (h : (Cond.arrayClass ty).before #[Value.ref b] s = true) (hra : ∀ cA, va_RA s cA ty = (s.vm.findClass ("[" ++ ty.toString) = some cA)) : ∃ cA : ClassId, ArrOfT s cA ty ∧ va_RA s cA ty := by
  obtain ⟨c, k, comp, h1, h2, h3⟩ := Cond.arrayClass_spec (args := #[Value.ref b]) (first := s) (o := none) (s := s) (idx := []) h
  exact ⟨c, fun N z => ⟨(fun k h => by cases h), k, h2, comp, h3⟩, by rw [hra]; exact h1⟩
theorem ar_o (h : va_AO RX8 s) : ∃ cA : ClassId, ArrOfT s cA (.object RX8) ∧ va_RA s cA (.object RX8) := by
  obtain ⟨comp, c, k, h1, -, h2, h3, h4⟩ := Cond.arrayOver_spec (args := #[]) (first := s) (o := none) (s := s) (idx := []) h
  exact ⟨c, fun N z => ⟨(fun k h => by cases h), k, h2, comp, h3⟩, k, comp, h2, h3, h1, h4⟩
theorem ar_g (h : AOI s) : ∃ cA : ClassId, ArrOfT s cA (.array .int) ∧ va_RA s cA (.array .int) := by
  obtain ⟨comp, c, k, h1, -, h2, h3, h4⟩ := AOI_spec h
  exact ⟨c, fun N z => ⟨(fun k h => by cases h), k, h2, comp, h3⟩, h4⟩
theorem ar_all (hts : ∀ w ∈ wsG, w.before #[Value.ref b] s = true) (hAO : va_AO RX8 s) (hAI : AOI s) : ∃ d : Nat → ClassId, ∀ (k : Nat) (q : ClassId × FieldType), (tysd d)[k]? = some q → ArrOfT s q.1 q.2 ∧ va_RA s q.1 q.2 := by
  obtain ⟨c0, h0⟩ := ar_p (hts _ ac_int) (fun _ => rfl)
  obtain ⟨c1, h1⟩ := ar_p (hts _ ac_byte) (fun _ => rfl)
  obtain ⟨c2, h2⟩ := ar_p (hts _ ac_boolean) (fun _ => rfl)
  obtain ⟨c3, h3⟩ := ar_p (hts _ ac_long) (fun _ => rfl)
  obtain ⟨c4, h4⟩ := ar_o hAO
  obtain ⟨c5, h5⟩ := ar_g hAI
  refine ⟨fun k => match k with | 0 => c0 | 1 => c1 | 2 => c2 | 3 => c3 | 4 => c4 | _ => c5, fun k q hq => ?_⟩
  match k, hq with
  | 0, hq => cases hq; exact h0
  | 1, hq => cases hq; exact h1
  | 2, hq => cases hq; exact h2
  | 3, hq => cases hq; exact h3
  | 4, hq => cases hq; exact h4
  | 5, hq => cases hq; exact h5
  | k + 6, hq => simp at hq
theorem ao_w : Cond.arrayOver (.object RX8) ∈ lw_tbl := mT1 _ (List.mem_of_getElem? (i := 36) (by decide +kernel))
theorem ai_w : Cond.arrayOver (.array .int) ∈ lw_tbl := mT2 _ (List.mem_of_getElem? (i := 98) (by decide +kernel))
theorem nw_0 : Cond.methodLinkNest RX0 46 yX11_hold RX11 ∈ lw_tbl := mT3 _ (List.mem_of_getElem? (i := 227) (by decide +kernel))
theorem nw_1 : Cond.methodLinkNest RX2 55 yX11_hold RX11 ∈ lw_tbl := mT4 _ (List.mem_of_getElem? (i := 20) (by decide +kernel))
theorem nw_2 : Cond.methodLinkNest RX6 77 yX11_within RX11 ∈ lw_tbl := mT2 _ (List.mem_of_getElem? (i := 231) (by decide +kernel))
theorem nw_3 : Cond.methodLinkNest RX7 64 yX11_hold RX11 ∈ lw_tbl := mT4 _ (List.mem_of_getElem? (i := 209) (by decide +kernel))
theorem nw_4 : Cond.methodLinkNest RX8 43 yX11_within RX11 ∈ lw_tbl := mT4 _ (List.mem_of_getElem? (i := 68) (by decide +kernel))
theorem nw_5 : Cond.methodLinkNest RX9 44 yX11_hold RX11 ∈ lw_tbl := mT5 _ (List.mem_of_getElem? (i := 141) (by decide +kernel))
theorem nw_6 : Cond.methodLinkNest RX10 89 yX11_within RX11 ∈ lw_tbl := mT2 _ (List.mem_of_getElem? (i := 182) (by decide +kernel))
theorem nn_all (hts : ∀ w ∈ lw_tbl, w.before #[Value.ref b] s = true) : NN s := by
  unfold NN nestL
  simp only [List.forall_mem_cons]
  exact ⟨va_Nw.of rfl (hts _ nw_0), va_Nw.of rfl (hts _ nw_1), va_Nw.of rfl (hts _ nw_2), va_Nw.of rfl (hts _ nw_3), va_Nw.of rfl (hts _ nw_4), va_Nw.of rfl (hts _ nw_5), va_Nw.of rfl (hts _ nw_6), fun _ h => absurd h List.not_mem_nil⟩
end FA

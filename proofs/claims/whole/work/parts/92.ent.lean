def mkZ (D : va_G) (d : Nat → ClassId) (k : pK) (ls lv : Nat → Nat) : pZ := (D, d, k, fun _ => 0, [], [], ls, lv)
theorem mkZ_A {D : va_G} {d : Nat → ClassId} {k : pK} {ls lv : Nat → Nat} {sz : Nat} : pA (mkZ D d k ls lv) sz = fun q => sz ≤ q := by
  funext q
  refine propext ⟨fun h => ?_, fun h => Or.inr (Or.inr h)⟩
  rcases h with ⟨k, hk, -⟩ | ⟨i, e, h⟩ | h
  · exact absurd hk List.not_mem_nil
  · exact absurd (show (([] : va_W)[i]?) = some (q, e) from h) (by simp)
  · exact h
section EN
variable {p : Program} {l : Launch} {e : Env} {s : State} {m : MethodId} {below : List Frame} {meth : Method} {c : Code} {b L : Nat} {xs : Nat → Int32} {D : va_G} {d : Nat → ClassId} {zs0 zv0 : Nat → Nat}
set_option maxRecDepth 100000 in
set_option maxHeartbeats 4000000 in
theorem law_ent (hL : L ≤ 4096) (C0 : lw_At p s m meth c b L xs) (G : Cx p s m #[Value.ref b] c RL cL_law 4 (mkZ D d kdC zs0 zv0)) (hAO : va_AO RX8 s) (hAI : AOI s) {ls : Array Slot} (hl : lv_has ls 4 [(0, .ref b)]) : W p l e room_1 s m #[Value.ref b] below meth c s.heap [] 0 0 (lw_Z below #[Value.ref b] s) (F0 m 0 ls []) := by
  obtain ⟨hx, hb, hr, hml, hown, hts, hX, hbl, hlocks, hgv⟩ := id C0
  have hA : pA (mkZ D d kdC zs0 zv0) s.heap.size = A0 s := mkZ_A
  have G1 := Cx_Cn G hAO hAI
  have hAm : ∀ a, s.heap.size ≤ a → A0 s a := fun _ h => h
  have hw : Hn D s (A0 s) [] s.heap [] := ⟨fun k q h => by simp at h, ⟨fun i j p q h => by simp at h, fun k q h => by simp at h⟩, va_S.rf⟩
  refine cN G1 hw hAm KX11 kl_L_7 ia_X11 in_X11 (fs := [.null, .null, .null, .null, .null, .null, .null, .null]) (by decide +kernel) (Nat.le_of_ble_eq_true rfl) (Nat.le_of_ble_eq_true rfl) dL_law_0 (fun q H hw => ?_)
  refine lv_dup hx hb dL_law_3 rfl ?_
  refine cK (rest := [.ref q]) G1 hw hAm (nX11 l D d) ml_L_9 im_X11_init in_X11 co_X11_init rfl ⟨nh_X11.1, nh_X11.2, pd_0⟩ ⟨Nat.le_of_ble_eq_true rfl, Nat.le_of_ble_eq_true rfl⟩ hl.1 (Nat.le_of_ble_eq_true rfl) ⟨Nat.le_of_ble_eq_true rfl, Nat.le_of_ble_eq_true rfl⟩ dL_law_4 (fun b1 H locs hw => ?_)
  have hCC : CC (mkZ D d kdC zs0 zv0) := ⟨rfl, fun k h => absurd h List.not_mem_nil⟩
  have hw : Hn (zD (mkZ D d kdC zs0 zv0)) s (pA (mkZ D d kdC zs0 zv0) s.heap.size) (pW (mkZ D d kdC zs0 zv0) (fun _ _ => 0) ++ bPF d q b1) H locs := by rw [hA]; exact hw
  obtain ⟨hw, hpA⟩ := zx_Wd (S2 := Sc0) (q := q) (b := b1) hCC (fun k h => absurd h List.not_mem_nil) (fun k h => absurd h List.not_mem_nil) (fun k h => absurd h List.not_mem_nil) (wPF (q := q) (b := b1) hCC.1 (fun i hi => sx_in hi)) hw
  refine lv_astore_n (lv' := [(1, .ref q), (0, .ref b)]) hx hb dL_law_7 rfl hl (by decide) rfl (fun ls hl => ?_)
  generalize eB : zx (mkZ D d kdC zs0 zv0) 0 75 q b1 = Bc at hw hpA
  have hwn : Hn D s (A0 s) (cel Bc Sc0) H locs := by
    have h := Wd_Hn hw
    rw [hpA, hA] at h
    have e1 : pW Bc Sc0 = cel Bc Sc0 := by
      subst eB
      exact List.append_nil _
    rw [e1] at h
    subst eB
    exact h
  refine cN G1 hwn hAm KX12 kl_L_10 ia_X12 in_X12 (fs := [.null, .null, .null, .int 0, .int 0, .null, .null, .null, .null, .null, .null, .null, .int 0, .int 0, .int 0, .int 0, .int 0, .int 0, .int 0, .int 0, .int 0, .int 0, .int 0, .int 0, .int 0, .int 0, .int 0, .int 0, .int 0, .int 0, .int 0, .int 0, .int 0, .int 0, .int 0, .int 0, .int 0, .int 0, .int 0, .int 0, .null, .null, .null, .null, .null, .null]) (by decide +kernel) (Nat.le_of_ble_eq_true rfl) (Nat.le_of_ble_eq_true rfl) dL_law_8 (fun q2 H hw2 => ?_)
  refine lv_dup hx hb dL_law_11 rfl ?_
  refine cK (rest := [.ref q2]) G1 hw2 hAm (nX12 l D d) ml_L_12 im_X12_init in_X12 co_X12_init rfl ⟨nh_X12.1, nh_X12.2, pd_0⟩ ⟨Nat.le_of_ble_eq_true rfl, Nat.le_of_ble_eq_true rfl⟩ hl.1 (Nat.le_of_ble_eq_true rfl) ⟨Nat.le_of_ble_eq_true rfl, Nat.le_of_ble_eq_true rfl⟩ dL_law_12 (fun b2 H locs hw3 => ?_)
  refine lv_astore_n (lv' := [(2, .ref q2), (1, .ref q), (0, .ref b)]) hx hb dL_law_15 rfl hl (by decide) rfl (fun ls hl => ?_)
  refine lv_iconst (v := nI 0) hx hb dL_law_16 (by decide) ?_
  refine lv_istore_n (lv' := [(3, .int (nI 0)), (2, .ref q2), (1, .ref q), (0, .ref b)]) hx hb dL_law_17 rfl hl (by decide) rfl (fun ls hl => ?_)
  generalize eM : zx (mkZ D d kdM zs0 zv0) 0 17 q2 b2 = Bm
  have hE : eW (cel Bc Sc0 ++ bModel d q2 b2) (cel Bc Sc0 ++ cel Bm Sm0) := by
    refine eW_app (eW_refl _) ?_
    have h := wModel (Z := mkZ D d kdM zs0 zv0) (S := Sm0) (q := q2) (b := b2) rfl (fun i hi => sx_in hi)
    subst eM
    unfold cel
    show eW _ ((([] : List Nat) ++ (List.range 17).map (fun i => 0 + i)).map _)
    rw [List.nil_append, List.map_map]
    exact h
  have hT : Two Bc Bm s Sc0 Sm0 H locs := by
    have h1 := hE.P hw3.1
    have h2 := hE.D hw3.2.1
    refine ⟨?_, h2, hw3.2.2⟩
    subst eB
    exact h1
  have e05 : Sc0 0 5 = 0 := Sc0_z (by decide) (by decide)
  have e06 : Sc0 0 6 = 0 := Sc0_z (by decide) (by decide)
  have e07 : Sc0 0 7 = 0 := Sc0_z (by decide) (by decide)
  have hmem : ∀ k, k ∈ zL Bc ↔ k < 75 := fun k => by
    subst eB
    show k ∈ ([] : List Nat) ++ (List.range 75).map (fun i => 0 + i) ↔ _
    simp
  refine law_loop hL C0 G hA hAO hAI (L + 1) 0 (by omega) (by omega) Bc Bm Sc0 Sm0 H locs _ _ ls ⟨?_, ?_, ?_, ?_, fun k => ?_, fun k hk => ?_, hT, Rel_0, ?_, ?_⟩ ?_
  · subst eB; exact ⟨rfl, rfl, rfl, rfl⟩
  · subst eM; exact ⟨rfl, rfl, rfl, rfl⟩
  · subst eB; exact zx_C hCC (by decide +kernel)
  · subst eM
    refine ⟨rfl, fun k hk => ?_⟩
    show k ∈ ([] : List Nat) ++ (List.range 17).map (fun i => 0 + i)
    simpa using hk
  · rw [hmem]
    unfold inZ
    rw [e05, e06, e07]
    constructor
    · exact fun h => Or.inl h
    · rintro (h | h | h | h)
      · exact h
      · exact absurd h.2.2 (by decide)
      · exact absurd h.2.2 (by decide)
      · exact absurd h.2.2 (by decide)
  · rw [hmem] at hk
    subst eB
    rw [zx_out (by omega)]
    rfl
  · unfold rm5
    rw [e05, e06, e07]
    decide
  · unfold rm5
    rw [e05, e06, e07]
    decide
  · subst eB
    subst eM
    exact lv_sub hl [3, 2, 1, 0] rfl
end EN

theorem L8_gt {i L : Nat} (hi : i ≤ 8192) (hL : L ≤ 4096) : nI L - 8 < nI i ↔ L < i + 8 := by
  have e : (nI L - 8).toInt = (L : Int) - 8 := by
    rw [Int32.toInt_sub, nI_toInt (by omega), show (8 : Int32).toInt = 8 from rfl]
    exact Int.bmod_eq_of_le (by omega) (by omega)
  rw [Int32.lt_iff_toInt_lt, e, nI_toInt (by omega)]
  omega
section LO
variable {p : Program} {l : Launch} {e : Env} {s : State} {m : MethodId} {below : List Frame} {meth : Method} {c : Code} {b L : Nat} {xs : Nat → Int32} {Z0 : pZ}
set_option maxRecDepth 100000 in
set_option maxHeartbeats 4000000 in
theorem law_loop (hL : L ≤ 4096) (C0 : lw_At p s m meth c b L xs) (G : Cx p s m #[Value.ref b] c RL cL_law 4 Z0) (hA : pA Z0 s.heap.size = A0 s) (hAO : va_AO RX8 s) (hAI : AOI s) : ∀ (n i : Nat), L < i + n → i ≤ L + 8 → ∀ (Bc Bm : pZ) (Sc Sm : pS) (H : Heap) (locs : List Loc) (cells slots : Nat) (ls : Array Slot), LI Z0 s Bc Bm Sc Sm H locs cells slots → lv_has ls 4 [(0, .ref b), (1, .ref (za Bc 0)), (2, .ref (za Bm 0)), (3, .int (nI i))] → W p l e room_1 s m #[Value.ref b] below meth c H locs cells slots (lw_Z below #[Value.ref b] s) (F0 m 18 ls []) := by
  obtain ⟨hx, hb, hr, hml, hown, hts, hX, hbl, hlocks, hgv⟩ := id C0
  intro n
  induction n with
  | zero =>
    intro i h1 h2 Bc Bm Sc Sm H locs cells slots ls hI hl
    have hT := hI.two
    refine lv_iload_n hx hb dL_law_18 rfl (lv_at hl 3 rfl) ?_
    refine lv_aload_n hx hb dL_law_19 rfl (lv_at hl 0 rfl) ?_
    refine va_slen hx hb hX hbl (Nat.not_le.mpr hbl) hT.2.2 dL_law_20 ?_
    refine lv_bipush hx hb dL_law_21 kb_8 ?_
    refine lv_isub hx hb dL_law_23 ?_
    refine lv_icmp_gt (tgt := 1677) hx hb dL_law_24 (by decide) (fun _ => ?_) (fun q => absurd ((L8_gt (by omega) hL).mpr (by omega)) q)
    refine lv_iconst hx hb dL_law_1677 ki_1 ?_
    refine va_forget (fun q hq => hT.2.2.2.2 q hq) ?_
    refine W.widen (k := 85930) (n := 8844460) hI.room.1 hI.room.2 ?_
    exact lw_ret hx hb hr hlocks dL_law_1678
  | succ n ih =>
    intro i h1 h2 Bc Bm Sc Sm H locs cells slots ls hI hl
    have hT := hI.two
    refine lv_iload_n hx hb dL_law_18 rfl (lv_at hl 3 rfl) ?_
    refine lv_aload_n hx hb dL_law_19 rfl (lv_at hl 0 rfl) ?_
    refine va_slen hx hb hX hbl (Nat.not_le.mpr hbl) hT.2.2 dL_law_20 ?_
    refine lv_bipush hx hb dL_law_21 kb_8 ?_
    refine lv_isub hx hb dL_law_23 ?_
    refine lv_icmp_gt (tgt := 1677) hx hb dL_law_24 (by decide) (fun _ => ?_) (fun q => ?_)
    · refine lv_iconst hx hb dL_law_1677 ki_1 ?_
      refine va_forget (fun q hq => hT.2.2.2.2 q hq) ?_
      refine W.widen (k := 85930) (n := 8844460) hI.room.1 hI.room.2 ?_
      exact lw_ret hx hb hr hlocks dL_law_1678
    · have hi : i + 8 ≤ L := by
        rcases Nat.lt_or_ge L (i + 8) with h | h
        · exact absurd ((L8_gt (by omega) hL).mpr h) q
        · exact h
      refine lv_aload_n hx hb dL_law_27 rfl (lv_at hl 0 rfl) ?_
      refine lv_iload_n hx hb dL_law_28 rfl (lv_at hl 3 rfl) ?_
      refine va_sld hx hb hX hbl (Nat.not_le.mpr hbl) hT.2.2 (vp_in_nI (by omega) (by omega)) dL_law_29 ?_
      refine lv_bipush (v := 63) hx hb dL_law_30 (by decide) ?_
      refine lv_iand hx hb dL_law_32 ?_
      refine lc_all hAO hAI G hA hX hbl hi hL hI hl (fun Bc Bm Sc Sm H locs cells slots ls hI hl => ?_) _
      refine lv_iinc (v := nI (i + 8)) (lv' := [(3, .int (nI (i + 8))), (0, .ref b), (1, .ref (za Bc 0)), (2, .ref (za Bm 0))]) hx hb dL_law_1671 hl (k := 3) rfl (nI_add i 8) (by decide) rfl (fun ls hl => ?_)
      refine lv_goto (tgt := 18) hx hb dL_law_1674 (by decide) ?_
      exact ih (i + 8) (by omega) (by omega) Bc Bm Sc Sm H locs cells slots ls hI (lv_sub hl [1, 2, 3, 0] rfl)
end LO

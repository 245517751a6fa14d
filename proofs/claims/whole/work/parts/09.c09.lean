noncomputable def FJ7_fill_d0a16 (S : pS) (k0 : Nat) (n0 : Nat) (a1 : Int64) : Option (pS) :=
  bL (nI n0) fun l4_1 =>
  bL (fun (S_2 : pS) =>
    some S_2) fun g22_6 =>
  bL (u2 fun (l3_3 : Int32) (S_4 : pS) =>
    if l4_1 ≤ l3_3 then
      some (.inr S_4)
    else
      bG (vp_in l3_3 n0) <|
      bL (sU (sU S_4 k0 (2 * l3_3.toNatClampNeg) (plo a1)) k0 (2 * l3_3.toNatClampNeg + 1) (phi a1)) fun S_7 =>
      bL (l3_3 + 1) fun l3_8 =>
      some (.inl (l3_8, S_7))) fun b6 =>
  bB (bP b6 ((0 : Int32), S)) (u1 g22_6)
set_option maxRecDepth 100000 in
set_option maxHeartbeats 4000000 in
theorem wJ7_fill_d0a16 {l : Launch} {Z : pZ}  (hZ : CC Z) (S : pS) (k0 : Nat) (n0 : Nat) (a1 : Int64) (S2 : pS) (h0 : isA Z (.inl (3, n0)) k0) (hf : FJ7_fill_d0a16 S k0 n0 a1 = some S2) : CV l Z yJ7_fill_d0a16 cJ7_fill_d0a16 5 3 60 [.ref (za Z k0), .long a1] S S2 := by
  unfold FJ7_fill_d0a16 at hf
  refine eV (own := RJ7) (by decide) rfl (Nat.le_of_ble_eq_true rfl) (fun p e s m args below meth c Q ls G hl hw hret => ?_)
  obtain ⟨hx, hb, hml, hown, hts⟩ := G.1
  have hl : lv_has ls 5 [(0, .ref (za Z k0)), (1, .long a1)] := hl
  refine lv_iconst hx hb dJ7_fill_d0a16_0 ki_0 ?_
  refine lv_istore_n (lv' := [(3, .int 0), (0, .ref (za Z k0)), (1, .long a1)]) hx hb dJ7_fill_d0a16_1 rfl hl (by decide) rfl (fun ls hl => ?_)
  refine lv_aload_n hx hb dJ7_fill_d0a16_2 rfl (lv_at hl 1 rfl) ?_
  refine aL G hw (t := 3) h0 rfl (v := nI n0) rfl dJ7_fill_d0a16_3 ?_
  obtain ⟨l4_1, el4_1, hf⟩ := bL_e hf
  refine top_i el4_1 ?_
  refine lv_istore (lv' := [(4, .int l4_1), (3, .int 0), (0, .ref (za Z k0)), (1, .long a1)]) hx hb dJ7_fill_d0a16_4 hl (by decide) rfl (fun ls hl => ?_)
  obtain ⟨g22_6, ej, hf⟩ := bL_e hf
  have R22_6 : ∀ (S_2 : pS) (H : Heap) (locs : List Loc) (ls : Array Slot), Wd Z s S_2 H locs → lv_has ls 5 [] → g22_6 S_2 = some S2 → W p l e { frames := 3, cells := 0, slots := 0, locals := 60 } s m args below meth c H locs 0 0 Q (F0 m 22 ls []) := by
    intro S_2 H locs ls hw hl hf
    have hf := (congrFun ej S_2).symm.trans hf
    exact hret _ _ _ _ dJ7_fill_d0a16_22 (by rw [← (Option.some.inj hf)]; exact hw)
  clear ej
  obtain ⟨b6, eb, hf⟩ := bL_e hf
  have RL6 : ∀ (n : Nat) z, (u1 g22_6) z = some S2 → ∀ (l3_3 : Int32) (S_4 : pS) (H : Heap) (locs : List Loc) (ls : Array Slot), Wd Z s S_4 H locs → lv_has ls 5 [(0, .ref (za Z k0)), (1, .long a1), (3, .int l3_3), (4, .int l4_1)] → bPn b6 n (l3_3, S_4) = some z → W p l e { frames := 3, cells := 0, slots := 0, locals := 60 } s m args below meth c H locs 0 0 Q (F0 m 6 ls []) := by
    intro n
    induction n with
    | zero =>
      intro z hg l3_3 S_4 H locs ls hw hl hz
      exact bPn_0 hz
    | succ n ih =>
      intro z hg l3_3 S_4 H locs ls hw hl hz
      obtain ⟨q_5, hf, hz⟩ := bPn_e hz
      have hf := u2_e ((congrFun eb _).symm.trans hf)
      refine lv_iload_n hx hb dJ7_fill_d0a16_6 rfl (lv_at hl 2 rfl) ?_
      refine lv_iload hx hb dJ7_fill_d0a16_7 (lv_at hl 3 rfl) ?_
      refine lv_icmp_ge (tgt := 22) hx hb dJ7_fill_d0a16_9 (by decide) (fun c_9 => ?_) (fun c_9 => ?_)
      · have hf := (if_pos c_9).symm.trans hf
        obtain rfl := Option.some.inj hf
        obtain rfl := Option.some.inj (hz : some _ = some _)
        exact R22_6 _ _ _ _ hw (lv_sub hl [] rfl) hg
      · have hf := (if_neg c_9).symm.trans hf
        refine lv_aload_n hx hb dJ7_fill_d0a16_12 rfl (lv_at hl 0 rfl) ?_
        refine lv_iload_n hx hb dJ7_fill_d0a16_13 rfl (lv_at hl 2 rfl) ?_
        refine lv_lload_n hx hb dJ7_fill_d0a16_14 rfl (lv_at hl 1 rfl) ?_
        obtain ⟨hg_6, hf⟩ := bG_e hf
        obtain ⟨S_7, eS_7, hf⟩ := bL_e hf
        refine sJ G hw h0 hg_6 (j := l3_3.toNatClampNeg) rfl eS_7 dJ7_fill_d0a16_15 (fun H locs hw => ?_)
        obtain ⟨l3_8, el3_8, hf⟩ := bL_e hf
        refine lv_iinc (v := l3_8) (lv' := [(3, .int l3_8), (0, .ref (za Z k0)), (1, .long a1), (4, .int l4_1)]) hx hb dJ7_fill_d0a16_16 hl (k := 2) rfl (by rw [el3_8]; rfl) (by decide) rfl (fun ls hl => ?_)
        refine lv_goto (tgt := 6) hx hb dJ7_fill_d0a16_19 (by decide) ?_
        obtain rfl := Option.some.inj hf
        exact ih _ hg _ _ _ _ _ hw (lv_sub hl [1, 2, 0, 3] rfl) hz
  clear eb
  obtain ⟨z, hz, hf⟩ := bB_e hf
  obtain ⟨n, hz⟩ := bP_e hz
  exact RL6 n z hf _ _ _ _ _ hw (lv_sub hl [2, 3, 1, 0] rfl) hz
noncomputable def F9_begin (S : pS) (k0 : Nat) (a1 : Int32) (a2 : Int32) : Option (pS) :=
  bO (pmu (S k0 2)) none fun k_1 =>
  bG (k_1 = 132 ∨ k_1 = 133) <|
  bB (FJ7_fill_d0a16 S k_1 6300 0) fun S_2 =>
  bO (pmu (S_2 k0 2)) none fun k_3 =>
  bG (k_3 = 132 ∨ k_3 = 133) <|
  bB (F9_put S_2 k_3 6300 a1 a2 15) fun S_4 =>
  some S_4
set_option maxRecDepth 100000 in
set_option maxHeartbeats 4000000 in
theorem wX9_begin {l : Launch} {Z : pZ}  (hZ : CC Z) (S : pS) (k0 : Nat) (a1 : Int32) (a2 : Int32) (S2 : pS) (h0 : isA Z K_Training k0) (h132 : isA Z K_J6300 132) (h133 : isA Z K_J6300 133) (hf : F9_begin S k0 a1 a2 = some S2) : CV l Z yX9_begin cX9_begin 3 4 84 [.ref (za Z k0), .int a1, .int a2] S S2 := by
  unfold F9_begin at hf
  refine eV (own := RX9) (by decide) rfl (Nat.le_of_ble_eq_true rfl) (fun p e s m args below meth c Q ls G hl hw hret => ?_)
  obtain ⟨hx, hb, hml, hown, hts⟩ := G.1
  have hl : lv_has ls 3 [(0, .ref (za Z k0)), (1, .int a1), (2, .int a2)] := hl
  refine lv_aload_n hx hb dX9_begin_0 rfl (lv_at hl 0 rfl) ?_
  obtain ⟨k_1, ek_1, hf⟩ := bO_ne hf
  obtain ⟨hg1, hf⟩ := bG_e hf
  have hk_1 := tr2 h132 h133 hg1
  refine gMs G hw h0 KX9 2 (by decide) rfl ek_1 fl_X9_11 dX9_begin_1 ?_
  refine lv_lconst (v := 0) hx hb dX9_begin_4 (by decide) ?_
  obtain ⟨S_2, hS_2, hf⟩ := bB_e hf
  refine kTv (rest := []) G hw (wJ7_fill_d0a16 hZ S k_1 6300 0 S_2 hk_1 hS_2) cw_X9_22 ⟨Nat.le_of_ble_eq_true rfl, Nat.le_of_ble_eq_true rfl⟩ rfl hl.1 rfl (Nat.le_of_ble_eq_true rfl) ⟨Nat.le_refl _, Nat.le_refl _⟩ dX9_begin_5 (fun H locs hw => ?_)
  refine lv_aload_n hx hb dX9_begin_8 rfl (lv_at hl 0 rfl) ?_
  obtain ⟨k_3, ek_3, hf⟩ := bO_ne hf
  obtain ⟨hg1, hf⟩ := bG_e hf
  have hk_3 := tr2 h132 h133 hg1
  refine gMs G hw h0 KX9 2 (by decide) rfl ek_3 fl_X9_11 dX9_begin_9 ?_
  refine lv_iload_n hx hb dX9_begin_12 rfl (lv_at hl 1 rfl) ?_
  refine lv_iload_n hx hb dX9_begin_13 rfl (lv_at hl 2 rfl) ?_
  refine lv_bipush hx hb dX9_begin_14 kb_15 ?_
  obtain ⟨S_4, hS_4, hf⟩ := bB_e hf
  refine kSv (rest := []) G hw (wX9_put hZ S_2 k_3 6300 a1 a2 15 S_4 hk_3 hS_4) cw_X9_28 ⟨Nat.le_of_ble_eq_true rfl, Nat.le_of_ble_eq_true rfl⟩ rfl hl.1 rfl (Nat.le_of_ble_eq_true rfl) ⟨Nat.le_refl _, Nat.le_refl _⟩ dX9_begin_16 (fun H locs hw => ?_)
  exact hret _ _ _ _ dX9_begin_19 (by rw [← (Option.some.inj hf)]; exact hw)
noncomputable def F9_judge (S : pS) (k0 : Nat) : Option (pS) :=
  bL (sU S k0 0 (-1)) fun S_1 =>
  bL (sU S_1 k0 1 (-1)) fun S_2 =>
  bO (pmu (S_2 k0 2)) none fun k_3 =>
  bG (k_3 = 132 ∨ k_3 = 133) <|
  bL (6300 - 1) fun l3_4 =>
  bL (fun (l1_5 : Int64) (S_6 : pS) =>
    bL (fun (S_7 : pS) =>
      some S_7) fun g106_79 =>
    bL (u2 fun (l3_8 : Int32) (S_9 : pS) =>
      if l3_8 < 0 then
        some (.inr S_9)
      else
        bL (fun (S_11 : pS) =>
          bL (l3_8 + (-1)) fun l3_12 =>
          some (.inl (l3_12, S_11))) fun j100 =>
        if (l1_5 &&& ((1229782938247303441 : Int64) <<< ((l3_8 : Int32).toInt64 &&& 63))) = 0 then
          j100 S_9
        else
          bL (sU S_9 k0 1 l3_8) fun S_13 =>
          j100 S_13) fun b79 =>
    bB (bP b79 ((3 : Int32), S_6)) (u1 g106_79)) fun g77_20 =>
  bL (u3 fun (l1_16 : Int64) (l3_17 : Int32) (S_18 : pS) =>
    if l3_17 < 0 then
      some (.inr (l1_16, S_18))
    else
      bO (pmu (S_18 k0 2)) none fun k_20 =>
      bG (k_20 = 132 ∨ k_20 = 133) <|
      bG (vp_in l3_17 6300) <|
      bL (fun (l1_22 : Int64) (S_23 : pS) =>
        bL (l3_17 + (-1)) fun l3_24 =>
        some (.inl (l1_22, l3_24, S_23))) fun j71 =>
      if (pjn (S_18 k_20 (2 * l3_17.toNatClampNeg)) (S_18 k_20 (2 * l3_17.toNatClampNeg + 1))) = 0 then
        j71 l1_16 S_18
      else
        bL (fun (_ : Unit) =>
          bL (sU S_18 k0 0 (l3_17 / 63)) fun S_25 =>
          bO (pmu (S_25 k0 2)) none fun k_26 =>
          bG (k_26 = 132 ∨ k_26 = 133) <|
          bG (vp_in l3_17 6300) <|
          bL (l1_16 ||| (pjn (S_25 k_26 (2 * l3_17.toNatClampNeg)) (S_25 k_26 (2 * l3_17.toNatClampNeg + 1)))) fun l1_28 =>
          j71 l1_28 S_25) fun j54 =>
        if (S_18 k0 0) = (-1) then
          j54 ()
        else
          if (l3_17 / 63) = (S_18 k0 0) then
            j54 ()
          else
            j71 l1_16 S_18) fun b20 =>
  bB (bP b20 ((0 : Int64), l3_4, S_2)) (u2 g77_20)
set_option maxRecDepth 100000 in
set_option maxHeartbeats 4000000 in
theorem wX9_judge {l : Launch} {Z : pZ}  (hZ : CC Z) (S : pS) (k0 : Nat) (S2 : pS) (h0 : isA Z K_Training k0) (h132 : isA Z K_J6300 132) (h133 : isA Z K_J6300 133) (hf : F9_judge S k0 = some S2) : CV l Z yX9_judge cX9_judge 4 3 60 [.ref (za Z k0)] S S2 := by
  unfold F9_judge at hf
  refine eV (own := RX9) (by decide) rfl (Nat.le_of_ble_eq_true rfl) (fun p e s m args below meth c Q ls G hl hw hret => ?_)
  obtain ⟨hx, hb, hml, hown, hts⟩ := G.1
  have hl : lv_has ls 4 [(0, .ref (za Z k0))] := hl
  refine lv_aload_n hx hb dX9_judge_0 rfl (lv_at hl 0 rfl) ?_
  refine lv_iconst hx hb dX9_judge_1 ki_m1 ?_
  obtain ⟨S_1, eS_1, hf⟩ := bL_e hf
  refine pI G hw h0 KX9 0 (by decide) rfl rfl rfl eS_1 fl_X9_54 dX9_judge_2 (fun H locs hw => ?_)
  refine lv_aload_n hx hb dX9_judge_5 rfl (lv_at hl 0 rfl) ?_
  refine lv_iconst hx hb dX9_judge_6 ki_m1 ?_
  obtain ⟨S_2, eS_2, hf⟩ := bL_e hf
  refine pI G hw h0 KX9 1 (by decide) rfl rfl rfl eS_2 fl_X9_58 dX9_judge_7 (fun H locs hw => ?_)
  refine lv_lconst (v := 0) hx hb dX9_judge_10 (by decide) ?_
  refine lv_lstore_n (lv' := [(1, .long 0), (0, .ref (za Z k0))]) hx hb dX9_judge_11 rfl hl (by decide) rfl (fun ls hl => ?_)
  refine lv_aload_n hx hb dX9_judge_12 rfl (lv_at hl 1 rfl) ?_
  obtain ⟨k_3, ek_3, hf⟩ := bO_ne hf
  obtain ⟨hg1, hf⟩ := bG_e hf
  have hk_3 := tr2 h132 h133 hg1
  refine gMs G hw h0 KX9 2 (by decide) rfl ek_3 fl_X9_11 dX9_judge_13 ?_
  refine aL G hw (t := 3) hk_3 rfl (v := 6300) (by decide) dX9_judge_16 ?_
  refine lv_iconst hx hb dX9_judge_17 ki_1 ?_
  refine lv_isub hx hb dX9_judge_18 ?_
  obtain ⟨l3_4, el3_4, hf⟩ := bL_e hf
  refine top_i el3_4 ?_
  refine lv_istore_n (lv' := [(3, .int l3_4), (1, .long 0), (0, .ref (za Z k0))]) hx hb dX9_judge_19 rfl hl (by decide) rfl (fun ls hl => ?_)
  obtain ⟨g77_20, ej, hf⟩ := bL_e hf
  have R77_20 : ∀ (l1_5 : Int64) (S_6 : pS) (H : Heap) (locs : List Loc) (ls : Array Slot), Wd Z s S_6 H locs → lv_has ls 4 [(0, .ref (za Z k0)), (1, .long l1_5)] → g77_20 l1_5 S_6 = some S2 → W p l e { frames := 3, cells := 0, slots := 0, locals := 60 } s m args below meth c H locs 0 0 Q (F0 m 77 ls []) := by
    intro l1_5 S_6 H locs ls hw hl hf
    have hf := (congrFun (congrFun ej l1_5) S_6).symm.trans hf
    refine lv_iconst hx hb dX9_judge_77 ki_3 ?_
    refine lv_istore_n (lv' := [(3, .int 3), (0, .ref (za Z k0)), (1, .long l1_5)]) hx hb dX9_judge_78 rfl hl (by decide) rfl (fun ls hl => ?_)
    obtain ⟨g106_79, ej, hf⟩ := bL_e hf
    have R106_79 : ∀ (S_7 : pS) (H : Heap) (locs : List Loc) (ls : Array Slot), Wd Z s S_7 H locs → lv_has ls 4 [] → g106_79 S_7 = some S2 → W p l e { frames := 3, cells := 0, slots := 0, locals := 60 } s m args below meth c H locs 0 0 Q (F0 m 106 ls []) := by
      intro S_7 H locs ls hw hl hf
      have hf := (congrFun ej S_7).symm.trans hf
      exact hret _ _ _ _ dX9_judge_106 (by rw [← (Option.some.inj hf)]; exact hw)
    clear ej
    obtain ⟨b79, eb, hf⟩ := bL_e hf
    have RL79 : ∀ (n : Nat) z, (u1 g106_79) z = some S2 → ∀ (l3_8 : Int32) (S_9 : pS) (H : Heap) (locs : List Loc) (ls : Array Slot), Wd Z s S_9 H locs → lv_has ls 4 [(0, .ref (za Z k0)), (1, .long l1_5), (3, .int l3_8)] → bPn b79 n (l3_8, S_9) = some z → W p l e { frames := 3, cells := 0, slots := 0, locals := 60 } s m args below meth c H locs 0 0 Q (F0 m 79 ls []) := by
      intro n
      induction n with
      | zero =>
        intro z hg l3_8 S_9 H locs ls hw hl hz
        exact bPn_0 hz
      | succ n ih =>
        intro z hg l3_8 S_9 H locs ls hw hl hz
        obtain ⟨q_10, hf, hz⟩ := bPn_e hz
        have hf := u2_e ((congrFun eb _).symm.trans hf)
        refine lv_iload_n hx hb dX9_judge_79 rfl (lv_at hl 2 rfl) ?_
        refine lv_if_lt (tgt := 106) hx hb dX9_judge_80 (by decide) (fun c_15 => ?_) (fun c_15 => ?_)
        · have hf := (if_pos c_15).symm.trans hf
          obtain rfl := Option.some.inj hf
          obtain rfl := Option.some.inj (hz : some _ = some _)
          exact R106_79 _ _ _ _ hw (lv_sub hl [] rfl) hg
        · have hf := (if_neg c_15).symm.trans hf
          refine lv_lload_n hx hb dX9_judge_83 rfl (lv_at hl 1 rfl) ?_
          refine lv_ldc2 hx hb hown (hts _ cl_X9_61) dX9_judge_84 ?_
          refine lv_iload_n hx hb dX9_judge_87 rfl (lv_at hl 2 rfl) ?_
          refine lv_lshl hx hb dX9_judge_88 rfl ?_
          refine lv_land hx hb dX9_judge_89 ?_
          refine lv_lconst (v := 0) hx hb dX9_judge_90 (by decide) ?_
          refine W.lcmp hx hb dX9_judge_91 ?_
          obtain ⟨j100, ej, hf⟩ := bL_e hf
          have R100 : ∀ (S_11 : pS) (H : Heap) (locs : List Loc) (ls : Array Slot), Wd Z s S_11 H locs → lv_has ls 4 [(0, .ref (za Z k0)), (1, .long l1_5), (3, .int l3_8)] → j100 S_11 = some q_10 → W p l e { frames := 3, cells := 0, slots := 0, locals := 60 } s m args below meth c H locs 0 0 Q (F0 m 100 ls []) := by
            intro S_11 H locs ls hw hl hf
            have hf := (congrFun ej S_11).symm.trans hf
            obtain ⟨l3_12, el3_12, hf⟩ := bL_e hf
            refine lv_iinc (v := l3_12) (lv' := [(3, .int l3_12), (0, .ref (za Z k0)), (1, .long l1_5)]) hx hb dX9_judge_100 hl (k := 2) rfl (by rw [el3_12]; rfl) (by decide) rfl (fun ls hl => ?_)
            refine lv_goto (tgt := 79) hx hb dX9_judge_103 (by decide) ?_
            obtain rfl := Option.some.inj hf
            exact ih _ hg _ _ _ _ _ hw (lv_sub hl [1, 2, 0] rfl) hz
          clear ej
          refine lv_if_eq (tgt := 100) hx hb dX9_judge_92 (by decide) (fun c_14 => ?_) (fun c_14 => ?_)
          · have hf := (if_pos ((lg_cmp_eq _ _).mp c_14)).symm.trans hf
            exact R100 _ _ _ _ hw (lv_sub hl [0, 1, 2] rfl) hf
          · have hf := (if_neg (fun q => c_14 ((lg_cmp_eq _ _).mpr q))).symm.trans hf
            refine lv_aload_n hx hb dX9_judge_95 rfl (lv_at hl 0 rfl) ?_
            refine lv_iload_n hx hb dX9_judge_96 rfl (lv_at hl 2 rfl) ?_
            obtain ⟨S_13, eS_13, hf⟩ := bL_e hf
            refine pI G hw h0 KX9 1 (by decide) rfl rfl rfl eS_13 fl_X9_58 dX9_judge_97 (fun H locs hw => ?_)
            exact R100 _ _ _ _ hw (lv_sub hl [0, 1, 2] rfl) hf
    clear eb
    obtain ⟨z, hz, hf⟩ := bB_e hf
    obtain ⟨n, hz⟩ := bP_e hz
    exact RL79 n z hf _ _ _ _ _ hw (lv_sub hl [1, 2, 0] rfl) hz
  clear ej
  obtain ⟨b20, eb, hf⟩ := bL_e hf
  have RL20 : ∀ (n : Nat) z, (u2 g77_20) z = some S2 → ∀ (l1_16 : Int64) (l3_17 : Int32) (S_18 : pS) (H : Heap) (locs : List Loc) (ls : Array Slot), Wd Z s S_18 H locs → lv_has ls 4 [(0, .ref (za Z k0)), (1, .long l1_16), (3, .int l3_17)] → bPn b20 n (l1_16, l3_17, S_18) = some z → W p l e { frames := 3, cells := 0, slots := 0, locals := 60 } s m args below meth c H locs 0 0 Q (F0 m 20 ls []) := by
    intro n
    induction n with
    | zero =>
      intro z hg l1_16 l3_17 S_18 H locs ls hw hl hz
      exact bPn_0 hz
    | succ n ih =>
      intro z hg l1_16 l3_17 S_18 H locs ls hw hl hz
      obtain ⟨q_19, hf, hz⟩ := bPn_e hz
      have hf := u3_e ((congrFun eb _).symm.trans hf)
      refine lv_iload_n hx hb dX9_judge_20 rfl (lv_at hl 2 rfl) ?_
      refine lv_if_lt (tgt := 77) hx hb dX9_judge_21 (by decide) (fun c_32 => ?_) (fun c_32 => ?_)
      · have hf := (if_pos c_32).symm.trans hf
        obtain rfl := Option.some.inj hf
        obtain rfl := Option.some.inj (hz : some _ = some _)
        exact R77_20 _ _ _ _ _ hw (lv_sub hl [0, 1] rfl) hg
      · have hf := (if_neg c_32).symm.trans hf
        refine lv_aload_n hx hb dX9_judge_24 rfl (lv_at hl 0 rfl) ?_
        obtain ⟨k_20, ek_20, hf⟩ := bO_ne hf
        obtain ⟨hg1, hf⟩ := bG_e hf
        have hk_20 := tr2 h132 h133 hg1
        refine gMs G hw h0 KX9 2 (by decide) rfl ek_20 fl_X9_11 dX9_judge_25 ?_
        refine lv_iload_n hx hb dX9_judge_28 rfl (lv_at hl 2 rfl) ?_
        obtain ⟨hg_21, hf⟩ := bG_e hf
        refine aJ G hw hk_20 hg_21 (j := l3_17.toNatClampNeg) rfl dX9_judge_29 ?_
        refine lv_lconst (v := 0) hx hb dX9_judge_30 (by decide) ?_
        refine W.lcmp hx hb dX9_judge_31 ?_
        obtain ⟨j71, ej, hf⟩ := bL_e hf
        have R71 : ∀ (l1_22 : Int64) (S_23 : pS) (H : Heap) (locs : List Loc) (ls : Array Slot), Wd Z s S_23 H locs → lv_has ls 4 [(0, .ref (za Z k0)), (1, .long l1_22), (3, .int l3_17)] → j71 l1_22 S_23 = some q_19 → W p l e { frames := 3, cells := 0, slots := 0, locals := 60 } s m args below meth c H locs 0 0 Q (F0 m 71 ls []) := by
          intro l1_22 S_23 H locs ls hw hl hf
          have hf := (congrFun (congrFun ej l1_22) S_23).symm.trans hf
          obtain ⟨l3_24, el3_24, hf⟩ := bL_e hf
          refine lv_iinc (v := l3_24) (lv' := [(3, .int l3_24), (0, .ref (za Z k0)), (1, .long l1_22)]) hx hb dX9_judge_71 hl (k := 2) rfl (by rw [el3_24]; rfl) (by decide) rfl (fun ls hl => ?_)
          refine lv_goto (tgt := 20) hx hb dX9_judge_74 (by decide) ?_
          obtain rfl := Option.some.inj hf
          exact ih _ hg _ _ _ _ _ _ hw (lv_sub hl [1, 2, 0] rfl) hz
        clear ej
        refine lv_if_eq (tgt := 71) hx hb dX9_judge_32 (by decide) (fun c_31 => ?_) (fun c_31 => ?_)
        · have hf := (if_pos ((lg_cmp_eq _ _).mp c_31)).symm.trans hf
          exact R71 _ _ _ _ _ hw (lv_sub hl [0, 1, 2] rfl) hf
        · have hf := (if_neg (fun q => c_31 ((lg_cmp_eq _ _).mpr q))).symm.trans hf
          refine lv_aload_n hx hb dX9_judge_35 rfl (lv_at hl 0 rfl) ?_
          refine gI G hw h0 KX9 0 (by decide) rfl fl_X9_54 dX9_judge_36 ?_
          refine lv_iconst hx hb dX9_judge_39 ki_m1 ?_
          obtain ⟨j54, ej, hf⟩ := bL_e hf
          have R54 : ∀ (H : Heap) (locs : List Loc) (ls : Array Slot), Wd Z s S_18 H locs → lv_has ls 4 [(0, .ref (za Z k0)), (1, .long l1_16), (3, .int l3_17)] → j54 () = some q_19 → W p l e { frames := 3, cells := 0, slots := 0, locals := 60 } s m args below meth c H locs 0 0 Q (F0 m 54 ls []) := by
            intro  H locs ls hw hl hf
            have hf := (congrFun ej ()).symm.trans hf
            refine lv_aload_n hx hb dX9_judge_54 rfl (lv_at hl 0 rfl) ?_
            refine lv_iload_n hx hb dX9_judge_55 rfl (lv_at hl 2 rfl) ?_
            refine lv_bipush hx hb dX9_judge_56 kb_63 ?_
            refine lv_idiv hx hb dX9_judge_58 (by decide) ?_
            obtain ⟨S_25, eS_25, hf⟩ := bL_e hf
            refine pI G hw h0 KX9 0 (by decide) rfl rfl rfl eS_25 fl_X9_54 dX9_judge_59 (fun H locs hw => ?_)
            refine lv_lload_n hx hb dX9_judge_62 rfl (lv_at hl 1 rfl) ?_
            refine lv_aload_n hx hb dX9_judge_63 rfl (lv_at hl 0 rfl) ?_
            obtain ⟨k_26, ek_26, hf⟩ := bO_ne hf
            obtain ⟨hg1, hf⟩ := bG_e hf
            have hk_26 := tr2 h132 h133 hg1
            refine gMs G hw h0 KX9 2 (by decide) rfl ek_26 fl_X9_11 dX9_judge_64 ?_
            refine lv_iload_n hx hb dX9_judge_67 rfl (lv_at hl 2 rfl) ?_
            obtain ⟨hg_27, hf⟩ := bG_e hf
            refine aJ G hw hk_26 hg_27 (j := l3_17.toNatClampNeg) rfl dX9_judge_68 ?_
            refine lv_lor hx hb dX9_judge_69 ?_
            obtain ⟨l1_28, el1_28, hf⟩ := bL_e hf
            refine top_l el1_28 ?_
            refine lv_lstore_n (lv' := [(1, .long l1_28), (0, .ref (za Z k0)), (3, .int l3_17)]) hx hb dX9_judge_70 rfl hl (by decide) rfl (fun ls hl => ?_)
            exact R71 _ _ _ _ _ hw (lv_sub hl [1, 0, 2] rfl) hf
          clear ej
          refine lv_icmp_eq (tgt := 54) hx hb dX9_judge_40 (by decide) (fun c_30 => ?_) (fun c_30 => ?_)
          · have hf := (if_pos c_30).symm.trans hf
            exact R54 _ _ _ hw (lv_sub hl [0, 1, 2] rfl) hf
          · have hf := (if_neg c_30).symm.trans hf
            refine lv_iload_n hx hb dX9_judge_43 rfl (lv_at hl 2 rfl) ?_
            refine lv_bipush hx hb dX9_judge_44 kb_63 ?_
            refine lv_idiv hx hb dX9_judge_46 (by decide) ?_
            refine lv_aload_n hx hb dX9_judge_47 rfl (lv_at hl 0 rfl) ?_
            refine gI G hw h0 KX9 0 (by decide) rfl fl_X9_54 dX9_judge_48 ?_
            refine lv_icmp_ne (tgt := 71) hx hb dX9_judge_51 (by decide) (fun c_29 => ?_) (fun c_29 => ?_)
            · have hf := (if_neg c_29).symm.trans hf
              exact R71 _ _ _ _ _ hw (lv_sub hl [0, 1, 2] rfl) hf
            · have hf := (if_pos c_29).symm.trans hf
              exact R54 _ _ _ hw (lv_sub hl [0, 1, 2] rfl) hf
  clear eb
  obtain ⟨z, hz, hf⟩ := bB_e hf
  obtain ⟨n, hz⟩ := bP_e hz
  exact RL20 n z hf _ _ _ _ _ _ hw (lv_sub hl [2, 1, 0] rfl) hz
noncomputable def F9_spread (S : pS) (k0 : Nat) (k1 : Nat) (a2 : Int32) (a3 : Int32) (a4 : Int32) (a5 : Int32) (a6 : Int32) : Option (pS) :=
  bL (fun (S_1 : pS) =>
    some S_1) fun g131_3 =>
  bL (u2 fun (l7_2 : Int32) (S_3 : pS) =>
    if 3 < l7_2 then
      some (.inr S_3)
    else
      bL (sU S_3 (k0 + 3) 0 l7_2) fun S_5 =>
      bL (sU S_5 (k0 + 3) 1 a4) fun S_6 =>
      bL (sU S_6 (k0 + 3) 2 a5) fun S_7 =>
      bL (sU S_7 (k0 + 3) 3 a2) fun S_8 =>
      bB2 (F3_tell S_8 k1 0 (k0 + 3) 4) fun r_9 S_10 =>
      bL (F11_hold r_9 0 9) fun l8_11 =>
      bB2 (F3_tell S_10 k1 1 (k0 + 3) 4) fun r_12 S_13 =>
      bL (F11_hold (a5 + (F11_hold r_12 (-200) 200)) 0 1000) fun l9_14 =>
      bL (fun (S_15 : pS) =>
        bL (l7_2 + 1) fun l7_16 =>
        some (.inl (l7_16, S_15))) fun j125 =>
      if a3 < l9_14 then
        j125 S_13
      else
        bO (pmu (S_13 k0 3)) none fun k_17 =>
        bG (k_17 = 132 ∨ k_17 = 133) <|
        bL (fun (t_18 : Int32) =>
          bB (F9_put S_13 k_17 6300 (jmin 99 (a4 + l8_11)) l9_14 t_18) fun S_19 =>
          j125 S_19) fun j122 =>
        if a2 = 0 then
          j122 (1 <<< (l7_2 &&& 31))
        else
          j122 a6) fun b3 =>
  bB (bP b3 ((0 : Int32), S)) (u1 g131_3)
set_option maxRecDepth 100000 in
set_option maxHeartbeats 4000000 in
theorem wX9_spread {l : Launch} {Z : pZ}  (hZ : CC Z) (S : pS) (k0 : Nat) (k1 : Nat) (a2 : Int32) (a3 : Int32) (a4 : Int32) (a5 : Int32) (a6 : Int32) (S2 : pS) (h0 : isA Z K_Training k0) (h1 : isA Z K_Law k1) (h132 : isA Z K_J6300 132) (h133 : isA Z K_J6300 133) (hf : F9_spread S k0 k1 a2 a3 a4 a5 a6 = some S2) : CV l Z yX9_spread cX9_spread 10 6 132 [.ref (za Z k0), .ref (za Z k1), .int a2, .int a3, .int a4, .int a5, .int a6] S S2 := by
  unfold F9_spread at hf
  refine eV (own := RX9) (by decide) rfl (Nat.le_of_ble_eq_true rfl) (fun p e s m args below meth c Q ls G hl hw hret => ?_)
  obtain ⟨hx, hb, hml, hown, hts⟩ := G.1
  have hl : lv_has ls 10 [(0, .ref (za Z k0)), (1, .ref (za Z k1)), (2, .int a2), (3, .int a3), (4, .int a4), (5, .int a5), (6, .int a6)] := hl
  refine lv_iconst hx hb dX9_spread_0 ki_0 ?_
  refine lv_istore (lv' := [(7, .int 0), (0, .ref (za Z k0)), (1, .ref (za Z k1)), (2, .int a2), (3, .int a3), (4, .int a4), (5, .int a5), (6, .int a6)]) hx hb dX9_spread_1 hl (by decide) rfl (fun ls hl => ?_)
  obtain ⟨g131_3, ej, hf⟩ := bL_e hf
  have R131_3 : ∀ (S_1 : pS) (H : Heap) (locs : List Loc) (ls : Array Slot), Wd Z s S_1 H locs → lv_has ls 10 [] → g131_3 S_1 = some S2 → W p l e { frames := 6, cells := 0, slots := 0, locals := 132 } s m args below meth c H locs 0 0 Q (F0 m 131 ls []) := by
    intro S_1 H locs ls hw hl hf
    have hf := (congrFun ej S_1).symm.trans hf
    exact hret _ _ _ _ dX9_spread_131 (by rw [← (Option.some.inj hf)]; exact hw)
  clear ej
  obtain ⟨b3, eb, hf⟩ := bL_e hf
  have RL3 : ∀ (n : Nat) z, (u1 g131_3) z = some S2 → ∀ (l7_2 : Int32) (S_3 : pS) (H : Heap) (locs : List Loc) (ls : Array Slot), Wd Z s S_3 H locs → lv_has ls 10 [(0, .ref (za Z k0)), (1, .ref (za Z k1)), (2, .int a2), (3, .int a3), (4, .int a4), (5, .int a5), (6, .int a6), (7, .int l7_2)] → bPn b3 n (l7_2, S_3) = some z → W p l e { frames := 6, cells := 0, slots := 0, locals := 132 } s m args below meth c H locs 0 0 Q (F0 m 3 ls []) := by
    intro n
    induction n with
    | zero =>
      intro z hg l7_2 S_3 H locs ls hw hl hz
      exact bPn_0 hz
    | succ n ih =>
      intro z hg l7_2 S_3 H locs ls hw hl hz
      obtain ⟨q_4, hf, hz⟩ := bPn_e hz
      have hf := u2_e ((congrFun eb _).symm.trans hf)
      refine lv_iload hx hb dX9_spread_3 (lv_at hl 7 rfl) ?_
      refine lv_iconst hx hb dX9_spread_5 ki_3 ?_
      refine lv_icmp_gt (tgt := 131) hx hb dX9_spread_6 (by decide) (fun c_22 => ?_) (fun c_22 => ?_)
      · have hf := (if_pos c_22).symm.trans hf
        obtain rfl := Option.some.inj hf
        obtain rfl := Option.some.inj (hz : some _ = some _)
        exact R131_3 _ _ _ _ hw (lv_sub hl [] rfl) hg
      · have hf := (if_neg c_22).symm.trans hf
        refine lv_aload_n hx hb dX9_spread_9 rfl (lv_at hl 0 rfl) ?_
        refine gF G hw h0 KX9 4 (k2 := (k0 + 3)) rfl (by decide) rfl fl_X9_18 dX9_spread_10 ?_
        refine lv_iconst hx hb dX9_spread_13 ki_0 ?_
        refine lv_iload hx hb dX9_spread_14 (lv_at hl 7 rfl) ?_
        obtain ⟨S_5, eS_5, hf⟩ := bL_e hf
        refine sI G hw (sub_Training_asked hZ h0) (vin_e (by decide)) (j := 0) (by decide) eS_5 dX9_spread_16 (fun H locs hw => ?_)
        refine lv_aload_n hx hb dX9_spread_17 rfl (lv_at hl 0 rfl) ?_
        refine gF G hw h0 KX9 4 (k2 := (k0 + 3)) rfl (by decide) rfl fl_X9_18 dX9_spread_18 ?_
        refine lv_iconst hx hb dX9_spread_21 ki_1 ?_
        refine lv_iload hx hb dX9_spread_22 (lv_at hl 4 rfl) ?_
        obtain ⟨S_6, eS_6, hf⟩ := bL_e hf
        refine sI G hw (sub_Training_asked hZ h0) (vin_e (by decide)) (j := 1) (by decide) eS_6 dX9_spread_24 (fun H locs hw => ?_)
        refine lv_aload_n hx hb dX9_spread_25 rfl (lv_at hl 0 rfl) ?_
        refine gF G hw h0 KX9 4 (k2 := (k0 + 3)) rfl (by decide) rfl fl_X9_18 dX9_spread_26 ?_
        refine lv_iconst hx hb dX9_spread_29 ki_2 ?_
        refine lv_iload hx hb dX9_spread_30 (lv_at hl 5 rfl) ?_
        obtain ⟨S_7, eS_7, hf⟩ := bL_e hf
        refine sI G hw (sub_Training_asked hZ h0) (vin_e (by decide)) (j := 2) (by decide) eS_7 dX9_spread_32 (fun H locs hw => ?_)
        refine lv_aload_n hx hb dX9_spread_33 rfl (lv_at hl 0 rfl) ?_
        refine gF G hw h0 KX9 4 (k2 := (k0 + 3)) rfl (by decide) rfl fl_X9_18 dX9_spread_34 ?_
        refine lv_iconst hx hb dX9_spread_37 ki_3 ?_
        refine lv_iload_n hx hb dX9_spread_38 rfl (lv_at hl 2 rfl) ?_
        obtain ⟨S_8, eS_8, hf⟩ := bL_e hf
        refine sI G hw (sub_Training_asked hZ h0) (vin_e (by decide)) (j := 3) (by decide) eS_8 dX9_spread_39 (fun H locs hw => ?_)
        refine lv_aload_n hx hb dX9_spread_40 rfl (lv_at hl 1 rfl) ?_
        refine lv_iconst hx hb dX9_spread_41 ki_0 ?_
        refine lv_aload_n hx hb dX9_spread_42 rfl (lv_at hl 0 rfl) ?_
        refine gF G hw h0 KX9 4 (k2 := (k0 + 3)) rfl (by decide) rfl fl_X9_18 dX9_spread_43 ?_
        obtain ⟨r_9, S_10, hr_9, hf⟩ := bB2_e hf
        refine kVi (rest := []) G hw (wX3_tell hZ S_8 k1 0 (k0 + 3) 4 r_9 S_10 h1 (sub_Training_asked hZ h0) hr_9) cw_X9_38 h1 KX3 ⟨Nat.le_of_ble_eq_true rfl, Nat.le_of_ble_eq_true rfl⟩ rfl hl.1 rfl (Nat.le_of_ble_eq_true rfl) ⟨Nat.le_refl _, Nat.le_refl _⟩ dX9_spread_46 (fun H locs hw => ?_)
        refine lv_iconst hx hb dX9_spread_49 ki_0 ?_
        refine lv_bipush hx hb dX9_spread_50 kb_9 ?_
        refine kNi (rest := []) G hw (wX11_hold hZ S_10 r_9 0 9 (F11_hold r_9 0 9) rfl) cw_X9_44 ⟨Nat.le_of_ble_eq_true rfl, Nat.le_of_ble_eq_true rfl⟩ rfl hl.1 rfl (Nat.le_of_ble_eq_true rfl) ⟨Nat.le_refl _, Nat.le_refl _⟩ dX9_spread_52 (fun H locs hw => ?_)
        obtain ⟨l8_11, el8_11, hf⟩ := bL_e hf
        refine top_i el8_11 ?_
        refine lv_istore (lv' := [(8, .int l8_11), (0, .ref (za Z k0)), (1, .ref (za Z k1)), (2, .int a2), (3, .int a3), (4, .int a4), (5, .int a5), (6, .int a6), (7, .int l7_2)]) hx hb dX9_spread_55 hl (by decide) rfl (fun ls hl => ?_)
        refine lv_iload hx hb dX9_spread_57 (lv_at hl 6 rfl) ?_
        refine lv_aload_n hx hb dX9_spread_59 rfl (lv_at hl 2 rfl) ?_
        refine lv_iconst hx hb dX9_spread_60 ki_1 ?_
        refine lv_aload_n hx hb dX9_spread_61 rfl (lv_at hl 1 rfl) ?_
        refine gF G hw h0 KX9 4 (k2 := (k0 + 3)) rfl (by decide) rfl fl_X9_18 dX9_spread_62 ?_
        obtain ⟨r_12, S_13, hr_12, hf⟩ := bB2_e hf
        refine kVi (rest := [.int a5]) G hw (wX3_tell hZ S_10 k1 1 (k0 + 3) 4 r_12 S_13 h1 (sub_Training_asked hZ h0) hr_12) cw_X9_38 h1 KX3 ⟨Nat.le_of_ble_eq_true rfl, Nat.le_of_ble_eq_true rfl⟩ rfl hl.1 rfl (Nat.le_of_ble_eq_true rfl) ⟨Nat.le_refl _, Nat.le_refl _⟩ dX9_spread_65 (fun H locs hw => ?_)
        refine lv_sipush hx hb dX9_spread_68 ks_m200 ?_
        refine lv_sipush hx hb dX9_spread_71 ks_200 ?_
        refine kNi (rest := [.int a5]) G hw (wX11_hold hZ S_13 r_12 (-200) 200 (F11_hold r_12 (-200) 200) rfl) cw_X9_44 ⟨Nat.le_of_ble_eq_true rfl, Nat.le_of_ble_eq_true rfl⟩ rfl hl.1 rfl (Nat.le_of_ble_eq_true rfl) ⟨Nat.le_refl _, Nat.le_refl _⟩ dX9_spread_74 (fun H locs hw => ?_)
        refine lv_iadd hx hb dX9_spread_77 ?_
        refine lv_iconst hx hb dX9_spread_78 ki_0 ?_
        refine lv_sipush hx hb dX9_spread_79 ks_1000 ?_
        refine kNi (rest := []) G hw (wX11_hold hZ S_13 (a5 + (F11_hold r_12 (-200) 200)) 0 1000 (F11_hold (a5 + (F11_hold r_12 (-200) 200)) 0 1000) rfl) cw_X9_44 ⟨Nat.le_of_ble_eq_true rfl, Nat.le_of_ble_eq_true rfl⟩ rfl hl.1 rfl (Nat.le_of_ble_eq_true rfl) ⟨Nat.le_refl _, Nat.le_refl _⟩ dX9_spread_82 (fun H locs hw => ?_)
        obtain ⟨l9_14, el9_14, hf⟩ := bL_e hf
        refine top_i el9_14 ?_
        refine lv_istore (lv' := [(9, .int l9_14), (8, .int l8_11), (0, .ref (za Z k0)), (1, .ref (za Z k1)), (2, .int a2), (3, .int a3), (4, .int a4), (5, .int a5), (6, .int a6), (7, .int l7_2)]) hx hb dX9_spread_85 hl (by decide) rfl (fun ls hl => ?_)
        refine lv_iload hx hb dX9_spread_87 (lv_at hl 0 rfl) ?_
        refine lv_iload_n hx hb dX9_spread_89 rfl (lv_at hl 5 rfl) ?_
        obtain ⟨j125, ej, hf⟩ := bL_e hf
        have R125 : ∀ (S_15 : pS) (H : Heap) (locs : List Loc) (ls : Array Slot), Wd Z s S_15 H locs → lv_has ls 10 [(0, .ref (za Z k0)), (1, .ref (za Z k1)), (2, .int a2), (3, .int a3), (4, .int a4), (5, .int a5), (6, .int a6), (7, .int l7_2)] → j125 S_15 = some q_4 → W p l e { frames := 6, cells := 0, slots := 0, locals := 132 } s m args below meth c H locs 0 0 Q (F0 m 125 ls []) := by
          intro S_15 H locs ls hw hl hf
          have hf := (congrFun ej S_15).symm.trans hf
          obtain ⟨l7_16, el7_16, hf⟩ := bL_e hf
          refine lv_iinc (v := l7_16) (lv' := [(7, .int l7_16), (0, .ref (za Z k0)), (1, .ref (za Z k1)), (2, .int a2), (3, .int a3), (4, .int a4), (5, .int a5), (6, .int a6)]) hx hb dX9_spread_125 hl (k := 7) rfl (by rw [el7_16]; rfl) (by decide) rfl (fun ls hl => ?_)
          refine lv_goto (tgt := 3) hx hb dX9_spread_128 (by decide) ?_
          obtain rfl := Option.some.inj hf
          exact ih _ hg _ _ _ _ _ hw (lv_sub hl [1, 2, 3, 4, 5, 6, 7, 0] rfl) hz
        clear ej
        refine lv_icmp_gt (tgt := 125) hx hb dX9_spread_90 (by decide) (fun c_21 => ?_) (fun c_21 => ?_)
        · have hf := (if_pos c_21).symm.trans hf
          exact R125 _ _ _ _ hw (lv_sub hl [2, 3, 4, 5, 6, 7, 8, 9] rfl) hf
        · have hf := (if_neg c_21).symm.trans hf
          refine lv_aload_n hx hb dX9_spread_93 rfl (lv_at hl 2 rfl) ?_
          obtain ⟨k_17, ek_17, hf⟩ := bO_ne hf
          obtain ⟨hg1, hf⟩ := bG_e hf
          have hk_17 := tr2 h132 h133 hg1
          refine gMs G hw h0 KX9 3 (by decide) rfl ek_17 fl_X9_15 dX9_spread_94 ?_
          refine lv_bipush hx hb dX9_spread_97 kb_99 ?_
          refine lv_iload hx hb dX9_spread_99 (lv_at hl 6 rfl) ?_
          refine lv_iload hx hb dX9_spread_101 (lv_at hl 1 rfl) ?_
          refine lv_iadd hx hb dX9_spread_103 ?_
          refine xmin G hl.1 ml_X9_48 (Nat.le_of_ble_eq_true rfl) (Nat.le_of_ble_eq_true rfl) ⟨Nat.le_refl _, Nat.le_refl _⟩ dX9_spread_104 ?_
          refine lv_iload hx hb dX9_spread_107 (lv_at hl 0 rfl) ?_
          refine lv_iload_n hx hb dX9_spread_109 rfl (lv_at hl 4 rfl) ?_
          obtain ⟨j122, ej, hf⟩ := bL_e hf
          have R122 : ∀ (t_18 : Int32) (H : Heap) (locs : List Loc) (ls : Array Slot), Wd Z s S_13 H locs → lv_has ls 10 [(0, .ref (za Z k0)), (1, .ref (za Z k1)), (2, .int a2), (3, .int a3), (4, .int a4), (5, .int a5), (6, .int a6), (7, .int l7_2)] → j122 t_18 = some q_4 → W p l e { frames := 6, cells := 0, slots := 0, locals := 132 } s m args below meth c H locs 0 0 Q (F0 m 122 ls [.int t_18, .int l9_14, .int (jmin 99 (a4 + l8_11)), .ref (za Z k_17)]) := by
            intro t_18 H locs ls hw hl hf
            have hf := (congrFun ej t_18).symm.trans hf
            obtain ⟨S_19, hS_19, hf⟩ := bB_e hf
            refine kSv (rest := []) G hw (wX9_put hZ S_13 k_17 6300 (jmin 99 (a4 + l8_11)) l9_14 t_18 S_19 hk_17 hS_19) cw_X9_28 ⟨Nat.le_of_ble_eq_true rfl, Nat.le_of_ble_eq_true rfl⟩ rfl hl.1 rfl (Nat.le_of_ble_eq_true rfl) ⟨Nat.le_refl _, Nat.le_refl _⟩ dX9_spread_122 (fun H locs hw => ?_)
            exact R125 _ _ _ _ hw (lv_sub hl [0, 1, 2, 3, 4, 5, 6, 7] rfl) hf
          clear ej
          refine lv_if_ne (tgt := 120) hx hb dX9_spread_110 (by decide) (fun c_20 => ?_) (fun c_20 => ?_)
          · have hf := (if_neg c_20).symm.trans hf
            refine lv_iload hx hb dX9_spread_120 (lv_at hl 8 rfl) ?_
            exact R122 _ _ _ _ hw (lv_sub hl [2, 3, 4, 5, 6, 7, 8, 9] rfl) hf
          · have hf := (if_pos c_20).symm.trans hf
            refine lv_iconst hx hb dX9_spread_113 ki_1 ?_
            refine lv_iload hx hb dX9_spread_114 (lv_at hl 9 rfl) ?_
            refine lv_ishl hx hb dX9_spread_116 ?_
            refine lv_goto (tgt := 122) hx hb dX9_spread_117 (by decide) ?_
            exact R122 _ _ _ _ hw (lv_sub hl [2, 3, 4, 5, 6, 7, 8, 9] rfl) hf
  clear eb
  obtain ⟨z, hz, hf⟩ := bB_e hf
  obtain ⟨n, hz⟩ := bP_e hz
  exact RL3 n z hf _ _ _ _ _ hw (lv_sub hl [1, 2, 3, 4, 5, 6, 7, 0] rfl) hz
noncomputable def F9_week (S : pS) (k0 : Nat) (k1 : Nat) (a2 : Int32) (a3 : Int32) : Option (pS) :=
  bO (pmu (S k0 3)) none fun k_1 =>
  bG (k_1 = 132 ∨ k_1 = 133) <|
  bB (FJ7_fill_d0a16 S k_1 6300 0) fun S_2 =>
  bL (fun (S_3 : pS) =>
    bO (pmu (S_3 k0 2)) none fun k_4 =>
    bG (k_4 = 132 ∨ k_4 = 133) <|
    bO (pmu (S_3 k0 3)) none fun k_5 =>
    bG (k_5 = 132 ∨ k_5 = 133) <|
    bG (pmu (nI k_5) = some k_5) <|
    bL (sU S_3 k0 2 (nI k_5)) fun S_6 =>
    bG (pmu (nI k_4) = some k_4) <|
    bL (sU S_6 k0 3 (nI k_4)) fun S_7 =>
    some S_7) fun g104_11 =>
  bL (u2 fun (l4_8 : Int32) (S_9 : pS) =>
    bO (pmu (S_9 k0 2)) none fun k_11 =>
    bG (k_11 = 132 ∨ k_11 = 133) <|
    if 6300 ≤ l4_8 then
      some (.inr S_9)
    else
      bO (pmu (S_9 k0 2)) none fun k_12 =>
      bG (k_12 = 132 ∨ k_12 = 133) <|
      bG (vp_in l4_8 6300) <|
      bL (pjn (S_9 k_12 (2 * l4_8.toNatClampNeg)) (S_9 k_12 (2 * l4_8.toNatClampNeg + 1))) fun l5_14 =>
      bL (fun (S_15 : pS) =>
        bL (l4_8 + 1) fun l4_16 =>
        some (.inl (l4_16, S_15))) fun g98_33 =>
      bL (u3 fun (l5_17 : Int64) (l7_18 : Int32) (S_19 : pS) =>
        if 16 ≤ l7_18 then
          some (.inr S_19)
        else
          if l5_17 = 0 then
            some (.inr S_19)
          else
            bL ((l5_17 &&& 15 : Int64).toInt32) fun l8_21 =>
            bL (fun (S_22 : pS) =>
              bL ((l5_17.toUInt64 >>> ((4 : Int32).toInt64.toUInt64 &&& Int64.toUInt64 63)).toInt64) fun l5_23 =>
              bL (l7_18 + 1) fun l7_24 =>
              some (.inl (l5_23, l7_24, S_22))) fun j86 =>
            if l8_21 = 0 then
              j86 S_19
            else
              bB (F9_spread S_19 k0 k1 a2 a3 (l4_8 / 63) (((l4_8 - l4_8 / 63 * 63) * 16) + l7_18) l8_21) fun S_25 =>
              j86 S_25) fun b33 =>
      bB (bP b33 (l5_14, (0 : Int32), S_9)) (u1 g98_33)) fun b11 =>
  bB (bP b11 ((0 : Int32), S_2)) (u1 g104_11)
set_option maxRecDepth 100000 in
set_option maxHeartbeats 4000000 in
theorem wX9_week {l : Launch} {Z : pZ}  (hZ : CC Z) (S : pS) (k0 : Nat) (k1 : Nat) (a2 : Int32) (a3 : Int32) (S2 : pS) (h0 : isA Z K_Training k0) (h1 : isA Z K_Law k1) (h132 : isA Z K_J6300 132) (h133 : isA Z K_J6300 133) (hf : F9_week S k0 k1 a2 a3 = some S2) : CV l Z yX9_week cX9_week 9 7 161 [.ref (za Z k0), .ref (za Z k1), .int a2, .int a3] S S2 := by
  unfold F9_week at hf
  refine eV (own := RX9) (by decide) rfl (Nat.le_of_ble_eq_true rfl) (fun p e s m args below meth c Q ls G hl hw hret => ?_)
  obtain ⟨hx, hb, hml, hown, hts⟩ := G.1
  have hl : lv_has ls 9 [(0, .ref (za Z k0)), (1, .ref (za Z k1)), (2, .int a2), (3, .int a3)] := hl
  refine lv_aload_n hx hb dX9_week_0 rfl (lv_at hl 0 rfl) ?_
  obtain ⟨k_1, ek_1, hf⟩ := bO_ne hf
  obtain ⟨hg1, hf⟩ := bG_e hf
  have hk_1 := tr2 h132 h133 hg1
  refine gMs G hw h0 KX9 3 (by decide) rfl ek_1 fl_X9_15 dX9_week_1 ?_
  refine lv_lconst (v := 0) hx hb dX9_week_4 (by decide) ?_
  obtain ⟨S_2, hS_2, hf⟩ := bB_e hf
  refine kTv (rest := []) G hw (wJ7_fill_d0a16 hZ S k_1 6300 0 S_2 hk_1 hS_2) cw_X9_22 ⟨Nat.le_of_ble_eq_true rfl, Nat.le_of_ble_eq_true rfl⟩ rfl hl.1 rfl (Nat.le_of_ble_eq_true rfl) ⟨Nat.le_refl _, Nat.le_refl _⟩ dX9_week_5 (fun H locs hw => ?_)
  refine lv_iconst hx hb dX9_week_8 ki_0 ?_
  refine lv_istore (lv' := [(4, .int 0), (0, .ref (za Z k0)), (1, .ref (za Z k1)), (2, .int a2), (3, .int a3)]) hx hb dX9_week_9 hl (by decide) rfl (fun ls hl => ?_)
  obtain ⟨g104_11, ej, hf⟩ := bL_e hf
  have R104_11 : ∀ (S_3 : pS) (H : Heap) (locs : List Loc) (ls : Array Slot), Wd Z s S_3 H locs → lv_has ls 9 [(0, .ref (za Z k0))] → g104_11 S_3 = some S2 → W p l e { frames := 7, cells := 0, slots := 0, locals := 161 } s m args below meth c H locs 0 0 Q (F0 m 104 ls []) := by
    intro S_3 H locs ls hw hl hf
    have hf := (congrFun ej S_3).symm.trans hf
    refine lv_aload_n hx hb dX9_week_104 rfl (lv_at hl 0 rfl) ?_
    obtain ⟨k_4, ek_4, hf⟩ := bO_ne hf
    obtain ⟨hg1, hf⟩ := bG_e hf
    have hk_4 := tr2 h132 h133 hg1
    refine gMs G hw h0 KX9 2 (by decide) rfl ek_4 fl_X9_11 dX9_week_105 ?_
    refine lv_astore (lv' := [(4, .ref (za Z k_4)), (0, .ref (za Z k0))]) hx hb dX9_week_108 hl (by decide) rfl (fun ls hl => ?_)
    refine lv_aload_n hx hb dX9_week_110 rfl (lv_at hl 1 rfl) ?_
    refine lv_aload_n hx hb dX9_week_111 rfl (lv_at hl 1 rfl) ?_
    obtain ⟨k_5, ek_5, hf⟩ := bO_ne hf
    obtain ⟨hg1, hf⟩ := bG_e hf
    have hk_5 := tr2 h132 h133 hg1
    refine gMs G hw h0 KX9 3 (by decide) rfl ek_5 fl_X9_15 dX9_week_112 ?_
    obtain ⟨hg1, hf⟩ := bG_e hf
    obtain ⟨S_6, eS_6, hf⟩ := bL_e hf
    refine pM G hw h0 KX9 2 (by decide) rfl hg1 rfl rfl rfl eS_6 fl_X9_11 dX9_week_115 (fun H locs hw => ?_)
    refine lv_aload_n hx hb dX9_week_118 rfl (lv_at hl 1 rfl) ?_
    refine lv_aload hx hb dX9_week_119 (lv_at hl 0 rfl) ?_
    obtain ⟨hg1, hf⟩ := bG_e hf
    obtain ⟨S_7, eS_7, hf⟩ := bL_e hf
    refine pM G hw h0 KX9 3 (by decide) rfl hg1 rfl rfl rfl eS_7 fl_X9_15 dX9_week_121 (fun H locs hw => ?_)
    exact hret _ _ _ _ dX9_week_124 (by rw [← (Option.some.inj hf)]; exact hw)
  clear ej
  obtain ⟨b11, eb, hf⟩ := bL_e hf
  have RL11 : ∀ (n : Nat) z, (u1 g104_11) z = some S2 → ∀ (l4_8 : Int32) (S_9 : pS) (H : Heap) (locs : List Loc) (ls : Array Slot), Wd Z s S_9 H locs → lv_has ls 9 [(0, .ref (za Z k0)), (1, .ref (za Z k1)), (2, .int a2), (3, .int a3), (4, .int l4_8)] → bPn b11 n (l4_8, S_9) = some z → W p l e { frames := 7, cells := 0, slots := 0, locals := 161 } s m args below meth c H locs 0 0 Q (F0 m 11 ls []) := by
    intro n
    induction n with
    | zero =>
      intro z hg l4_8 S_9 H locs ls hw hl hz
      exact bPn_0 hz
    | succ n ih =>
      intro z hg l4_8 S_9 H locs ls hw hl hz
      obtain ⟨q_10, hf, hz⟩ := bPn_e hz
      have hf := u2_e ((congrFun eb _).symm.trans hf)
      refine lv_iload hx hb dX9_week_11 (lv_at hl 4 rfl) ?_
      refine lv_aload_n hx hb dX9_week_13 rfl (lv_at hl 0 rfl) ?_
      obtain ⟨k_11, ek_11, hf⟩ := bO_ne hf
      obtain ⟨hg1, hf⟩ := bG_e hf
      have hk_11 := tr2 h132 h133 hg1
      refine gMs G hw h0 KX9 2 (by decide) rfl ek_11 fl_X9_11 dX9_week_14 ?_
      refine aL G hw (t := 3) hk_11 rfl (v := 6300) (by decide) dX9_week_17 ?_
      refine lv_icmp_ge (tgt := 104) hx hb dX9_week_18 (by decide) (fun c_29 => ?_) (fun c_29 => ?_)
      · have hf := (if_pos c_29).symm.trans hf
        obtain rfl := Option.some.inj hf
        obtain rfl := Option.some.inj (hz : some _ = some _)
        exact R104_11 _ _ _ _ hw (lv_sub hl [0] rfl) hg
      · have hf := (if_neg c_29).symm.trans hf
        refine lv_aload_n hx hb dX9_week_21 rfl (lv_at hl 0 rfl) ?_
        obtain ⟨k_12, ek_12, hf⟩ := bO_ne hf
        obtain ⟨hg1, hf⟩ := bG_e hf
        have hk_12 := tr2 h132 h133 hg1
        refine gMs G hw h0 KX9 2 (by decide) rfl ek_12 fl_X9_11 dX9_week_22 ?_
        refine lv_iload hx hb dX9_week_25 (lv_at hl 4 rfl) ?_
        obtain ⟨hg_13, hf⟩ := bG_e hf
        refine aJ G hw hk_12 hg_13 (j := l4_8.toNatClampNeg) rfl dX9_week_27 ?_
        obtain ⟨l5_14, el5_14, hf⟩ := bL_e hf
        refine top_l el5_14 ?_
        refine lv_lstore (lv' := [(5, .long l5_14), (0, .ref (za Z k0)), (1, .ref (za Z k1)), (2, .int a2), (3, .int a3), (4, .int l4_8)]) hx hb dX9_week_28 hl (by decide) rfl (fun ls hl => ?_)
        refine lv_iconst hx hb dX9_week_30 ki_0 ?_
        refine lv_istore (lv' := [(7, .int 0), (5, .long l5_14), (0, .ref (za Z k0)), (1, .ref (za Z k1)), (2, .int a2), (3, .int a3), (4, .int l4_8)]) hx hb dX9_week_31 hl (by decide) rfl (fun ls hl => ?_)
        obtain ⟨g98_33, ej, hf⟩ := bL_e hf
        have R98_33 : ∀ (S_15 : pS) (H : Heap) (locs : List Loc) (ls : Array Slot), Wd Z s S_15 H locs → lv_has ls 9 [(0, .ref (za Z k0)), (1, .ref (za Z k1)), (2, .int a2), (3, .int a3), (4, .int l4_8)] → g98_33 S_15 = some q_10 → W p l e { frames := 7, cells := 0, slots := 0, locals := 161 } s m args below meth c H locs 0 0 Q (F0 m 98 ls []) := by
          intro S_15 H locs ls hw hl hf
          have hf := (congrFun ej S_15).symm.trans hf
          obtain ⟨l4_16, el4_16, hf⟩ := bL_e hf
          refine lv_iinc (v := l4_16) (lv' := [(4, .int l4_16), (0, .ref (za Z k0)), (1, .ref (za Z k1)), (2, .int a2), (3, .int a3)]) hx hb dX9_week_98 hl (k := 4) rfl (by rw [el4_16]; rfl) (by decide) rfl (fun ls hl => ?_)
          refine lv_goto (tgt := 11) hx hb dX9_week_101 (by decide) ?_
          obtain rfl := Option.some.inj hf
          exact ih _ hg _ _ _ _ _ hw (lv_sub hl [1, 2, 3, 4, 0] rfl) hz
        clear ej
        obtain ⟨b33, eb, hf⟩ := bL_e hf
        have RL33 : ∀ (n : Nat) z, (u1 g98_33) z = some q_10 → ∀ (l5_17 : Int64) (l7_18 : Int32) (S_19 : pS) (H : Heap) (locs : List Loc) (ls : Array Slot), Wd Z s S_19 H locs → lv_has ls 9 [(0, .ref (za Z k0)), (1, .ref (za Z k1)), (2, .int a2), (3, .int a3), (4, .int l4_8), (5, .long l5_17), (7, .int l7_18)] → bPn b33 n (l5_17, l7_18, S_19) = some z → W p l e { frames := 7, cells := 0, slots := 0, locals := 161 } s m args below meth c H locs 0 0 Q (F0 m 33 ls []) := by
          intro n
          induction n with
          | zero =>
            intro z hg l5_17 l7_18 S_19 H locs ls hw hl hz
            exact bPn_0 hz
          | succ n ih =>
            intro z hg l5_17 l7_18 S_19 H locs ls hw hl hz
            obtain ⟨q_20, hf, hz⟩ := bPn_e hz
            have hf := u3_e ((congrFun eb _).symm.trans hf)
            refine lv_iload hx hb dX9_week_33 (lv_at hl 6 rfl) ?_
            refine lv_bipush hx hb dX9_week_35 kb_16 ?_
            refine lv_icmp_ge (tgt := 98) hx hb dX9_week_37 (by decide) (fun c_28 => ?_) (fun c_28 => ?_)
            · have hf := (if_pos c_28).symm.trans hf
              obtain rfl := Option.some.inj hf
              obtain rfl := Option.some.inj (hz : some _ = some _)
              exact R98_33 _ _ _ _ hw (lv_sub hl [0, 1, 2, 3, 4] rfl) hg
            · have hf := (if_neg c_28).symm.trans hf
              refine lv_lload hx hb dX9_week_40 (lv_at hl 5 rfl) ?_
              refine lv_lconst (v := 0) hx hb dX9_week_42 (by decide) ?_
              refine W.lcmp hx hb dX9_week_43 ?_
              refine lv_if_eq (tgt := 98) hx hb dX9_week_44 (by decide) (fun c_27 => ?_) (fun c_27 => ?_)
              · have hf := (if_pos ((lg_cmp_eq _ _).mp c_27)).symm.trans hf
                obtain rfl := Option.some.inj hf
                obtain rfl := Option.some.inj (hz : some _ = some _)
                exact R98_33 _ _ _ _ hw (lv_sub hl [0, 1, 2, 3, 4] rfl) hg
              · have hf := (if_neg (fun q => c_27 ((lg_cmp_eq _ _).mpr q))).symm.trans hf
                refine lv_lload hx hb dX9_week_47 (lv_at hl 5 rfl) ?_
                refine lv_ldc2 hx hb hown (hts _ cl_X9_32) dX9_week_49 ?_
                refine lv_land hx hb dX9_week_52 ?_
                refine lv_l2i hx hb dX9_week_53 rfl ?_
                obtain ⟨l8_21, el8_21, hf⟩ := bL_e hf
                refine top_i el8_21 ?_
                refine lv_istore (lv' := [(8, .int l8_21), (0, .ref (za Z k0)), (1, .ref (za Z k1)), (2, .int a2), (3, .int a3), (4, .int l4_8), (5, .long l5_17), (7, .int l7_18)]) hx hb dX9_week_54 hl (by decide) rfl (fun ls hl => ?_)
                refine lv_iload hx hb dX9_week_56 (lv_at hl 0 rfl) ?_
                obtain ⟨j86, ej, hf⟩ := bL_e hf
                have R86 : ∀ (S_22 : pS) (H : Heap) (locs : List Loc) (ls : Array Slot), Wd Z s S_22 H locs → lv_has ls 9 [(0, .ref (za Z k0)), (1, .ref (za Z k1)), (2, .int a2), (3, .int a3), (4, .int l4_8), (5, .long l5_17), (7, .int l7_18)] → j86 S_22 = some q_20 → W p l e { frames := 7, cells := 0, slots := 0, locals := 161 } s m args below meth c H locs 0 0 Q (F0 m 86 ls []) := by
                  intro S_22 H locs ls hw hl hf
                  have hf := (congrFun ej S_22).symm.trans hf
                  refine lv_lload hx hb dX9_week_86 (lv_at hl 5 rfl) ?_
                  refine lv_iconst hx hb dX9_week_88 ki_4 ?_
                  refine lv_lushr hx hb dX9_week_89 rfl ?_
                  obtain ⟨l5_23, el5_23, hf⟩ := bL_e hf
                  refine top_l el5_23 ?_
                  refine lv_lstore (lv' := [(5, .long l5_23), (0, .ref (za Z k0)), (1, .ref (za Z k1)), (2, .int a2), (3, .int a3), (4, .int l4_8), (7, .int l7_18)]) hx hb dX9_week_90 hl (by decide) rfl (fun ls hl => ?_)
                  obtain ⟨l7_24, el7_24, hf⟩ := bL_e hf
                  refine lv_iinc (v := l7_24) (lv' := [(7, .int l7_24), (5, .long l5_23), (0, .ref (za Z k0)), (1, .ref (za Z k1)), (2, .int a2), (3, .int a3), (4, .int l4_8)]) hx hb dX9_week_92 hl (k := 6) rfl (by rw [el7_24]; rfl) (by decide) rfl (fun ls hl => ?_)
                  refine lv_goto (tgt := 33) hx hb dX9_week_95 (by decide) ?_
                  obtain rfl := Option.some.inj hf
                  exact ih _ hg _ _ _ _ _ _ hw (lv_sub hl [2, 3, 4, 5, 6, 1, 0] rfl) hz
                clear ej
                refine lv_if_eq (tgt := 86) hx hb dX9_week_58 (by decide) (fun c_26 => ?_) (fun c_26 => ?_)
                · have hf := (if_pos c_26).symm.trans hf
                  exact R86 _ _ _ _ hw (lv_sub hl [1, 2, 3, 4, 5, 6, 7] rfl) hf
                · have hf := (if_neg c_26).symm.trans hf
                  refine lv_aload_n hx hb dX9_week_61 rfl (lv_at hl 1 rfl) ?_
                  refine lv_aload_n hx hb dX9_week_62 rfl (lv_at hl 2 rfl) ?_
                  refine lv_iload_n hx hb dX9_week_63 rfl (lv_at hl 3 rfl) ?_
                  refine lv_iload_n hx hb dX9_week_64 rfl (lv_at hl 4 rfl) ?_
                  refine lv_iload hx hb dX9_week_65 (lv_at hl 5 rfl) ?_
                  refine lv_bipush hx hb dX9_week_67 kb_63 ?_
                  refine lv_idiv hx hb dX9_week_69 (by decide) ?_
                  refine lv_iload hx hb dX9_week_70 (lv_at hl 5 rfl) ?_
                  refine lv_bipush hx hb dX9_week_72 kb_63 ?_
                  refine lv_irem hx hb dX9_week_74 (by decide) ?_
                  refine lv_bipush hx hb dX9_week_75 kb_16 ?_
                  refine lv_imul hx hb dX9_week_77 ?_
                  refine lv_iload hx hb dX9_week_78 (lv_at hl 7 rfl) ?_
                  refine lv_iadd hx hb dX9_week_80 ?_
                  refine lv_iload hx hb dX9_week_81 (lv_at hl 0 rfl) ?_
                  obtain ⟨S_25, hS_25, hf⟩ := bB_e hf
                  refine kVv (rest := []) G hw (wX9_spread hZ S_19 k0 k1 a2 a3 (l4_8 / 63) (((l4_8 - l4_8 / 63 * 63) * 16) + l7_18) l8_21 S_25 h0 h1 h132 h133 hS_25) cw_X9_34 h0 KX9 ⟨Nat.le_of_ble_eq_true rfl, Nat.le_of_ble_eq_true rfl⟩ rfl hl.1 rfl (Nat.le_of_ble_eq_true rfl) ⟨Nat.le_refl _, Nat.le_refl _⟩ dX9_week_83 (fun H locs hw => ?_)
                  exact R86 _ _ _ _ hw (lv_sub hl [1, 2, 3, 4, 5, 6, 7] rfl) hf
        clear eb
        obtain ⟨z, hz, hf⟩ := bB_e hf
        obtain ⟨n, hz⟩ := bP_e hz
        exact RL33 n z hf _ _ _ _ _ _ hw (lv_sub hl [2, 3, 4, 5, 6, 1, 0] rfl) hz
  clear eb
  obtain ⟨z, hz, hf⟩ := bB_e hf
  obtain ⟨n, hz⟩ := bP_e hz
  exact RL11 n z hf _ _ _ _ _ hw (lv_sub hl [1, 2, 3, 4, 0] rfl) hz
noncomputable def F11_train (S : pS) (a1 : Int32) (a2 : Int32) (a3 : Int32) (a4 : Int32) : Option (Int32 × pS) :=
  bB (F10_one S 1 a1) fun r_1 =>
  bO r_1 (
    some (((-1) : Int32), S)) fun o_2 =>
  if (F11_within a2 1 12) = 0 then
    some (((-1) : Int32), S)
  else
    if (F11_within a3 0 1000) = 0 then
      some (((-1) : Int32), S)
    else
      if (F11_within a4 0 1) = 0 then
        some (((-1) : Int32), S)
      else
        bG (pmu (S 0 7) = some 131) <|
        bL (fun (S_3 : pS) =>
          bG (pmu (S_3 0 7) = some 131) <|
          bB (F9_begin S_3 131 (S_3 o_2 0) (S_3 o_2 1)) fun S_4 =>
          bL (fun (S_5 : pS) =>
            bG (pmu (S_5 0 7) = some 131) <|
            bB (F9_judge S_5 131) fun S_6 =>
            if a4 = 0 then
              bG (pmu (S_6 0 7) = some 131) <|
              some (S_6 131 0, S_6)
            else
              bG (pmu (S_6 0 7) = some 131) <|
              some (S_6 131 1, S_6)) fun g115_86 =>
          bL (u2 fun (l6_8 : Int32) (S_9 : pS) =>
            if a2 ≤ l6_8 then
              some (.inr S_9)
            else
              bG (pmu (S_9 0 7) = some 131) <|
              bB (F9_week S_9 131 22 l6_8 a3) fun S_11 =>
              bL (l6_8 + 1) fun l6_12 =>
              some (.inl (l6_12, S_11))) fun b86 =>
          bB (bP b86 ((0 : Int32), S_4)) (u1 g115_86)) fun j66 =>
        j66 S
set_option maxRecDepth 100000 in
set_option maxHeartbeats 4000000 in
theorem wX11_train {l : Launch} {Z : pZ}  (hZ : CC Z) (S : pS) (a1 : Int32) (a2 : Int32) (a3 : Int32) (a4 : Int32) (r : Int32) (S2 : pS) (h0 : isA Z K_PF 0) (h131 : isA Z K_Training 131) (h132 : isA Z K_J6300 132) (h133 : isA Z K_J6300 133) (hf : F11_train S a1 a2 a3 a4 = some (r, S2)) : CI l Z yX11_train cX11_train 7 .int 8 189 [.ref (za Z 0), .int a1, .int a2, .int a3, .int a4] S r S2 := by
  unfold F11_train at hf
  refine eI (own := RX11) (by decide) rfl (Nat.le_of_ble_eq_true rfl) (fun p e s m args below meth c Q ls G hl hw hret => ?_)
  obtain ⟨hx, hb, hml, hown, hts⟩ := G.1
  have hl : lv_has ls 7 [(0, .ref (za Z 0)), (1, .int a1), (2, .int a2), (3, .int a3), (4, .int a4)] := hl
  refine lv_aload_n hx hb dX11_train_0 rfl (lv_at hl 0 rfl) ?_
  refine gF G hw h0 KX11 0 (k2 := 1) rfl (by decide) rfl fl_X11_10 dX11_train_1 ?_
  refine lv_iload_n hx hb dX11_train_4 rfl (lv_at hl 1 rfl) ?_
  obtain ⟨r_1, hr_1, hf⟩ := bB_e hf
  refine kVq (rest := []) G hw (wX10_one hZ S 1 a1 r_1 (sub_PF_now hZ h0) hr_1) cw_X11_80 (sub_PF_now hZ h0) KX10 ⟨Nat.le_of_ble_eq_true rfl, Nat.le_of_ble_eq_true rfl⟩ rfl hl.1 rfl (Nat.le_of_ble_eq_true rfl) ⟨Nat.le_refl _, Nat.le_refl _⟩ dX11_train_5 (fun H locs hw => ?_)
  refine astQ (lv' := [(5, va_rf (Option.map (za Z) r_1)), (0, .ref (za Z 0)), (1, .int a1), (2, .int a2), (3, .int a3), (4, .int a4)]) hx hb dX11_train_8 hl (by decide) rfl (fun ls hl => ?_)
  refine aldQ hx hb dX11_train_10 (lv_at hl 0 rfl) ?_
  refine ifnQ (tgt := 46) hx hb dX11_train_12 (by decide) (fun e_17 => ?_) (fun o_2 e_17 => ?_)
  · subst e_17
    have hf := bO_n rfl hf
    refine lv_iconst hx hb dX11_train_46 ki_m1 ?_
    obtain ⟨e1, e2⟩ := Prod.mk.inj (Option.some.inj hf)
    exact hret _ _ _ _ _ dX11_train_47 e1 (by rw [← e2]; exact hw)
  · subst e_17
    have hf := bO_s rfl hf
    have ho_2 := ret_X10_one hZ S 1 a1 (sub_PF_now hZ h0) (hr_1.trans (congrArg some rfl))
    refine lv_iload_n hx hb dX11_train_15 rfl (lv_at hl 3 rfl) ?_
    refine lv_iconst hx hb dX11_train_16 ki_1 ?_
    refine lv_bipush hx hb dX11_train_17 kb_12 ?_
    refine kSi (rest := []) G hw (wX11_within hZ S a2 1 12 (F11_within a2 1 12) rfl) cw_X11_51 ⟨Nat.le_of_ble_eq_true rfl, Nat.le_of_ble_eq_true rfl⟩ rfl hl.1 rfl (Nat.le_of_ble_eq_true rfl) ⟨Nat.le_refl _, Nat.le_refl _⟩ dX11_train_19 (fun H locs hw => ?_)
    refine lv_if_eq (tgt := 46) hx hb dX11_train_22 (by decide) (fun c_16 => ?_) (fun c_16 => ?_)
    · have hf := (if_pos c_16).symm.trans hf
      refine lv_iconst hx hb dX11_train_46 ki_m1 ?_
      obtain ⟨e1, e2⟩ := Prod.mk.inj (Option.some.inj hf)
      exact hret _ _ _ _ _ dX11_train_47 e1 (by rw [← e2]; exact hw)
    · have hf := (if_neg c_16).symm.trans hf
      refine lv_iload_n hx hb dX11_train_25 rfl (lv_at hl 4 rfl) ?_
      refine lv_iconst hx hb dX11_train_26 ki_0 ?_
      refine lv_sipush hx hb dX11_train_27 ks_1000 ?_
      refine kSi (rest := []) G hw (wX11_within hZ S a3 0 1000 (F11_within a3 0 1000) rfl) cw_X11_51 ⟨Nat.le_of_ble_eq_true rfl, Nat.le_of_ble_eq_true rfl⟩ rfl hl.1 rfl (Nat.le_of_ble_eq_true rfl) ⟨Nat.le_refl _, Nat.le_refl _⟩ dX11_train_30 (fun H locs hw => ?_)
      refine lv_if_eq (tgt := 46) hx hb dX11_train_33 (by decide) (fun c_15 => ?_) (fun c_15 => ?_)
      · have hf := (if_pos c_15).symm.trans hf
        refine lv_iconst hx hb dX11_train_46 ki_m1 ?_
        obtain ⟨e1, e2⟩ := Prod.mk.inj (Option.some.inj hf)
        exact hret _ _ _ _ _ dX11_train_47 e1 (by rw [← e2]; exact hw)
      · have hf := (if_neg c_15).symm.trans hf
        refine lv_iload hx hb dX11_train_36 (lv_at hl 5 rfl) ?_
        refine lv_iconst hx hb dX11_train_38 ki_0 ?_
        refine lv_iconst hx hb dX11_train_39 ki_1 ?_
        refine kSi (rest := []) G hw (wX11_within hZ S a4 0 1 (F11_within a4 0 1) rfl) cw_X11_51 ⟨Nat.le_of_ble_eq_true rfl, Nat.le_of_ble_eq_true rfl⟩ rfl hl.1 rfl (Nat.le_of_ble_eq_true rfl) ⟨Nat.le_refl _, Nat.le_refl _⟩ dX11_train_40 (fun H locs hw => ?_)
        refine lv_if_ne (tgt := 48) hx hb dX11_train_43 (by decide) (fun c_14 => ?_) (fun c_14 => ?_)
        · have hf := (if_neg c_14).symm.trans hf
          refine lv_aload_n hx hb dX11_train_48 rfl (lv_at hl 1 rfl) ?_
          obtain ⟨hg1, hf⟩ := bG_e hf
          refine gMs G hw h0 KX11 7 (by decide) rfl hg1 fl_X11_401 dX11_train_49 ?_
          obtain ⟨j66, ej, hf⟩ := bL_e hf
          have R66 : ∀ (S_3 : pS) (H : Heap) (locs : List Loc) (ls : Array Slot), Wd Z s S_3 H locs → lv_has ls 7 [(0, .ref (za Z 0)), (2, .int a2), (3, .int a3), (4, .int a4), (5, .ref (za Z o_2))] → j66 S_3 = some (r, S2) → W p l e { frames := 8, cells := 0, slots := 0, locals := 189 } s m args below meth c H locs 0 0 Q (F0 m 66 ls []) := by
            intro S_3 H locs ls hw hl hf
            have hf := (congrFun ej S_3).symm.trans hf
            refine lv_aload_n hx hb dX11_train_66 rfl (lv_at hl 0 rfl) ?_
            obtain ⟨hg1, hf⟩ := bG_e hf
            refine gMs G hw h0 KX11 7 (by decide) rfl hg1 fl_X11_401 dX11_train_67 ?_
            refine lv_aload hx hb dX11_train_70 (lv_at hl 4 rfl) ?_
            refine gI G hw ho_2 KX8 0 (by decide) rfl fl_X11_84 dX11_train_72 ?_
            refine lv_aload hx hb dX11_train_75 (lv_at hl 4 rfl) ?_
            refine gI G hw ho_2 KX8 1 (by decide) rfl fl_X11_89 dX11_train_77 ?_
            obtain ⟨S_4, hS_4, hf⟩ := bB_e hf
            refine kVv (rest := []) G hw (wX9_begin hZ S_3 131 (S_3 o_2 0) (S_3 o_2 1) S_4 h131 h132 h133 hS_4) cw_X11_407 h131 KX9 ⟨Nat.le_of_ble_eq_true rfl, Nat.le_of_ble_eq_true rfl⟩ rfl hl.1 rfl (Nat.le_of_ble_eq_true rfl) ⟨Nat.le_refl _, Nat.le_refl _⟩ dX11_train_80 (fun H locs hw => ?_)
            refine lv_iconst hx hb dX11_train_83 ki_0 ?_
            refine lv_istore (lv' := [(6, .int 0), (0, .ref (za Z 0)), (2, .int a2), (3, .int a3), (4, .int a4), (5, .ref (za Z o_2))]) hx hb dX11_train_84 hl (by decide) rfl (fun ls hl => ?_)
            obtain ⟨g115_86, ej, hf⟩ := bL_e hf
            have R115_86 : ∀ (S_5 : pS) (H : Heap) (locs : List Loc) (ls : Array Slot), Wd Z s S_5 H locs → lv_has ls 7 [(0, .ref (za Z 0)), (4, .int a4)] → g115_86 S_5 = some (r, S2) → W p l e { frames := 8, cells := 0, slots := 0, locals := 189 } s m args below meth c H locs 0 0 Q (F0 m 115 ls []) := by
              intro S_5 H locs ls hw hl hf
              have hf := (congrFun ej S_5).symm.trans hf
              refine lv_aload_n hx hb dX11_train_115 rfl (lv_at hl 0 rfl) ?_
              obtain ⟨hg1, hf⟩ := bG_e hf
              refine gMs G hw h0 KX11 7 (by decide) rfl hg1 fl_X11_401 dX11_train_116 ?_
              obtain ⟨S_6, hS_6, hf⟩ := bB_e hf
              refine kVv (rest := []) G hw (wX9_judge hZ S_5 131 S_6 h131 h132 h133 hS_6) cw_X11_413 h131 KX9 ⟨Nat.le_of_ble_eq_true rfl, Nat.le_of_ble_eq_true rfl⟩ rfl hl.1 rfl (Nat.le_of_ble_eq_true rfl) ⟨Nat.le_refl _, Nat.le_refl _⟩ dX11_train_119 (fun H locs hw => ?_)
              refine lv_iload hx hb dX11_train_122 (lv_at hl 1 rfl) ?_
              refine lv_if_ne (tgt := 137) hx hb dX11_train_124 (by decide) (fun c_7 => ?_) (fun c_7 => ?_)
              · have hf := (if_neg c_7).symm.trans hf
                refine lv_aload_n hx hb dX11_train_137 rfl (lv_at hl 0 rfl) ?_
                obtain ⟨hg1, hf⟩ := bG_e hf
                refine gMs G hw h0 KX11 7 (by decide) rfl hg1 fl_X11_401 dX11_train_138 ?_
                refine gI G hw h131 KX9 1 (by decide) rfl fl_X11_417 dX11_train_141 ?_
                obtain ⟨e1, e2⟩ := Prod.mk.inj (Option.some.inj hf)
                exact hret _ _ _ _ _ dX11_train_144 e1 (by rw [← e2]; exact hw)
              · have hf := (if_pos c_7).symm.trans hf
                refine lv_aload_n hx hb dX11_train_127 rfl (lv_at hl 0 rfl) ?_
                obtain ⟨hg1, hf⟩ := bG_e hf
                refine gMs G hw h0 KX11 7 (by decide) rfl hg1 fl_X11_401 dX11_train_128 ?_
                refine gI G hw h131 KX9 0 (by decide) rfl fl_X11_416 dX11_train_131 ?_
                refine lv_goto (tgt := 144) hx hb dX11_train_134 (by decide) ?_
                obtain ⟨e1, e2⟩ := Prod.mk.inj (Option.some.inj hf)
                exact hret _ _ _ _ _ dX11_train_144 e1 (by rw [← e2]; exact hw)
            clear ej
            obtain ⟨b86, eb, hf⟩ := bL_e hf
            have RL86 : ∀ (n : Nat) z, (u1 g115_86) z = some (r, S2) → ∀ (l6_8 : Int32) (S_9 : pS) (H : Heap) (locs : List Loc) (ls : Array Slot), Wd Z s S_9 H locs → lv_has ls 7 [(0, .ref (za Z 0)), (2, .int a2), (3, .int a3), (4, .int a4), (6, .int l6_8)] → bPn b86 n (l6_8, S_9) = some z → W p l e { frames := 8, cells := 0, slots := 0, locals := 189 } s m args below meth c H locs 0 0 Q (F0 m 86 ls []) := by
              intro n
              induction n with
              | zero =>
                intro z hg l6_8 S_9 H locs ls hw hl hz
                exact bPn_0 hz
              | succ n ih =>
                intro z hg l6_8 S_9 H locs ls hw hl hz
                obtain ⟨q_10, hf, hz⟩ := bPn_e hz
                have hf := u2_e ((congrFun eb _).symm.trans hf)
                refine lv_iload hx hb dX11_train_86 (lv_at hl 4 rfl) ?_
                refine lv_iload_n hx hb dX11_train_88 rfl (lv_at hl 1 rfl) ?_
                refine lv_icmp_ge (tgt := 115) hx hb dX11_train_89 (by decide) (fun c_13 => ?_) (fun c_13 => ?_)
                · have hf := (if_pos c_13).symm.trans hf
                  obtain rfl := Option.some.inj hf
                  obtain rfl := Option.some.inj (hz : some _ = some _)
                  exact R115_86 _ _ _ _ hw (lv_sub hl [0, 3] rfl) hg
                · have hf := (if_neg c_13).symm.trans hf
                  refine lv_aload_n hx hb dX11_train_92 rfl (lv_at hl 0 rfl) ?_
                  obtain ⟨hg1, hf⟩ := bG_e hf
                  refine gMs G hw h0 KX11 7 (by decide) rfl hg1 fl_X11_401 dX11_train_93 ?_
                  refine lv_aload_n hx hb dX11_train_96 rfl (lv_at hl 0 rfl) ?_
                  refine gF G hw h0 KX11 0 (k2 := 1) rfl (by decide) rfl fl_X11_10 dX11_train_97 ?_
                  refine gF G hw (sub_PF_now hZ h0) KX10 16 (k2 := 22) rfl (by decide) rfl fl_X11_136 dX11_train_100 ?_
                  refine lv_iload hx hb dX11_train_103 (lv_at hl 4 rfl) ?_
                  refine lv_iload_n hx hb dX11_train_105 rfl (lv_at hl 2 rfl) ?_
                  obtain ⟨S_11, hS_11, hf⟩ := bB_e hf
                  refine kVv (rest := []) G hw (wX9_week hZ S_9 131 22 l6_8 a3 S_11 h131 (sub_World_training hZ (sub_PF_now hZ h0)) h132 h133 hS_11) cw_X11_409 h131 KX9 ⟨Nat.le_of_ble_eq_true rfl, Nat.le_of_ble_eq_true rfl⟩ rfl hl.1 rfl (Nat.le_of_ble_eq_true rfl) ⟨Nat.le_refl _, Nat.le_refl _⟩ dX11_train_106 (fun H locs hw => ?_)
                  obtain ⟨l6_12, el6_12, hf⟩ := bL_e hf
                  refine lv_iinc (v := l6_12) (lv' := [(6, .int l6_12), (0, .ref (za Z 0)), (2, .int a2), (3, .int a3), (4, .int a4)]) hx hb dX11_train_109 hl (k := 4) rfl (by rw [el6_12]; rfl) (by decide) rfl (fun ls hl => ?_)
                  refine lv_goto (tgt := 86) hx hb dX11_train_112 (by decide) ?_
                  obtain rfl := Option.some.inj hf
                  exact ih _ hg _ _ _ _ _ hw (lv_sub hl [1, 2, 3, 4, 0] rfl) hz
            clear eb
            obtain ⟨z, hz, hf⟩ := bB_e hf
            obtain ⟨n, hz⟩ := bP_e hz
            exact RL86 n z hf _ _ _ _ _ hw (lv_sub hl [1, 2, 3, 4, 0] rfl) hz
          clear ej
          refine lv_ifnonnull (tgt := 66) hx hb dX11_train_52 (by decide) ?_
          exact R66 _ _ _ _ hw (lv_sub hl [1, 3, 4, 5, 0] rfl) hf
        · have hf := (if_pos c_14).symm.trans hf
          refine lv_iconst hx hb dX11_train_46 ki_m1 ?_
          obtain ⟨e1, e2⟩ := Prod.mk.inj (Option.some.inj hf)
          exact hret _ _ _ _ _ dX11_train_47 e1 (by rw [← e2]; exact hw)
noncomputable def F11_would (S : pS) (a1 : Int32) : Option (Int32 × pS) :=
  bB (F10_one S 1 a1) fun r_1 =>
  bO r_1 (
    some (((-1) : Int32), S)) fun o_2 =>
  bL (S o_2 1) fun l3_3 =>
  bL (S o_2 2) fun l4_4 =>
  bL (S o_2 3) fun l5_5 =>
  bL (S o_2 5) fun l6_6 =>
  bL (fun (t_7 : Int32) =>
    bL (fun (l4_8 : Int32) (S_9 : pS) =>
      some (l4_8, S_9)) fun g257_74 =>
    bL (u6 fun (l3_10 : Int32) (l4_11 : Int32) (l5_12 : Int32) (l6_13 : Int32) (l8_14 : Int32) (S_15 : pS) =>
      if 6 ≤ l8_14 then
        some (.inr (l4_11, S_15))
      else
        bB (F8_wouldThrow S_15 o_2 l6_13 l4_11 l3_10) fun r_17 =>
        bL (fun (l3_18 : Int32) (l4_19 : Int32) (l5_20 : Int32) (S_21 : pS) =>
          bL (jmin (S_21 o_2 4) (l6_13 + 1)) fun l6_22 =>
          bL (l8_14 + 1) fun l8_23 =>
          some (.inl (l3_18, l4_19, l5_20, l6_22, l8_23, S_21))) fun j238 =>
        if r_17 = 0 then
          j238 l3_10 l4_11 l5_12 S_15
        else
          bB (F8_order S_15 o_2 l6_13 0) fun r_24 =>
          bB (F8_order S_15 o_2 l6_13 3) fun r_25 =>
          bL (jmin (r_24 + r_25) (S_15 o_2 0)) fun l9_26 =>
          bB (F8_order S_15 o_2 l6_13 1) fun r_27 =>
          bL (F0_ask S_15 63 o_2 l8_14) fun S_28 =>
          bB (F8_order S_28 o_2 l6_13 3) fun r_29 =>
          bL (F0_askThrow S_28 63 l9_26 r_29 r_27) fun S_30 =>
          bL (F0_askState S_30 63 l3_10 l5_12) fun S_31 =>
          bL (F0_askBest S_31 63 l4_11) fun S_32 =>
          bB2 (F0_tell S_32 63 15 1) fun r_33 S_34 =>
          bL (jmin 1000 (l3_10 + r_33)) fun l3_35 =>
          bL (l5_12 + 1) fun l5_36 =>
          bB (F8_order S_34 o_2 l6_13 2) fun r_37 =>
          bB2 (F7_goodFar S_34 59 1 l9_26 r_27 r_37 (S_34 2 0)) fun r_38 S_39 =>
          bL (jmax l4_11 r_38) fun l4_40 =>
          j238 l3_35 l4_40 l5_36 S_39) fun b74 =>
    bB (bP b74 (l3_3, l4_4, l5_5, l6_6, t_7, S)) (u2 g257_74)) fun j68 =>
  if (S 1 3) ≤ a1 then
    j68 (S 1 2)
  else
    j68 ((S 1 2) + 1)
set_option maxRecDepth 100000 in
set_option maxHeartbeats 4000000 in
theorem wX11_would {l : Launch} {Z : pZ}  (hZ : CC Z) (S : pS) (a1 : Int32) (r : Int32) (S2 : pS) (h0 : isA Z K_PF 0) (hf : F11_would S a1 = some (r, S2)) : CI l Z yX11_would cX11_would 11 .int 9 205 [.ref (za Z 0), .int a1] S r S2 := by
  unfold F11_would at hf
  refine eI (own := RX11) (by decide) rfl (Nat.le_of_ble_eq_true rfl) (fun p e s m args below meth c Q ls G hl hw hret => ?_)
  obtain ⟨hx, hb, hml, hown, hts⟩ := G.1
  have hl : lv_has ls 11 [(0, .ref (za Z 0)), (1, .int a1)] := hl
  refine lv_aload_n hx hb dX11_would_0 rfl (lv_at hl 0 rfl) ?_
  refine gF G hw h0 KX11 0 (k2 := 1) rfl (by decide) rfl fl_X11_10 dX11_would_1 ?_
  refine lv_iload_n hx hb dX11_would_4 rfl (lv_at hl 1 rfl) ?_
  obtain ⟨r_1, hr_1, hf⟩ := bB_e hf
  refine kVq (rest := []) G hw (wX10_one hZ S 1 a1 r_1 (sub_PF_now hZ h0) hr_1) cw_X11_80 (sub_PF_now hZ h0) KX10 ⟨Nat.le_of_ble_eq_true rfl, Nat.le_of_ble_eq_true rfl⟩ rfl hl.1 rfl (Nat.le_of_ble_eq_true rfl) ⟨Nat.le_refl _, Nat.le_refl _⟩ dX11_would_5 (fun H locs hw => ?_)
  refine astQn (lv' := [(2, va_rf (Option.map (za Z) r_1)), (0, .ref (za Z 0)), (1, .int a1)]) hx hb dX11_would_8 rfl hl (by decide) rfl (fun ls hl => ?_)
  refine aldQn hx hb dX11_would_9 rfl (lv_at hl 0 rfl) ?_
  refine ifnnQ (tgt := 15) hx hb dX11_would_10 (by decide) (fun e_44 => ?_) (fun o_2 e_44 => ?_)
  · subst e_44
    have hf := bO_n rfl hf
    refine lv_iconst hx hb dX11_would_13 ki_m1 ?_
    obtain ⟨e1, e2⟩ := Prod.mk.inj (Option.some.inj hf)
    exact hret _ _ _ _ _ dX11_would_14 e1 (by rw [← e2]; exact hw)
  · subst e_44
    have hf := bO_s rfl hf
    have ho_2 := ret_X10_one hZ S 1 a1 (sub_PF_now hZ h0) (hr_1.trans (congrArg some rfl))
    refine lv_aload_n hx hb dX11_would_15 rfl (lv_at hl 0 rfl) ?_
    refine gI G hw ho_2 KX8 1 (by decide) rfl fl_X11_89 dX11_would_16 ?_
    obtain ⟨l3_3, el3_3, hf⟩ := bL_e hf
    refine top_i el3_3 ?_
    refine lv_istore_n (lv' := [(3, .int l3_3), (2, .ref (za Z o_2)), (0, .ref (za Z 0)), (1, .int a1)]) hx hb dX11_would_19 rfl hl (by decide) rfl (fun ls hl => ?_)
    refine lv_aload_n hx hb dX11_would_20 rfl (lv_at hl 1 rfl) ?_
    refine gI G hw ho_2 KX8 2 (by decide) rfl fl_X11_250 dX11_would_21 ?_
    obtain ⟨l4_4, el4_4, hf⟩ := bL_e hf
    refine top_i el4_4 ?_
    refine lv_istore (lv' := [(4, .int l4_4), (3, .int l3_3), (2, .ref (za Z o_2)), (0, .ref (za Z 0)), (1, .int a1)]) hx hb dX11_would_24 hl (by decide) rfl (fun ls hl => ?_)
    refine lv_aload_n hx hb dX11_would_26 rfl (lv_at hl 2 rfl) ?_
    refine gI G hw ho_2 KX8 3 (by decide) rfl fl_X11_247 dX11_would_27 ?_
    obtain ⟨l5_5, el5_5, hf⟩ := bL_e hf
    refine top_i el5_5 ?_
    refine lv_istore (lv' := [(5, .int l5_5), (4, .int l4_4), (3, .int l3_3), (2, .ref (za Z o_2)), (0, .ref (za Z 0)), (1, .int a1)]) hx hb dX11_would_30 hl (by decide) rfl (fun ls hl => ?_)
    refine lv_aload_n hx hb dX11_would_32 rfl (lv_at hl 3 rfl) ?_
    refine gI G hw ho_2 KX8 5 (by decide) rfl fl_X11_167 dX11_would_33 ?_
    obtain ⟨l6_6, el6_6, hf⟩ := bL_e hf
    refine top_i el6_6 ?_
    refine lv_istore (lv' := [(6, .int l6_6), (5, .int l5_5), (4, .int l4_4), (3, .int l3_3), (2, .ref (za Z o_2)), (0, .ref (za Z 0)), (1, .int a1)]) hx hb dX11_would_36 hl (by decide) rfl (fun ls hl => ?_)
    refine lv_iload_n hx hb dX11_would_38 rfl (lv_at hl 6 rfl) ?_
    refine lv_aload_n hx hb dX11_would_39 rfl (lv_at hl 5 rfl) ?_
    refine gF G hw h0 KX11 0 (k2 := 1) rfl (by decide) rfl fl_X11_10 dX11_would_40 ?_
    refine gI G hw (sub_PF_now hZ h0) KX10 3 (by decide) rfl fl_X11_323 dX11_would_43 ?_
    obtain ⟨j68, ej, hf⟩ := bL_e hf
    have R68 : ∀ (t_7 : Int32) (H : Heap) (locs : List Loc) (ls : Array Slot), Wd Z s S H locs → lv_has ls 11 [(0, .ref (za Z 0)), (2, .ref (za Z o_2)), (3, .int l3_3), (4, .int l4_4), (5, .int l5_5), (6, .int l6_6)] → j68 t_7 = some (r, S2) → W p l e { frames := 9, cells := 0, slots := 0, locals := 205 } s m args below meth c H locs 0 0 Q (F0 m 68 ls [.int t_7]) := by
      intro t_7 H locs ls hw hl hf
      have hf := (congrFun ej t_7).symm.trans hf
      refine lv_istore (lv' := [(7, .int t_7), (0, .ref (za Z 0)), (2, .ref (za Z o_2)), (3, .int l3_3), (4, .int l4_4), (5, .int l5_5), (6, .int l6_6)]) hx hb dX11_would_68 hl (by decide) rfl (fun ls hl => ?_)
      refine lv_iload hx hb dX11_would_70 (lv_at hl 0 rfl) ?_
      refine lv_istore (lv' := [(8, .int t_7), (7, .int t_7), (0, .ref (za Z 0)), (2, .ref (za Z o_2)), (3, .int l3_3), (4, .int l4_4), (5, .int l5_5), (6, .int l6_6)]) hx hb dX11_would_72 hl (by decide) rfl (fun ls hl => ?_)
      obtain ⟨g257_74, ej, hf⟩ := bL_e hf
      have R257_74 : ∀ (l4_8 : Int32) (S_9 : pS) (H : Heap) (locs : List Loc) (ls : Array Slot), Wd Z s S_9 H locs → lv_has ls 11 [(4, .int l4_8)] → g257_74 l4_8 S_9 = some (r, S2) → W p l e { frames := 9, cells := 0, slots := 0, locals := 205 } s m args below meth c H locs 0 0 Q (F0 m 257 ls []) := by
        intro l4_8 S_9 H locs ls hw hl hf
        have hf := (congrFun (congrFun ej l4_8) S_9).symm.trans hf
        refine lv_iload hx hb dX11_would_257 (lv_at hl 0 rfl) ?_
        obtain ⟨e1, e2⟩ := Prod.mk.inj (Option.some.inj hf)
        exact hret _ _ _ _ _ dX11_would_259 e1 (by rw [← e2]; exact hw)
      clear ej
      obtain ⟨b74, eb, hf⟩ := bL_e hf
      have RL74 : ∀ (n : Nat) z, (u2 g257_74) z = some (r, S2) → ∀ (l3_10 : Int32) (l4_11 : Int32) (l5_12 : Int32) (l6_13 : Int32) (l8_14 : Int32) (S_15 : pS) (H : Heap) (locs : List Loc) (ls : Array Slot), Wd Z s S_15 H locs → lv_has ls 11 [(0, .ref (za Z 0)), (2, .ref (za Z o_2)), (3, .int l3_10), (4, .int l4_11), (5, .int l5_12), (6, .int l6_13), (8, .int l8_14)] → bPn b74 n (l3_10, l4_11, l5_12, l6_13, l8_14, S_15) = some z → W p l e { frames := 9, cells := 0, slots := 0, locals := 205 } s m args below meth c H locs 0 0 Q (F0 m 74 ls []) := by
        intro n
        induction n with
        | zero =>
          intro z hg l3_10 l4_11 l5_12 l6_13 l8_14 S_15 H locs ls hw hl hz
          exact bPn_0 hz
        | succ n ih =>
          intro z hg l3_10 l4_11 l5_12 l6_13 l8_14 S_15 H locs ls hw hl hz
          obtain ⟨q_16, hf, hz⟩ := bPn_e hz
          have hf := u6_e ((congrFun eb _).symm.trans hf)
          refine lv_iload hx hb dX11_would_74 (lv_at hl 6 rfl) ?_
          refine lv_bipush hx hb dX11_would_76 kb_6 ?_
          refine lv_icmp_ge (tgt := 257) hx hb dX11_would_78 (by decide) (fun c_42 => ?_) (fun c_42 => ?_)
          · have hf := (if_pos c_42).symm.trans hf
            obtain rfl := Option.some.inj hf
            obtain rfl := Option.some.inj (hz : some _ = some _)
            exact R257_74 _ _ _ _ _ hw (lv_sub hl [3] rfl) hg
          · have hf := (if_neg c_42).symm.trans hf
            refine lv_aload_n hx hb dX11_would_81 rfl (lv_at hl 1 rfl) ?_
            refine lv_iload hx hb dX11_would_82 (lv_at hl 5 rfl) ?_
            refine lv_iload hx hb dX11_would_84 (lv_at hl 3 rfl) ?_
            refine lv_iload_n hx hb dX11_would_86 rfl (lv_at hl 2 rfl) ?_
            obtain ⟨r_17, hr_17, hf⟩ := bB_e hf
            refine kVi (rest := []) G hw (wX8_wouldThrow hZ S_15 o_2 l6_13 l4_11 l3_10 r_17 ho_2 hr_17) cw_X11_420 ho_2 KX8 ⟨Nat.le_of_ble_eq_true rfl, Nat.le_of_ble_eq_true rfl⟩ rfl hl.1 rfl (Nat.le_of_ble_eq_true rfl) ⟨Nat.le_refl _, Nat.le_refl _⟩ dX11_would_87 (fun H locs hw => ?_)
            obtain ⟨j238, ej, hf⟩ := bL_e hf
            have R238 : ∀ (l3_18 : Int32) (l4_19 : Int32) (l5_20 : Int32) (S_21 : pS) (H : Heap) (locs : List Loc) (ls : Array Slot), Wd Z s S_21 H locs → lv_has ls 11 [(0, .ref (za Z 0)), (2, .ref (za Z o_2)), (3, .int l3_18), (4, .int l4_19), (5, .int l5_20), (6, .int l6_13), (8, .int l8_14)] → j238 l3_18 l4_19 l5_20 S_21 = some q_16 → W p l e { frames := 9, cells := 0, slots := 0, locals := 205 } s m args below meth c H locs 0 0 Q (F0 m 238 ls []) := by
              intro l3_18 l4_19 l5_20 S_21 H locs ls hw hl hf
              have hf := (congrFun (congrFun (congrFun (congrFun ej l3_18) l4_19) l5_20) S_21).symm.trans hf
              refine lv_aload_n hx hb dX11_would_238 rfl (lv_at hl 1 rfl) ?_
              refine gI G hw ho_2 KX8 4 (by decide) rfl fl_X11_165 dX11_would_239 ?_
              refine lv_iload hx hb dX11_would_242 (lv_at hl 5 rfl) ?_
              refine lv_iconst hx hb dX11_would_244 ki_1 ?_
              refine lv_iadd hx hb dX11_would_245 ?_
              refine xmin G hl.1 ml_X11_200 (Nat.le_of_ble_eq_true rfl) (Nat.le_of_ble_eq_true rfl) ⟨Nat.le_refl _, Nat.le_refl _⟩ dX11_would_246 ?_
              obtain ⟨l6_22, el6_22, hf⟩ := bL_e hf
              refine top_i el6_22 ?_
              refine lv_istore (lv' := [(6, .int l6_22), (0, .ref (za Z 0)), (2, .ref (za Z o_2)), (3, .int l3_18), (4, .int l4_19), (5, .int l5_20), (8, .int l8_14)]) hx hb dX11_would_249 hl (by decide) rfl (fun ls hl => ?_)
              obtain ⟨l8_23, el8_23, hf⟩ := bL_e hf
              refine lv_iinc (v := l8_23) (lv' := [(8, .int l8_23), (6, .int l6_22), (0, .ref (za Z 0)), (2, .ref (za Z o_2)), (3, .int l3_18), (4, .int l4_19), (5, .int l5_20)]) hx hb dX11_would_251 hl (k := 6) rfl (by rw [el8_23]; rfl) (by decide) rfl (fun ls hl => ?_)
              refine lv_goto (tgt := 74) hx hb dX11_would_254 (by decide) ?_
              obtain rfl := Option.some.inj hf
              exact ih _ hg _ _ _ _ _ _ _ _ _ hw (lv_sub hl [2, 3, 4, 5, 6, 1, 0] rfl) hz
            clear ej
            refine lv_if_eq (tgt := 238) hx hb dX11_would_90 (by decide) (fun c_41 => ?_) (fun c_41 => ?_)
            · have hf := (if_pos c_41).symm.trans hf
              exact R238 _ _ _ _ _ _ _ hw (lv_sub hl [0, 1, 2, 3, 4, 5, 6] rfl) hf
            · have hf := (if_neg c_41).symm.trans hf
              refine lv_aload_n hx hb dX11_would_93 rfl (lv_at hl 1 rfl) ?_
              refine lv_iload hx hb dX11_would_94 (lv_at hl 5 rfl) ?_
              refine lv_iconst hx hb dX11_would_96 ki_0 ?_
              obtain ⟨r_24, hr_24, hf⟩ := bB_e hf
              refine kVi (rest := []) G hw (wX8_order hZ S_15 o_2 l6_13 0 r_24 ho_2 hr_24) cw_X11_273 ho_2 KX8 ⟨Nat.le_of_ble_eq_true rfl, Nat.le_of_ble_eq_true rfl⟩ rfl hl.1 rfl (Nat.le_of_ble_eq_true rfl) ⟨Nat.le_refl _, Nat.le_refl _⟩ dX11_would_97 (fun H locs hw => ?_)
              refine lv_aload_n hx hb dX11_would_100 rfl (lv_at hl 1 rfl) ?_
              refine lv_iload hx hb dX11_would_101 (lv_at hl 5 rfl) ?_
              refine lv_iconst hx hb dX11_would_103 ki_3 ?_
              obtain ⟨r_25, hr_25, hf⟩ := bB_e hf
              refine kVi (rest := [.int r_24]) G hw (wX8_order hZ S_15 o_2 l6_13 3 r_25 ho_2 hr_25) cw_X11_273 ho_2 KX8 ⟨Nat.le_of_ble_eq_true rfl, Nat.le_of_ble_eq_true rfl⟩ rfl hl.1 rfl (Nat.le_of_ble_eq_true rfl) ⟨Nat.le_refl _, Nat.le_refl _⟩ dX11_would_104 (fun H locs hw => ?_)
              refine lv_iadd hx hb dX11_would_107 ?_
              refine lv_aload_n hx hb dX11_would_108 rfl (lv_at hl 1 rfl) ?_
              refine gI G hw ho_2 KX8 0 (by decide) rfl fl_X11_84 dX11_would_109 ?_
              refine xmin G hl.1 ml_X11_200 (Nat.le_of_ble_eq_true rfl) (Nat.le_of_ble_eq_true rfl) ⟨Nat.le_refl _, Nat.le_refl _⟩ dX11_would_112 ?_
              obtain ⟨l9_26, el9_26, hf⟩ := bL_e hf
              refine top_i el9_26 ?_
              refine lv_istore (lv' := [(9, .int l9_26), (0, .ref (za Z 0)), (2, .ref (za Z o_2)), (3, .int l3_10), (4, .int l4_11), (5, .int l5_12), (6, .int l6_13), (8, .int l8_14)]) hx hb dX11_would_115 hl (by decide) rfl (fun ls hl => ?_)
              refine lv_aload_n hx hb dX11_would_117 rfl (lv_at hl 2 rfl) ?_
              refine lv_iload hx hb dX11_would_118 (lv_at hl 6 rfl) ?_
              refine lv_iconst hx hb dX11_would_120 ki_1 ?_
              obtain ⟨r_27, hr_27, hf⟩ := bB_e hf
              refine kVi (rest := []) G hw (wX8_order hZ S_15 o_2 l6_13 1 r_27 ho_2 hr_27) cw_X11_273 ho_2 KX8 ⟨Nat.le_of_ble_eq_true rfl, Nat.le_of_ble_eq_true rfl⟩ rfl hl.1 rfl (Nat.le_of_ble_eq_true rfl) ⟨Nat.le_refl _, Nat.le_refl _⟩ dX11_would_121 (fun H locs hw => ?_)
              refine lv_istore (lv' := [(10, .int r_27), (9, .int l9_26), (0, .ref (za Z 0)), (2, .ref (za Z o_2)), (3, .int l3_10), (4, .int l4_11), (5, .int l5_12), (6, .int l6_13), (8, .int l8_14)]) hx hb dX11_would_124 hl (by decide) rfl (fun ls hl => ?_)
              refine lv_aload_n hx hb dX11_would_126 rfl (lv_at hl 2 rfl) ?_
              refine gF G hw h0 KX11 3 (k2 := 63) rfl (by decide) rfl fl_X11_33 dX11_would_127 ?_
              refine lv_aload_n hx hb dX11_would_130 rfl (lv_at hl 3 rfl) ?_
              refine lv_iload hx hb dX11_would_131 (lv_at hl 8 rfl) ?_
              obtain ⟨S_28, hS_28, hf⟩ := bL_e hf
              refine kVv (rest := []) G hw (wX0_ask hZ S_15 63 o_2 l8_14 S_28 (sub_PF_arms hZ h0) ho_2 hS_28.symm) cw_X11_208 (sub_PF_arms hZ h0) KX0 ⟨Nat.le_of_ble_eq_true rfl, Nat.le_of_ble_eq_true rfl⟩ rfl hl.1 rfl (Nat.le_of_ble_eq_true rfl) ⟨Nat.le_refl _, Nat.le_refl _⟩ dX11_would_133 (fun H locs hw => ?_)
              refine lv_aload_n hx hb dX11_would_136 rfl (lv_at hl 2 rfl) ?_
              refine gF G hw h0 KX11 3 (k2 := 63) rfl (by decide) rfl fl_X11_33 dX11_would_137 ?_
              refine lv_iload hx hb dX11_would_140 (lv_at hl 1 rfl) ?_
              refine lv_aload_n hx hb dX11_would_142 rfl (lv_at hl 3 rfl) ?_
              refine lv_iload hx hb dX11_would_143 (lv_at hl 7 rfl) ?_
              refine lv_iconst hx hb dX11_would_145 ki_3 ?_
              obtain ⟨r_29, hr_29, hf⟩ := bB_e hf
              refine kVi (rest := [.int l9_26, .ref (za Z 63)]) G hw (wX8_order hZ S_28 o_2 l6_13 3 r_29 ho_2 hr_29) cw_X11_273 ho_2 KX8 ⟨Nat.le_of_ble_eq_true rfl, Nat.le_of_ble_eq_true rfl⟩ rfl hl.1 rfl (Nat.le_of_ble_eq_true rfl) ⟨Nat.le_refl _, Nat.le_refl _⟩ dX11_would_146 (fun H locs hw => ?_)
              refine lv_iload hx hb dX11_would_149 (lv_at hl 0 rfl) ?_
              obtain ⟨S_30, hS_30, hf⟩ := bL_e hf
              refine kVv (rest := []) G hw (wX0_askThrow hZ S_28 63 l9_26 r_29 r_27 S_30 (sub_PF_arms hZ h0) hS_30.symm) cw_X11_212 (sub_PF_arms hZ h0) KX0 ⟨Nat.le_of_ble_eq_true rfl, Nat.le_of_ble_eq_true rfl⟩ rfl hl.1 rfl (Nat.le_of_ble_eq_true rfl) ⟨Nat.le_refl _, Nat.le_refl _⟩ dX11_would_151 (fun H locs hw => ?_)
              refine lv_aload_n hx hb dX11_would_154 rfl (lv_at hl 2 rfl) ?_
              refine gF G hw h0 KX11 3 (k2 := 63) rfl (by decide) rfl fl_X11_33 dX11_would_155 ?_
              refine lv_iload_n hx hb dX11_would_158 rfl (lv_at hl 4 rfl) ?_
              refine lv_iload hx hb dX11_would_159 (lv_at hl 6 rfl) ?_
              obtain ⟨S_31, hS_31, hf⟩ := bL_e hf
              refine kVv (rest := []) G hw (wX0_askState hZ S_30 63 l3_10 l5_12 S_31 (sub_PF_arms hZ h0) hS_31.symm) cw_X11_367 (sub_PF_arms hZ h0) KX0 ⟨Nat.le_of_ble_eq_true rfl, Nat.le_of_ble_eq_true rfl⟩ rfl hl.1 rfl (Nat.le_of_ble_eq_true rfl) ⟨Nat.le_refl _, Nat.le_refl _⟩ dX11_would_161 (fun H locs hw => ?_)
              refine lv_aload_n hx hb dX11_would_164 rfl (lv_at hl 2 rfl) ?_
              refine gF G hw h0 KX11 3 (k2 := 63) rfl (by decide) rfl fl_X11_33 dX11_would_165 ?_
              refine lv_iload hx hb dX11_would_168 (lv_at hl 5 rfl) ?_
              obtain ⟨S_32, hS_32, hf⟩ := bL_e hf
              refine kVv (rest := []) G hw (wX0_askBest hZ S_31 63 l4_11 S_32 (sub_PF_arms hZ h0) hS_32.symm) cw_X11_423 (sub_PF_arms hZ h0) KX0 ⟨Nat.le_of_ble_eq_true rfl, Nat.le_of_ble_eq_true rfl⟩ rfl hl.1 rfl (Nat.le_of_ble_eq_true rfl) ⟨Nat.le_refl _, Nat.le_refl _⟩ dX11_would_170 (fun H locs hw => ?_)
              refine lv_sipush hx hb dX11_would_173 ks_1000 ?_
              refine lv_iload_n hx hb dX11_would_176 rfl (lv_at hl 4 rfl) ?_
              refine lv_aload_n hx hb dX11_would_177 rfl (lv_at hl 2 rfl) ?_
              refine gF G hw h0 KX11 3 (k2 := 63) rfl (by decide) rfl fl_X11_33 dX11_would_178 ?_
              refine lv_aload_n hx hb dX11_would_181 rfl (lv_at hl 2 rfl) ?_
              refine gF G hw h0 KX11 0 (k2 := 1) rfl (by decide) rfl fl_X11_10 dX11_would_182 ?_
              refine gF G hw (sub_PF_now hZ h0) KX10 15 (k2 := 15) rfl (by decide) rfl fl_X11_124 dX11_would_185 ?_
              refine lv_iconst hx hb dX11_would_188 ki_1 ?_
              obtain ⟨r_33, S_34, hr_33, hf⟩ := bB2_e hf
              refine kVi (rest := [.int l3_10, .int 1000]) G hw (wX0_tell hZ S_32 63 15 1 r_33 S_34 (sub_PF_arms hZ h0) (sub_World_arms hZ (sub_PF_now hZ h0)) hr_33) cw_X11_216 (sub_PF_arms hZ h0) KX0 ⟨Nat.le_of_ble_eq_true rfl, Nat.le_of_ble_eq_true rfl⟩ rfl hl.1 rfl (Nat.le_of_ble_eq_true rfl) ⟨Nat.le_refl _, Nat.le_refl _⟩ dX11_would_189 (fun H locs hw => ?_)
              refine lv_iadd hx hb dX11_would_192 ?_
              refine xmin G hl.1 ml_X11_200 (Nat.le_of_ble_eq_true rfl) (Nat.le_of_ble_eq_true rfl) ⟨Nat.le_refl _, Nat.le_refl _⟩ dX11_would_193 ?_
              obtain ⟨l3_35, el3_35, hf⟩ := bL_e hf
              refine top_i el3_35 ?_
              refine lv_istore_n (lv' := [(3, .int l3_35), (10, .int r_27), (9, .int l9_26), (0, .ref (za Z 0)), (2, .ref (za Z o_2)), (4, .int l4_11), (5, .int l5_12), (6, .int l6_13), (8, .int l8_14)]) hx hb dX11_would_196 rfl hl (by decide) rfl (fun ls hl => ?_)
              obtain ⟨l5_36, el5_36, hf⟩ := bL_e hf
              refine lv_iinc (v := l5_36) (lv' := [(5, .int l5_36), (3, .int l3_35), (10, .int r_27), (9, .int l9_26), (0, .ref (za Z 0)), (2, .ref (za Z o_2)), (4, .int l4_11), (6, .int l6_13), (8, .int l8_14)]) hx hb dX11_would_197 hl (k := 6) rfl (by rw [el5_36]; rfl) (by decide) rfl (fun ls hl => ?_)
              refine lv_iload hx hb dX11_would_200 (lv_at hl 6 rfl) ?_
              refine lv_aload_n hx hb dX11_would_202 rfl (lv_at hl 4 rfl) ?_
              refine gF G hw h0 KX11 2 (k2 := 59) rfl (by decide) rfl fl_X11_26 dX11_would_203 ?_
              refine lv_aload_n hx hb dX11_would_206 rfl (lv_at hl 4 rfl) ?_
              refine gF G hw h0 KX11 0 (k2 := 1) rfl (by decide) rfl fl_X11_10 dX11_would_207 ?_
              refine lv_iload hx hb dX11_would_210 (lv_at hl 3 rfl) ?_
              refine lv_iload hx hb dX11_would_212 (lv_at hl 2 rfl) ?_
              refine lv_aload_n hx hb dX11_would_214 rfl (lv_at hl 5 rfl) ?_
              refine lv_iload hx hb dX11_would_215 (lv_at hl 7 rfl) ?_
              refine lv_iconst hx hb dX11_would_217 ki_2 ?_
              obtain ⟨r_37, hr_37, hf⟩ := bB_e hf
              refine kVi (rest := [.int r_27, .int l9_26, .ref (za Z 1), .ref (za Z 59), .int l4_11]) G hw (wX8_order hZ S_34 o_2 l6_13 2 r_37 ho_2 hr_37) cw_X11_273 ho_2 KX8 ⟨Nat.le_of_ble_eq_true rfl, Nat.le_of_ble_eq_true rfl⟩ rfl hl.1 rfl (Nat.le_of_ble_eq_true rfl) ⟨Nat.le_refl _, Nat.le_refl _⟩ dX11_would_218 (fun H locs hw => ?_)
              refine lv_aload_n hx hb dX11_would_221 rfl (lv_at hl 4 rfl) ?_
              refine gF G hw h0 KX11 0 (k2 := 1) rfl (by decide) rfl fl_X11_10 dX11_would_222 ?_
              refine gF G hw (sub_PF_now hZ h0) KX10 8 (k2 := 2) rfl (by decide) rfl fl_X11_222 dX11_would_225 ?_
              refine lv_iconst hx hb dX11_would_228 ki_0 ?_
              refine aI G hw (sub_World_told hZ (sub_PF_now hZ h0)) (vin_e (by decide)) (j := 0) (by decide) dX11_would_229 ?_
              obtain ⟨r_38, S_39, hr_38, hf⟩ := bB2_e hf
              refine kVi (rest := [.int l4_11]) G hw (wX7_goodFar hZ S_34 59 1 l9_26 r_27 r_37 (S_34 2 0) r_38 S_39 (sub_PF_thought hZ h0) (sub_PF_now hZ h0) hr_38) cw_X11_381 (sub_PF_thought hZ h0) KX7 ⟨Nat.le_of_ble_eq_true rfl, Nat.le_of_ble_eq_true rfl⟩ rfl hl.1 rfl (Nat.le_of_ble_eq_true rfl) ⟨Nat.le_refl _, Nat.le_refl _⟩ dX11_would_230 (fun H locs hw => ?_)
              refine xmax G hl.1 ml_X11_256 (Nat.le_of_ble_eq_true rfl) (Nat.le_of_ble_eq_true rfl) ⟨Nat.le_refl _, Nat.le_refl _⟩ dX11_would_233 ?_
              obtain ⟨l4_40, el4_40, hf⟩ := bL_e hf
              refine top_i el4_40 ?_
              refine lv_istore (lv' := [(4, .int l4_40), (5, .int l5_36), (3, .int l3_35), (10, .int r_27), (9, .int l9_26), (0, .ref (za Z 0)), (2, .ref (za Z o_2)), (6, .int l6_13), (8, .int l8_14)]) hx hb dX11_would_236 hl (by decide) rfl (fun ls hl => ?_)
              exact R238 _ _ _ _ _ _ _ hw (lv_sub hl [5, 6, 2, 0, 1, 7, 8] rfl) hf
      clear eb
      obtain ⟨z, hz, hf⟩ := bB_e hf
      obtain ⟨n, hz⟩ := bP_e hz
      exact RL74 n z hf _ _ _ _ _ _ _ _ _ hw (lv_sub hl [2, 3, 4, 5, 6, 7, 0] rfl) hz
    clear ej
    refine lv_icmp_ge (tgt := 61) hx hb dX11_would_46 (by decide) (fun c_43 => ?_) (fun c_43 => ?_)
    · have hf := (if_pos c_43).symm.trans hf
      refine lv_aload_n hx hb dX11_would_61 rfl (lv_at hl 5 rfl) ?_
      refine gF G hw h0 KX11 0 (k2 := 1) rfl (by decide) rfl fl_X11_10 dX11_would_62 ?_
      refine gI G hw (sub_PF_now hZ h0) KX10 2 (by decide) rfl fl_X11_205 dX11_would_65 ?_
      exact R68 _ _ _ _ hw (lv_sub hl [5, 4, 3, 2, 1, 0] rfl) hf
    · have hf := (if_neg c_43).symm.trans hf
      refine lv_aload_n hx hb dX11_would_49 rfl (lv_at hl 5 rfl) ?_
      refine gF G hw h0 KX11 0 (k2 := 1) rfl (by decide) rfl fl_X11_10 dX11_would_50 ?_
      refine gI G hw (sub_PF_now hZ h0) KX10 2 (by decide) rfl fl_X11_205 dX11_would_53 ?_
      refine lv_iconst hx hb dX11_would_56 ki_1 ?_
      refine lv_iadd hx hb dX11_would_57 ?_
      refine lv_goto (tgt := 68) hx hb dX11_would_58 (by decide) ?_
      exact R68 _ _ _ _ hw (lv_sub hl [5, 4, 3, 2, 1, 0] rfl) hf
noncomputable def F11_verdict (S : pS) (a1 : Int32) : Int64 :=
  if (F11_within a1 0 1000) = 0 then
    ((-1) : Int64)
  else
    bL (1000 - ((a1 : Int32).toInt64)) fun l2_1 =>
    (l2_1 * l2_1) * (l2_1 + (3 * ((a1 : Int32).toInt64)))
set_option maxRecDepth 100000 in
set_option maxHeartbeats 4000000 in
theorem wX11_verdict {l : Launch} {Z : pZ}  (hZ : CC Z) (S : pS) (a1 : Int32) (r : Int64) (h0 : isA Z K_PF 0) (hf : F11_verdict S a1 = r) : CL l Z yX11_verdict cX11_verdict 4 4 82 [.ref (za Z 0), .int a1] S r S := by
  unfold F11_verdict at hf
  refine eL (own := RX11) (by decide) rfl (Nat.le_of_ble_eq_true rfl) (fun p e s m args below meth c Q ls G hl hw hret => ?_)
  obtain ⟨hx, hb, hml, hown, hts⟩ := G.1
  have hl : lv_has ls 4 [(0, .ref (za Z 0)), (1, .int a1)] := hl
  refine lv_iload_n hx hb dX11_verdict_0 rfl (lv_at hl 1 rfl) ?_
  refine lv_iconst hx hb dX11_verdict_1 ki_0 ?_
  refine lv_sipush hx hb dX11_verdict_2 ks_1000 ?_
  refine kSi (rest := []) G hw (wX11_within hZ S a1 0 1000 (F11_within a1 0 1000) rfl) cw_X11_51 ⟨Nat.le_of_ble_eq_true rfl, Nat.le_of_ble_eq_true rfl⟩ rfl hl.1 rfl (Nat.le_of_ble_eq_true rfl) ⟨Nat.le_refl _, Nat.le_refl _⟩ dX11_verdict_5 (fun H locs hw => ?_)
  refine lv_if_ne (tgt := 15) hx hb dX11_verdict_8 (by decide) (fun c_2 => ?_) (fun c_2 => ?_)
  · have hf := (if_neg c_2).symm.trans hf
    refine lv_ldc2 hx hb hown (hts _ cl_X11_426) dX11_verdict_15 ?_
    refine lv_iload_n hx hb dX11_verdict_18 rfl (lv_at hl 1 rfl) ?_
    refine lv_i2l hx hb dX11_verdict_19 rfl ?_
    refine lv_lsub hx hb dX11_verdict_20 ?_
    obtain ⟨l2_1, el2_1, hf⟩ := bL_e hf
    refine top_l el2_1 ?_
    refine lv_lstore_n (lv' := [(2, .long l2_1), (0, .ref (za Z 0)), (1, .int a1)]) hx hb dX11_verdict_21 rfl hl (by decide) rfl (fun ls hl => ?_)
    refine lv_lload_n hx hb dX11_verdict_22 rfl (lv_at hl 0 rfl) ?_
    refine lv_lload_n hx hb dX11_verdict_23 rfl (lv_at hl 0 rfl) ?_
    refine lv_lmul hx hb dX11_verdict_24 ?_
    refine lv_lload_n hx hb dX11_verdict_25 rfl (lv_at hl 0 rfl) ?_
    refine lv_ldc2 hx hb hown (hts _ cl_X11_428) dX11_verdict_26 ?_
    refine lv_iload_n hx hb dX11_verdict_29 rfl (lv_at hl 2 rfl) ?_
    refine lv_i2l hx hb dX11_verdict_30 rfl ?_
    refine lv_lmul hx hb dX11_verdict_31 ?_
    refine lv_ladd hx hb dX11_verdict_32 ?_
    refine lv_lmul hx hb dX11_verdict_33 ?_
    exact hret _ _ _ _ _ dX11_verdict_34 hf hw
  · have hf := (if_pos c_2).symm.trans hf
    refine lv_ldc2 hx hb hown (hts _ cl_X11_358) dX11_verdict_11 ?_
    exact hret _ _ _ _ _ dX11_verdict_14 hf hw
noncomputable def F11_path (S : pS) (a1 : Int32) (a2 : Int32) (a3 : Int32) : Option (Int32 × pS) :=
  if (F10_hasLine S 1 a1) = 0 then
    some (((-10000) : Int32), S)
  else
    if (F11_within a2 0 400) = 0 then
      some (((-10000) : Int32), S)
    else
      if (F11_within a3 0 3) = 0 then
        some (((-10000) : Int32), S)
      else
        bB (F10_column S 1 a1 4) fun r_1 =>
        bB (F10_column S 1 a1 5) fun r_2 =>
        bB (F10_column S 1 a1 3) fun r_3 =>
        bB (F10_column S 1 a1 6) fun r_4 =>
        bB (F2_begin S 60 1 r_1 r_2 0 r_3 r_4 (S 2 1)) fun S_5 =>
        bB (F2_go S_5 60 8 a2) fun S_6 =>
        if a3 = 0 then
          some (S_6 60 1, S_6)
        else if a3 = 1 then
          some (S_6 61 2, S_6)
        else if a3 = 2 then
          some (S_6 60 2, S_6)
        else 
          some (S_6 61 3, S_6)
set_option maxRecDepth 100000 in
set_option maxHeartbeats 4000000 in
theorem wX11_path {l : Launch} {Z : pZ}  (hZ : CC Z) (S : pS) (a1 : Int32) (a2 : Int32) (a3 : Int32) (r : Int32) (S2 : pS) (h0 : isA Z K_PF 0) (hf : F11_path S a1 a2 a3 = some (r, S2)) : CI l Z yX11_path cX11_path 5 .int 8 180 [.ref (za Z 0), .int a1, .int a2, .int a3] S r S2 := by
  unfold F11_path at hf
  refine eI (own := RX11) (by decide) rfl (Nat.le_of_ble_eq_true rfl) (fun p e s m args below meth c Q ls G hl hw hret => ?_)
  obtain ⟨hx, hb, hml, hown, hts⟩ := G.1
  have hl : lv_has ls 5 [(0, .ref (za Z 0)), (1, .int a1), (2, .int a2), (3, .int a3)] := hl
  refine lv_aload_n hx hb dX11_path_0 rfl (lv_at hl 0 rfl) ?_
  refine gF G hw h0 KX11 0 (k2 := 1) rfl (by decide) rfl fl_X11_10 dX11_path_1 ?_
  refine lv_iload_n hx hb dX11_path_4 rfl (lv_at hl 1 rfl) ?_
  refine kVi (rest := []) G hw (wX10_hasLine hZ S 1 a1 (F10_hasLine S 1 a1) (sub_PF_now hZ h0) rfl) cw_X11_310 (sub_PF_now hZ h0) KX10 ⟨Nat.le_of_ble_eq_true rfl, Nat.le_of_ble_eq_true rfl⟩ rfl hl.1 rfl (Nat.le_of_ble_eq_true rfl) ⟨Nat.le_refl _, Nat.le_refl _⟩ dX11_path_5 (fun H locs hw => ?_)
  refine lv_if_eq (tgt := 31) hx hb dX11_path_8 (by decide) (fun c_12 => ?_) (fun c_12 => ?_)
  · have hf := (if_pos c_12).symm.trans hf
    refine lv_sipush hx hb dX11_path_31 ks_m10000 ?_
    obtain ⟨e1, e2⟩ := Prod.mk.inj (Option.some.inj hf)
    exact hret _ _ _ _ _ dX11_path_34 e1 (by rw [← e2]; exact hw)
  · have hf := (if_neg c_12).symm.trans hf
    refine lv_iload_n hx hb dX11_path_11 rfl (lv_at hl 2 rfl) ?_
    refine lv_iconst hx hb dX11_path_12 ki_0 ?_
    refine lv_sipush hx hb dX11_path_13 ks_400 ?_
    refine kSi (rest := []) G hw (wX11_within hZ S a2 0 400 (F11_within a2 0 400) rfl) cw_X11_51 ⟨Nat.le_of_ble_eq_true rfl, Nat.le_of_ble_eq_true rfl⟩ rfl hl.1 rfl (Nat.le_of_ble_eq_true rfl) ⟨Nat.le_refl _, Nat.le_refl _⟩ dX11_path_16 (fun H locs hw => ?_)
    refine lv_if_eq (tgt := 31) hx hb dX11_path_19 (by decide) (fun c_11 => ?_) (fun c_11 => ?_)
    · have hf := (if_pos c_11).symm.trans hf
      refine lv_sipush hx hb dX11_path_31 ks_m10000 ?_
      obtain ⟨e1, e2⟩ := Prod.mk.inj (Option.some.inj hf)
      exact hret _ _ _ _ _ dX11_path_34 e1 (by rw [← e2]; exact hw)
    · have hf := (if_neg c_11).symm.trans hf
      refine lv_iload_n hx hb dX11_path_22 rfl (lv_at hl 3 rfl) ?_
      refine lv_iconst hx hb dX11_path_23 ki_0 ?_
      refine lv_iconst hx hb dX11_path_24 ki_3 ?_
      refine kSi (rest := []) G hw (wX11_within hZ S a3 0 3 (F11_within a3 0 3) rfl) cw_X11_51 ⟨Nat.le_of_ble_eq_true rfl, Nat.le_of_ble_eq_true rfl⟩ rfl hl.1 rfl (Nat.le_of_ble_eq_true rfl) ⟨Nat.le_refl _, Nat.le_refl _⟩ dX11_path_25 (fun H locs hw => ?_)
      refine lv_if_ne (tgt := 35) hx hb dX11_path_28 (by decide) (fun c_10 => ?_) (fun c_10 => ?_)
      · have hf := (if_neg c_10).symm.trans hf
        refine lv_aload_n hx hb dX11_path_35 rfl (lv_at hl 0 rfl) ?_
        refine gF G hw h0 KX11 2 (k2 := 59) rfl (by decide) rfl fl_X11_26 dX11_path_36 ?_
        refine gF G hw (sub_PF_thought hZ h0) KX7 0 (k2 := 60) rfl (by decide) rfl fl_X11_232 dX11_path_39 ?_
        refine lv_astore (lv' := [(4, .ref (za Z 60)), (0, .ref (za Z 0)), (1, .int a1), (2, .int a2), (3, .int a3)]) hx hb dX11_path_42 hl (by decide) rfl (fun ls hl => ?_)
        refine lv_aload hx hb dX11_path_44 (lv_at hl 0 rfl) ?_
        refine lv_aload_n hx hb dX11_path_46 rfl (lv_at hl 1 rfl) ?_
        refine gF G hw h0 KX11 0 (k2 := 1) rfl (by decide) rfl fl_X11_10 dX11_path_47 ?_
        refine lv_aload_n hx hb dX11_path_50 rfl (lv_at hl 1 rfl) ?_
        refine gF G hw h0 KX11 0 (k2 := 1) rfl (by decide) rfl fl_X11_10 dX11_path_51 ?_
        refine lv_iload_n hx hb dX11_path_54 rfl (lv_at hl 2 rfl) ?_
        refine lv_iconst hx hb dX11_path_55 ki_4 ?_
        obtain ⟨r_1, hr_1, hf⟩ := bB_e hf
        refine kVi (rest := [.ref (za Z 1), .ref (za Z 60)]) G hw (wX10_column hZ S 1 a1 4 r_1 (sub_PF_now hZ h0) hr_1) cw_X11_313 (sub_PF_now hZ h0) KX10 ⟨Nat.le_of_ble_eq_true rfl, Nat.le_of_ble_eq_true rfl⟩ rfl hl.1 rfl (Nat.le_of_ble_eq_true rfl) ⟨Nat.le_refl _, Nat.le_refl _⟩ dX11_path_56 (fun H locs hw => ?_)
        refine lv_aload_n hx hb dX11_path_59 rfl (lv_at hl 1 rfl) ?_
        refine gF G hw h0 KX11 0 (k2 := 1) rfl (by decide) rfl fl_X11_10 dX11_path_60 ?_
        refine lv_iload_n hx hb dX11_path_63 rfl (lv_at hl 2 rfl) ?_
        refine lv_iconst hx hb dX11_path_64 ki_5 ?_
        obtain ⟨r_2, hr_2, hf⟩ := bB_e hf
        refine kVi (rest := [.int r_1, .ref (za Z 1), .ref (za Z 60)]) G hw (wX10_column hZ S 1 a1 5 r_2 (sub_PF_now hZ h0) hr_2) cw_X11_313 (sub_PF_now hZ h0) KX10 ⟨Nat.le_of_ble_eq_true rfl, Nat.le_of_ble_eq_true rfl⟩ rfl hl.1 rfl (Nat.le_of_ble_eq_true rfl) ⟨Nat.le_refl _, Nat.le_refl _⟩ dX11_path_65 (fun H locs hw => ?_)
        refine lv_iconst hx hb dX11_path_68 ki_0 ?_
        refine lv_aload_n hx hb dX11_path_69 rfl (lv_at hl 1 rfl) ?_
        refine gF G hw h0 KX11 0 (k2 := 1) rfl (by decide) rfl fl_X11_10 dX11_path_70 ?_
        refine lv_iload_n hx hb dX11_path_73 rfl (lv_at hl 2 rfl) ?_
        refine lv_iconst hx hb dX11_path_74 ki_3 ?_
        obtain ⟨r_3, hr_3, hf⟩ := bB_e hf
        refine kVi (rest := [.int 0, .int r_2, .int r_1, .ref (za Z 1), .ref (za Z 60)]) G hw (wX10_column hZ S 1 a1 3 r_3 (sub_PF_now hZ h0) hr_3) cw_X11_313 (sub_PF_now hZ h0) KX10 ⟨Nat.le_of_ble_eq_true rfl, Nat.le_of_ble_eq_true rfl⟩ rfl hl.1 rfl (Nat.le_of_ble_eq_true rfl) ⟨Nat.le_refl _, Nat.le_refl _⟩ dX11_path_75 (fun H locs hw => ?_)
        refine lv_aload_n hx hb dX11_path_78 rfl (lv_at hl 1 rfl) ?_
        refine gF G hw h0 KX11 0 (k2 := 1) rfl (by decide) rfl fl_X11_10 dX11_path_79 ?_
        refine lv_iload_n hx hb dX11_path_82 rfl (lv_at hl 2 rfl) ?_
        refine lv_bipush hx hb dX11_path_83 kb_6 ?_
        obtain ⟨r_4, hr_4, hf⟩ := bB_e hf
        refine kVi (rest := [.int r_3, .int 0, .int r_2, .int r_1, .ref (za Z 1), .ref (za Z 60)]) G hw (wX10_column hZ S 1 a1 6 r_4 (sub_PF_now hZ h0) hr_4) cw_X11_313 (sub_PF_now hZ h0) KX10 ⟨Nat.le_of_ble_eq_true rfl, Nat.le_of_ble_eq_true rfl⟩ rfl hl.1 rfl (Nat.le_of_ble_eq_true rfl) ⟨Nat.le_refl _, Nat.le_refl _⟩ dX11_path_85 (fun H locs hw => ?_)
        refine lv_aload_n hx hb dX11_path_88 rfl (lv_at hl 1 rfl) ?_
        refine gF G hw h0 KX11 0 (k2 := 1) rfl (by decide) rfl fl_X11_10 dX11_path_89 ?_
        refine gF G hw (sub_PF_now hZ h0) KX10 8 (k2 := 2) rfl (by decide) rfl fl_X11_222 dX11_path_92 ?_
        refine lv_iconst hx hb dX11_path_95 ki_1 ?_
        refine aI G hw (sub_World_told hZ (sub_PF_now hZ h0)) (vin_e (by decide)) (j := 1) (by decide) dX11_path_96 ?_
        obtain ⟨S_5, hS_5, hf⟩ := bB_e hf
        refine kVv (rest := []) G hw (wX2_begin hZ S 60 1 r_1 r_2 0 r_3 r_4 (S 2 1) S_5 (sub_Thought_flight hZ (sub_PF_thought hZ h0)) (sub_PF_now hZ h0) hS_5) cw_X11_235 (sub_Thought_flight hZ (sub_PF_thought hZ h0)) KX2 ⟨Nat.le_of_ble_eq_true rfl, Nat.le_of_ble_eq_true rfl⟩ rfl hl.1 rfl (Nat.le_of_ble_eq_true rfl) ⟨Nat.le_refl _, Nat.le_refl _⟩ dX11_path_97 (fun H locs hw => ?_)
        refine lv_aload hx hb dX11_path_100 (lv_at hl 0 rfl) ?_
        refine lv_aload_n hx hb dX11_path_102 rfl (lv_at hl 1 rfl) ?_
        refine gF G hw h0 KX11 0 (k2 := 1) rfl (by decide) rfl fl_X11_10 dX11_path_103 ?_
        refine gF G hw (sub_PF_now hZ h0) KX10 14 (k2 := 8) rfl (by decide) rfl fl_X11_114 dX11_path_106 ?_
        refine lv_iload_n hx hb dX11_path_109 rfl (lv_at hl 3 rfl) ?_
        obtain ⟨S_6, hS_6, hf⟩ := bB_e hf
        refine kVv (rest := []) G hw (wX2_go hZ S_5 60 8 a2 S_6 (sub_Thought_flight hZ (sub_PF_thought hZ h0)) (sub_World_flight hZ (sub_PF_now hZ h0)) hS_6) cw_X11_240 (sub_Thought_flight hZ (sub_PF_thought hZ h0)) KX2 ⟨Nat.le_of_ble_eq_true rfl, Nat.le_of_ble_eq_true rfl⟩ rfl hl.1 rfl (Nat.le_of_ble_eq_true rfl) ⟨Nat.le_refl _, Nat.le_refl _⟩ dX11_path_110 (fun H locs hw => ?_)
        refine lv_iload_n hx hb dX11_path_113 rfl (lv_at hl 4 rfl) ?_
        by_cases c_7 : a3 = 0
        · have hf := (if_pos c_7).symm.trans hf
          refine lv_tableIn (tgt := 140) hx hb dX11_path_114 (by rw [c_7]; decide) (by rw [c_7]; decide) (off := 26) (by rw [c_7]; decide) (by decide) ?_
          refine lv_aload hx hb dX11_path_140 (lv_at hl 0 rfl) ?_
          refine gI G hw (sub_Thought_flight hZ (sub_PF_thought hZ h0)) KX2 1 (by decide) rfl fl_X11_253 dX11_path_142 ?_
          obtain ⟨e1, e2⟩ := Prod.mk.inj (Option.some.inj hf)
          exact hret _ _ _ _ _ dX11_path_145 e1 (by rw [← e2]; exact hw)
        have hf := (if_neg c_7).symm.trans hf
        by_cases c_8 : a3 = 1
        · have hf := (if_pos c_8).symm.trans hf
          refine lv_tableIn (tgt := 146) hx hb dX11_path_114 (by rw [c_8]; decide) (by rw [c_8]; decide) (off := 32) (by rw [c_8]; decide) (by decide) ?_
          refine lv_aload hx hb dX11_path_146 (lv_at hl 0 rfl) ?_
          refine gF G hw (sub_Thought_flight hZ (sub_PF_thought hZ h0)) KX2 0 (k2 := 61) rfl (by decide) rfl fl_X11_339 dX11_path_148 ?_
          refine lv_iconst hx hb dX11_path_151 ki_2 ?_
          refine aI G hw (sub_Flight_is hZ (sub_Thought_flight hZ (sub_PF_thought hZ h0))) (vin_e (by decide)) (j := 2) (by decide) dX11_path_152 ?_
          obtain ⟨e1, e2⟩ := Prod.mk.inj (Option.some.inj hf)
          exact hret _ _ _ _ _ dX11_path_153 e1 (by rw [← e2]; exact hw)
        have hf := (if_neg c_8).symm.trans hf
        by_cases c_9 : a3 = 2
        · have hf := (if_pos c_9).symm.trans hf
          refine lv_tableIn (tgt := 154) hx hb dX11_path_114 (by rw [c_9]; decide) (by rw [c_9]; decide) (off := 40) (by rw [c_9]; decide) (by decide) ?_
          refine lv_aload hx hb dX11_path_154 (lv_at hl 0 rfl) ?_
          refine gI G hw (sub_Thought_flight hZ (sub_PF_thought hZ h0)) KX2 2 (by decide) rfl fl_X11_336 dX11_path_156 ?_
          obtain ⟨e1, e2⟩ := Prod.mk.inj (Option.some.inj hf)
          exact hret _ _ _ _ _ dX11_path_159 e1 (by rw [← e2]; exact hw)
        have hf := (if_neg c_9).symm.trans hf
        refine lv_tableOut (tgt := 160) hx hb dX11_path_114 (sw_out [0, 1, 2] (by decide +kernel) (List.forall_mem_cons.mpr ⟨c_7, (List.forall_mem_cons.mpr ⟨c_8, (List.forall_mem_cons.mpr ⟨c_9, (fun _ h => absurd h List.not_mem_nil)⟩)⟩)⟩)) (by decide) ?_
        refine lv_aload hx hb dX11_path_160 (lv_at hl 0 rfl) ?_
        refine gF G hw (sub_Thought_flight hZ (sub_PF_thought hZ h0)) KX2 0 (k2 := 61) rfl (by decide) rfl fl_X11_339 dX11_path_162 ?_
        refine lv_iconst hx hb dX11_path_165 ki_3 ?_
        refine aI G hw (sub_Flight_is hZ (sub_Thought_flight hZ (sub_PF_thought hZ h0))) (vin_e (by decide)) (j := 3) (by decide) dX11_path_166 ?_
        obtain ⟨e1, e2⟩ := Prod.mk.inj (Option.some.inj hf)
        exact hret _ _ _ _ _ dX11_path_167 e1 (by rw [← e2]; exact hw)
      · have hf := (if_pos c_10).symm.trans hf
        refine lv_sipush hx hb dX11_path_31 ks_m10000 ?_
        obtain ⟨e1, e2⟩ := Prod.mk.inj (Option.some.inj hf)
        exact hret _ _ _ _ _ dX11_path_34 e1 (by rw [← e2]; exact hw)

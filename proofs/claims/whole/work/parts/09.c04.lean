noncomputable def F2_go (S : pS) (k0 : Nat) (k1 : Nat) (a2 : Int32) : Option (pS) :=
  bL (fun (S_1 : pS) =>
    some S_1) fun g34_2 =>
  bL (u2 fun (l3_2 : Int32) (S_3 : pS) =>
    if a2 ≤ l3_2 then
      some (.inr S_3)
    else
      if 400 ≤ l3_2 then
        some (.inr S_3)
      else
        if (S_3 (k0 + 1) 2) ≤ 0 then
          some (.inr S_3)
        else
          bB (F2_tick S_3 k0 k1) fun S_5 =>
          bL (l3_2 + 1) fun l3_6 =>
          some (.inl (l3_6, S_5))) fun b2 =>
  bB (bP b2 ((0 : Int32), S)) (u1 g34_2)
set_option maxRecDepth 100000 in
set_option maxHeartbeats 4000000 in
theorem wX2_go {l : Launch} {Z : pZ}  (hZ : CC Z) (S : pS) (k0 : Nat) (k1 : Nat) (a2 : Int32) (S2 : pS) (h0 : isA Z K_Flight k0) (h1 : isA Z K_Law k1) (hf : F2_go S k0 k1 a2 = some S2) : CV l Z yX2_go cX2_go 4 7 157 [.ref (za Z k0), .ref (za Z k1), .int a2] S S2 := by
  unfold F2_go at hf
  refine eV (own := RX2) (by decide) rfl (Nat.le_of_ble_eq_true rfl) (fun p e s m args below meth c Q ls G hl hw hret => ?_)
  obtain ⟨hx, hb, hml, hown, hts⟩ := G.1
  have hl : lv_has ls 4 [(0, .ref (za Z k0)), (1, .ref (za Z k1)), (2, .int a2)] := hl
  refine lv_iconst hx hb dX2_go_0 ki_0 ?_
  refine lv_istore_n (lv' := [(3, .int 0), (0, .ref (za Z k0)), (1, .ref (za Z k1)), (2, .int a2)]) hx hb dX2_go_1 rfl hl (by decide) rfl (fun ls hl => ?_)
  obtain ⟨g34_2, ej, hf⟩ := bL_e hf
  have R34_2 : ∀ (S_1 : pS) (H : Heap) (locs : List Loc) (ls : Array Slot), Wd Z s S_1 H locs → lv_has ls 4 [] → g34_2 S_1 = some S2 → W p l e { frames := 7, cells := 0, slots := 0, locals := 157 } s m args below meth c H locs 0 0 Q (F0 m 34 ls []) := by
    intro S_1 H locs ls hw hl hf
    have hf := (congrFun ej S_1).symm.trans hf
    exact hret _ _ _ _ dX2_go_34 (by rw [← (Option.some.inj hf)]; exact hw)
  clear ej
  obtain ⟨b2, eb, hf⟩ := bL_e hf
  have RL2 : ∀ (n : Nat) z, (u1 g34_2) z = some S2 → ∀ (l3_2 : Int32) (S_3 : pS) (H : Heap) (locs : List Loc) (ls : Array Slot), Wd Z s S_3 H locs → lv_has ls 4 [(0, .ref (za Z k0)), (1, .ref (za Z k1)), (2, .int a2), (3, .int l3_2)] → bPn b2 n (l3_2, S_3) = some z → W p l e { frames := 7, cells := 0, slots := 0, locals := 157 } s m args below meth c H locs 0 0 Q (F0 m 2 ls []) := by
    intro n
    induction n with
    | zero =>
      intro z hg l3_2 S_3 H locs ls hw hl hz
      exact bPn_0 hz
    | succ n ih =>
      intro z hg l3_2 S_3 H locs ls hw hl hz
      obtain ⟨q_4, hf, hz⟩ := bPn_e hz
      have hf := u2_e ((congrFun eb _).symm.trans hf)
      refine lv_iload_n hx hb dX2_go_2 rfl (lv_at hl 3 rfl) ?_
      refine lv_iload_n hx hb dX2_go_3 rfl (lv_at hl 2 rfl) ?_
      refine lv_icmp_ge (tgt := 34) hx hb dX2_go_4 (by decide) (fun c_9 => ?_) (fun c_9 => ?_)
      · have hf := (if_pos c_9).symm.trans hf
        obtain rfl := Option.some.inj hf
        obtain rfl := Option.some.inj (hz : some _ = some _)
        exact R34_2 _ _ _ _ hw (lv_sub hl [] rfl) hg
      · have hf := (if_neg c_9).symm.trans hf
        refine lv_iload_n hx hb dX2_go_7 rfl (lv_at hl 3 rfl) ?_
        refine lv_sipush hx hb dX2_go_8 ks_400 ?_
        refine lv_icmp_ge (tgt := 34) hx hb dX2_go_11 (by decide) (fun c_8 => ?_) (fun c_8 => ?_)
        · have hf := (if_pos c_8).symm.trans hf
          obtain rfl := Option.some.inj hf
          obtain rfl := Option.some.inj (hz : some _ = some _)
          exact R34_2 _ _ _ _ hw (lv_sub hl [] rfl) hg
        · have hf := (if_neg c_8).symm.trans hf
          refine lv_aload_n hx hb dX2_go_14 rfl (lv_at hl 0 rfl) ?_
          refine gF G hw h0 KX2 0 (k2 := (k0 + 1)) rfl (by decide) rfl fl_X2_9 dX2_go_15 ?_
          refine lv_iconst hx hb dX2_go_18 ki_2 ?_
          refine aI G hw (sub_Flight_is hZ h0) (vin_e (by decide)) (j := 2) (by decide) dX2_go_19 ?_
          refine lv_if_le (tgt := 34) hx hb dX2_go_20 (by decide) (fun c_7 => ?_) (fun c_7 => ?_)
          · have hf := (if_pos c_7).symm.trans hf
            obtain rfl := Option.some.inj hf
            obtain rfl := Option.some.inj (hz : some _ = some _)
            exact R34_2 _ _ _ _ hw (lv_sub hl [] rfl) hg
          · have hf := (if_neg c_7).symm.trans hf
            refine lv_aload_n hx hb dX2_go_23 rfl (lv_at hl 0 rfl) ?_
            refine lv_aload_n hx hb dX2_go_24 rfl (lv_at hl 1 rfl) ?_
            obtain ⟨S_5, hS_5, hf⟩ := bB_e hf
            refine kVv (rest := []) G hw (wX2_tick hZ S_3 k0 k1 S_5 h0 h1 hS_5) cw_X2_45 h0 KX2 ⟨Nat.le_of_ble_eq_true rfl, Nat.le_of_ble_eq_true rfl⟩ rfl hl.1 rfl (Nat.le_of_ble_eq_true rfl) ⟨Nat.le_refl _, Nat.le_refl _⟩ dX2_go_25 (fun H locs hw => ?_)
            obtain ⟨l3_6, el3_6, hf⟩ := bL_e hf
            refine lv_iinc (v := l3_6) (lv' := [(3, .int l3_6), (0, .ref (za Z k0)), (1, .ref (za Z k1)), (2, .int a2)]) hx hb dX2_go_28 hl (k := 3) rfl (by rw [el3_6]; rfl) (by decide) rfl (fun ls hl => ?_)
            refine lv_goto (tgt := 2) hx hb dX2_go_31 (by decide) ?_
            obtain rfl := Option.some.inj hf
            exact ih _ hg _ _ _ _ _ hw (lv_sub hl [1, 2, 3, 0] rfl) hz
  clear eb
  obtain ⟨z, hz, hf⟩ := bB_e hf
  obtain ⟨n, hz⟩ := bP_e hz
  exact RL2 n z hf _ _ _ _ _ hw (lv_sub hl [1, 2, 3, 0] rfl) hz
noncomputable def F2_landing (S : pS) (k0 : Nat) : Int32 :=
  if 0 ≤ (S (k0 + 1) 3) then
    if 9 < (S (k0 + 1) 3) then
      (2 : Int32)
    else
      (1 : Int32)
  else
    (0 : Int32)
set_option maxRecDepth 100000 in
set_option maxHeartbeats 4000000 in
theorem wX2_landing {l : Launch} {Z : pZ}  (hZ : CC Z) (S : pS) (k0 : Nat) (r : Int32) (h0 : isA Z K_Flight k0) (hf : F2_landing S k0 = r) : CI l Z yX2_landing cX2_landing 1 .int 3 60 [.ref (za Z k0)] S r S := by
  unfold F2_landing at hf
  refine eI (own := RX2) (by decide) rfl (Nat.le_of_ble_eq_true rfl) (fun p e s m args below meth c Q ls G hl hw hret => ?_)
  obtain ⟨hx, hb, hml, hown, hts⟩ := G.1
  have hl : lv_has ls 1 [(0, .ref (za Z k0))] := hl
  refine lv_aload_n hx hb dX2_landing_0 rfl (lv_at hl 0 rfl) ?_
  refine gF G hw h0 KX2 0 (k2 := (k0 + 1)) rfl (by decide) rfl fl_X2_9 dX2_landing_1 ?_
  refine lv_iconst hx hb dX2_landing_4 ki_3 ?_
  refine aI G hw (sub_Flight_is hZ h0) (vin_e (by decide)) (j := 3) (by decide) dX2_landing_5 ?_
  refine lv_if_ge (tgt := 13) hx hb dX2_landing_6 (by decide) (fun c_2 => ?_) (fun c_2 => ?_)
  · have hf := (if_pos c_2).symm.trans hf
    refine lv_aload_n hx hb dX2_landing_13 rfl (lv_at hl 0 rfl) ?_
    refine gF G hw h0 KX2 0 (k2 := (k0 + 1)) rfl (by decide) rfl fl_X2_9 dX2_landing_14 ?_
    refine lv_iconst hx hb dX2_landing_17 ki_3 ?_
    refine aI G hw (sub_Flight_is hZ h0) (vin_e (by decide)) (j := 3) (by decide) dX2_landing_18 ?_
    refine lv_bipush hx hb dX2_landing_19 kb_9 ?_
    refine lv_icmp_gt (tgt := 28) hx hb dX2_landing_21 (by decide) (fun c_1 => ?_) (fun c_1 => ?_)
    · have hf := (if_pos c_1).symm.trans hf
      refine lv_iconst hx hb dX2_landing_28 ki_2 ?_
      exact hret _ _ _ _ _ dX2_landing_29 hf hw
    · have hf := (if_neg c_1).symm.trans hf
      refine lv_iconst hx hb dX2_landing_24 ki_1 ?_
      refine lv_goto (tgt := 29) hx hb dX2_landing_25 (by decide) ?_
      exact hret _ _ _ _ _ dX2_landing_29 hf hw
  · have hf := (if_neg c_2).symm.trans hf
    refine lv_iconst hx hb dX2_landing_9 ki_0 ?_
    refine lv_goto (tgt := 29) hx hb dX2_landing_10 (by decide) ?_
    exact hret _ _ _ _ _ dX2_landing_29 hf hw
noncomputable def F2_how (S : pS) (k0 : Nat) (a1 : Int32) : Int32 :=
  bL (F2_landing S k0) fun l2_1 =>
  if l2_1 ≤ 0 then
    if (S k0 1) < ((jabs (S k0 2)) * a1) then
      (4 : Int32)
    else
      (0 : Int32)
  else
    l2_1 + 1
set_option maxRecDepth 100000 in
set_option maxHeartbeats 4000000 in
theorem wX2_how {l : Launch} {Z : pZ}  (hZ : CC Z) (S : pS) (k0 : Nat) (a1 : Int32) (r : Int32) (h0 : isA Z K_Flight k0) (hf : F2_how S k0 a1 = r) : CI l Z yX2_how cX2_how 3 .int 4 80 [.ref (za Z k0), .int a1] S r S := by
  unfold F2_how at hf
  refine eI (own := RX2) (by decide) rfl (Nat.le_of_ble_eq_true rfl) (fun p e s m args below meth c Q ls G hl hw hret => ?_)
  obtain ⟨hx, hb, hml, hown, hts⟩ := G.1
  have hl : lv_has ls 3 [(0, .ref (za Z k0)), (1, .int a1)] := hl
  refine lv_aload_n hx hb dX2_how_0 rfl (lv_at hl 0 rfl) ?_
  refine kVi (rest := []) G hw (wX2_landing hZ S k0 (F2_landing S k0) h0 rfl) cw_X2_65 h0 KX2 ⟨Nat.le_of_ble_eq_true rfl, Nat.le_of_ble_eq_true rfl⟩ rfl hl.1 rfl (Nat.le_of_ble_eq_true rfl) ⟨Nat.le_refl _, Nat.le_refl _⟩ dX2_how_1 (fun H locs hw => ?_)
  obtain ⟨l2_1, el2_1, hf⟩ := bL_e hf
  refine top_i el2_1 ?_
  refine lv_istore_n (lv' := [(2, .int l2_1), (0, .ref (za Z k0)), (1, .int a1)]) hx hb dX2_how_4 rfl hl (by decide) rfl (fun ls hl => ?_)
  refine lv_iload_n hx hb dX2_how_5 rfl (lv_at hl 0 rfl) ?_
  refine lv_if_le (tgt := 13) hx hb dX2_how_6 (by decide) (fun c_3 => ?_) (fun c_3 => ?_)
  · have hf := (if_pos c_3).symm.trans hf
    refine lv_aload_n hx hb dX2_how_13 rfl (lv_at hl 1 rfl) ?_
    refine gI G hw h0 KX2 2 (by decide) rfl fl_X2_35 dX2_how_14 ?_
    refine xabs G hl.1 ml_X2_69 (Nat.le_of_ble_eq_true rfl) (Nat.le_of_ble_eq_true rfl) ⟨Nat.le_refl _, Nat.le_refl _⟩ dX2_how_17 ?_
    refine lv_iload_n hx hb dX2_how_20 rfl (lv_at hl 2 rfl) ?_
    refine lv_imul hx hb dX2_how_21 ?_
    refine lv_aload_n hx hb dX2_how_22 rfl (lv_at hl 1 rfl) ?_
    refine gI G hw h0 KX2 1 (by decide) rfl fl_X2_31 dX2_how_23 ?_
    refine lv_icmp_gt (tgt := 33) hx hb dX2_how_26 (by decide) (fun c_2 => ?_) (fun c_2 => ?_)
    · have hf := (if_pos c_2).symm.trans hf
      refine lv_iconst hx hb dX2_how_33 ki_4 ?_
      exact hret _ _ _ _ _ dX2_how_34 hf hw
    · have hf := (if_neg c_2).symm.trans hf
      refine lv_iconst hx hb dX2_how_29 ki_0 ?_
      refine lv_goto (tgt := 34) hx hb dX2_how_30 (by decide) ?_
      exact hret _ _ _ _ _ dX2_how_34 hf hw
  · have hf := (if_neg c_3).symm.trans hf
    refine lv_iload_n hx hb dX2_how_9 rfl (lv_at hl 0 rfl) ?_
    refine lv_iconst hx hb dX2_how_10 ki_1 ?_
    refine lv_iadd hx hb dX2_how_11 ?_
    exact hret _ _ _ _ _ dX2_how_12 hf hw
noncomputable def F4_remember (S : pS) (k0 : Nat) (k1 : Nat) (k2 : Nat) : Option (pS) :=
  bL (sU S k0 1 (((S k0 1) + 1) - ((S k0 1) + 1) / 8 * 8)) fun S_1 =>
  bL (sU S_1 k0 0 (jmin 8 ((S_1 k0 0) + 1))) fun S_2 =>
  bG (vp_in (S_2 k0 1) 8) <|
  bL (sU S_2 ((k0 + 2) + (S_2 k0 1).toNatClampNeg) 0 (S_2 k1 0)) fun S_4 =>
  bL (sU S_4 ((k0 + 2) + (S_2 k0 1).toNatClampNeg) 1 (S_4 k1 6)) fun S_5 =>
  bL (sU S_5 ((k0 + 2) + (S_2 k0 1).toNatClampNeg) 2 (S_5 k1 2)) fun S_6 =>
  bL (sU S_6 ((k0 + 2) + (S_2 k0 1).toNatClampNeg) 3 (S_6 k1 3)) fun S_7 =>
  bL (sU S_7 ((k0 + 2) + (S_2 k0 1).toNatClampNeg) 4 (S_7 k2 1)) fun S_8 =>
  bL (sU S_8 ((k0 + 2) + (S_2 k0 1).toNatClampNeg) 5 (S_8 k2 2)) fun S_9 =>
  bL (sU S_9 ((k0 + 2) + (S_2 k0 1).toNatClampNeg) 6 (S_9 k2 3)) fun S_10 =>
  bL (sU S_10 ((k0 + 2) + (S_2 k0 1).toNatClampNeg) 7 (S_10 k2 5)) fun S_11 =>
  some S_11
set_option maxRecDepth 100000 in
set_option maxHeartbeats 4000000 in
theorem wX4_remember {l : Launch} {Z : pZ}  (hZ : CC Z) (S : pS) (k0 : Nat) (k1 : Nat) (k2 : Nat) (S2 : pS) (h0 : isA Z K_Past k0) (h1 : isA Z K_World k1) (h2 : isA Z K_Thrower k2) (hf : F4_remember S k0 k1 k2 = some S2) : CV l Z yX4_remember cX4_remember 4 3 60 [.ref (za Z k0), .ref (za Z k1), .ref (za Z k2)] S S2 := by
  unfold F4_remember at hf
  refine eV (own := RX4) (by decide) rfl (Nat.le_of_ble_eq_true rfl) (fun p e s m args below meth c Q ls G hl hw hret => ?_)
  obtain ⟨hx, hb, hml, hown, hts⟩ := G.1
  have hl : lv_has ls 4 [(0, .ref (za Z k0)), (1, .ref (za Z k1)), (2, .ref (za Z k2))] := hl
  refine lv_aload_n hx hb dX4_remember_0 rfl (lv_at hl 0 rfl) ?_
  refine lv_aload_n hx hb dX4_remember_1 rfl (lv_at hl 0 rfl) ?_
  refine gI G hw h0 KX4 1 (by decide) rfl fl_X4_18 dX4_remember_2 ?_
  refine lv_iconst hx hb dX4_remember_5 ki_1 ?_
  refine lv_iadd hx hb dX4_remember_6 ?_
  refine lv_bipush hx hb dX4_remember_7 kb_8 ?_
  refine lv_irem hx hb dX4_remember_9 (by decide) ?_
  obtain ⟨S_1, eS_1, hf⟩ := bL_e hf
  refine pI G hw h0 KX4 1 (by decide) rfl rfl rfl eS_1 fl_X4_18 dX4_remember_10 (fun H locs hw => ?_)
  refine lv_aload_n hx hb dX4_remember_13 rfl (lv_at hl 0 rfl) ?_
  refine lv_bipush hx hb dX4_remember_14 kb_8 ?_
  refine lv_aload_n hx hb dX4_remember_16 rfl (lv_at hl 0 rfl) ?_
  refine gI G hw h0 KX4 0 (by decide) rfl fl_X4_14 dX4_remember_17 ?_
  refine lv_iconst hx hb dX4_remember_20 ki_1 ?_
  refine lv_iadd hx hb dX4_remember_21 ?_
  refine xmin G hl.1 ml_X4_21 (Nat.le_of_ble_eq_true rfl) (Nat.le_of_ble_eq_true rfl) ⟨Nat.le_refl _, Nat.le_refl _⟩ dX4_remember_22 ?_
  obtain ⟨S_2, eS_2, hf⟩ := bL_e hf
  refine pI G hw h0 KX4 0 (by decide) rfl rfl rfl eS_2 fl_X4_14 dX4_remember_25 (fun H locs hw => ?_)
  refine lv_aload_n hx hb dX4_remember_28 rfl (lv_at hl 0 rfl) ?_
  refine gF G hw h0 KX4 2 (k2 := (k0 + 1)) rfl (by decide) rfl fl_X4_11 dX4_remember_29 ?_
  refine lv_aload_n hx hb dX4_remember_32 rfl (lv_at hl 0 rfl) ?_
  refine gI G hw h0 KX4 1 (by decide) rfl fl_X4_18 dX4_remember_33 ?_
  obtain ⟨hg_3, hf⟩ := bG_e hf
  refine aG G hw (sub_Past_rows hZ h0) hg_3 (j := (S_2 k0 1).toNatClampNeg) (k2 := ((k0 + 2) + (S_2 k0 1).toNatClampNeg)) rfl rfl dX4_remember_36 ?_
  refine lv_astore_n (lv' := [(3, .ref (za Z ((k0 + 2) + (S_2 k0 1).toNatClampNeg))), (0, .ref (za Z k0)), (1, .ref (za Z k1)), (2, .ref (za Z k2))]) hx hb dX4_remember_37 rfl hl (by decide) rfl (fun ls hl => ?_)
  refine lv_aload_n hx hb dX4_remember_38 rfl (lv_at hl 0 rfl) ?_
  refine lv_iconst hx hb dX4_remember_39 ki_0 ?_
  refine lv_aload_n hx hb dX4_remember_40 rfl (lv_at hl 2 rfl) ?_
  refine gI G hw h1 KX10 0 (by decide) rfl fl_X4_27 dX4_remember_41 ?_
  obtain ⟨S_4, eS_4, hf⟩ := bL_e hf
  refine sI G hw (gr_G8x8 hZ (sub_Past_rows hZ h0) (vin_lt hg_3)) (vin_e (by decide)) (j := 0) (by decide) eS_4 dX4_remember_44 (fun H locs hw => ?_)
  refine lv_aload_n hx hb dX4_remember_45 rfl (lv_at hl 0 rfl) ?_
  refine lv_iconst hx hb dX4_remember_46 ki_1 ?_
  refine lv_aload_n hx hb dX4_remember_47 rfl (lv_at hl 2 rfl) ?_
  refine gI G hw h1 KX10 6 (by decide) rfl fl_X4_32 dX4_remember_48 ?_
  obtain ⟨S_5, eS_5, hf⟩ := bL_e hf
  refine sI G hw (gr_G8x8 hZ (sub_Past_rows hZ h0) (vin_lt hg_3)) (vin_e (by decide)) (j := 1) (by decide) eS_5 dX4_remember_51 (fun H locs hw => ?_)
  refine lv_aload_n hx hb dX4_remember_52 rfl (lv_at hl 0 rfl) ?_
  refine lv_iconst hx hb dX4_remember_53 ki_2 ?_
  refine lv_aload_n hx hb dX4_remember_54 rfl (lv_at hl 2 rfl) ?_
  refine gI G hw h1 KX10 2 (by decide) rfl fl_X4_35 dX4_remember_55 ?_
  obtain ⟨S_6, eS_6, hf⟩ := bL_e hf
  refine sI G hw (gr_G8x8 hZ (sub_Past_rows hZ h0) (vin_lt hg_3)) (vin_e (by decide)) (j := 2) (by decide) eS_6 dX4_remember_58 (fun H locs hw => ?_)
  refine lv_aload_n hx hb dX4_remember_59 rfl (lv_at hl 0 rfl) ?_
  refine lv_iconst hx hb dX4_remember_60 ki_3 ?_
  refine lv_aload_n hx hb dX4_remember_61 rfl (lv_at hl 2 rfl) ?_
  refine gI G hw h1 KX10 3 (by decide) rfl fl_X4_38 dX4_remember_62 ?_
  obtain ⟨S_7, eS_7, hf⟩ := bL_e hf
  refine sI G hw (gr_G8x8 hZ (sub_Past_rows hZ h0) (vin_lt hg_3)) (vin_e (by decide)) (j := 3) (by decide) eS_7 dX4_remember_65 (fun H locs hw => ?_)
  refine lv_aload_n hx hb dX4_remember_66 rfl (lv_at hl 0 rfl) ?_
  refine lv_iconst hx hb dX4_remember_67 ki_4 ?_
  refine lv_aload_n hx hb dX4_remember_68 rfl (lv_at hl 3 rfl) ?_
  refine gI G hw h2 KX8 1 (by decide) rfl fl_X4_41 dX4_remember_69 ?_
  obtain ⟨S_8, eS_8, hf⟩ := bL_e hf
  refine sI G hw (gr_G8x8 hZ (sub_Past_rows hZ h0) (vin_lt hg_3)) (vin_e (by decide)) (j := 4) (by decide) eS_8 dX4_remember_72 (fun H locs hw => ?_)
  refine lv_aload_n hx hb dX4_remember_73 rfl (lv_at hl 0 rfl) ?_
  refine lv_iconst hx hb dX4_remember_74 ki_5 ?_
  refine lv_aload_n hx hb dX4_remember_75 rfl (lv_at hl 3 rfl) ?_
  refine gI G hw h2 KX8 2 (by decide) rfl fl_X4_46 dX4_remember_76 ?_
  obtain ⟨S_9, eS_9, hf⟩ := bL_e hf
  refine sI G hw (gr_G8x8 hZ (sub_Past_rows hZ h0) (vin_lt hg_3)) (vin_e (by decide)) (j := 5) (by decide) eS_9 dX4_remember_79 (fun H locs hw => ?_)
  refine lv_aload_n hx hb dX4_remember_80 rfl (lv_at hl 0 rfl) ?_
  refine lv_bipush hx hb dX4_remember_81 kb_6 ?_
  refine lv_aload_n hx hb dX4_remember_83 rfl (lv_at hl 3 rfl) ?_
  refine gI G hw h2 KX8 3 (by decide) rfl fl_X4_49 dX4_remember_84 ?_
  obtain ⟨S_10, eS_10, hf⟩ := bL_e hf
  refine sI G hw (gr_G8x8 hZ (sub_Past_rows hZ h0) (vin_lt hg_3)) (vin_e (by decide)) (j := 6) (by decide) eS_10 dX4_remember_87 (fun H locs hw => ?_)
  refine lv_aload_n hx hb dX4_remember_88 rfl (lv_at hl 0 rfl) ?_
  refine lv_bipush hx hb dX4_remember_89 kb_7 ?_
  refine lv_aload_n hx hb dX4_remember_91 rfl (lv_at hl 3 rfl) ?_
  refine gI G hw h2 KX8 5 (by decide) rfl fl_X4_52 dX4_remember_92 ?_
  obtain ⟨S_11, eS_11, hf⟩ := bL_e hf
  refine sI G hw (gr_G8x8 hZ (sub_Past_rows hZ h0) (vin_lt hg_3)) (vin_e (by decide)) (j := 7) (by decide) eS_11 dX4_remember_95 (fun H locs hw => ?_)
  exact hret _ _ _ _ dX4_remember_96 (by rw [← (Option.some.inj hf)]; exact hw)
noncomputable def F10_draw (S : pS) (k0 : Nat) (a1 : Int32) : Option (Int32 × pS) :=
  bL (sU S k0 0 (((S k0 0) * 1664525) + 1013904223)) fun S_1 =>
  if a1 ≤ 0 then
    some ((0 : Int32), S_1)
  else
    bG (¬ a1 = 0) <|
    some ((((S_1 k0 0).toUInt32 >>> ((8 : Int32).toUInt32 &&& Int32.toUInt32 31)).toInt32) - (((S_1 k0 0).toUInt32 >>> ((8 : Int32).toUInt32 &&& Int32.toUInt32 31)).toInt32) / a1 * a1, S_1)
set_option maxRecDepth 100000 in
set_option maxHeartbeats 4000000 in
theorem wX10_draw {l : Launch} {Z : pZ}  (hZ : CC Z) (S : pS) (k0 : Nat) (a1 : Int32) (r : Int32) (S2 : pS) (h0 : isA Z K_World k0) (hf : F10_draw S k0 a1 = some (r, S2)) : CI l Z yX10_draw cX10_draw 2 .int 3 60 [.ref (za Z k0), .int a1] S r S2 := by
  unfold F10_draw at hf
  refine eI (own := RX10) (by decide) rfl (Nat.le_of_ble_eq_true rfl) (fun p e s m args below meth c Q ls G hl hw hret => ?_)
  obtain ⟨hx, hb, hml, hown, hts⟩ := G.1
  have hl : lv_has ls 2 [(0, .ref (za Z k0)), (1, .int a1)] := hl
  refine lv_aload_n hx hb dX10_draw_0 rfl (lv_at hl 0 rfl) ?_
  refine lv_aload_n hx hb dX10_draw_1 rfl (lv_at hl 0 rfl) ?_
  refine gI G hw h0 KX10 0 (by decide) rfl fl_X10_47 dX10_draw_2 ?_
  refine lv_ldc hx hb hown (hts _ cn_X10_100) dX10_draw_5 ?_
  refine lv_imul hx hb dX10_draw_7 ?_
  refine lv_ldc hx hb hown (hts _ cn_X10_101) dX10_draw_8 ?_
  refine lv_iadd hx hb dX10_draw_10 ?_
  obtain ⟨S_1, eS_1, hf⟩ := bL_e hf
  refine pI G hw h0 KX10 0 (by decide) rfl rfl rfl eS_1 fl_X10_47 dX10_draw_11 (fun H locs hw => ?_)
  refine lv_iload_n hx hb dX10_draw_14 rfl (lv_at hl 1 rfl) ?_
  refine lv_if_le (tgt := 30) hx hb dX10_draw_15 (by decide) (fun c_2 => ?_) (fun c_2 => ?_)
  · have hf := (if_pos c_2).symm.trans hf
    refine lv_iconst hx hb dX10_draw_30 ki_0 ?_
    obtain ⟨e1, e2⟩ := Prod.mk.inj (Option.some.inj hf)
    exact hret _ _ _ _ _ dX10_draw_31 e1 (by rw [← e2]; exact hw)
  · have hf := (if_neg c_2).symm.trans hf
    refine lv_aload_n hx hb dX10_draw_18 rfl (lv_at hl 0 rfl) ?_
    refine gI G hw h0 KX10 0 (by decide) rfl fl_X10_47 dX10_draw_19 ?_
    refine lv_bipush hx hb dX10_draw_22 kb_8 ?_
    refine lv_iushr hx hb dX10_draw_24 rfl ?_
    refine lv_iload_n hx hb dX10_draw_25 rfl (lv_at hl 1 rfl) ?_
    obtain ⟨hg1, hf⟩ := bG_e hf
    refine lv_irem hx hb dX10_draw_26 hg1 ?_
    refine lv_goto (tgt := 31) hx hb dX10_draw_27 (by decide) ?_
    obtain ⟨e1, e2⟩ := Prod.mk.inj (Option.some.inj hf)
    exact hret _ _ _ _ _ dX10_draw_31 e1 (by rw [← e2]; exact hw)
noncomputable def F10_nextTurn (S : pS) (k0 : Nat) : pS :=
  bL (sU S k0 3 ((S k0 3) + 1)) fun S_1 =>
  if (S_1 k0 3) < (S_1 k0 5) then
    S_1
  else
    bL (sU S_1 k0 3 0) fun S_2 =>
    bL (sU S_2 k0 2 ((S_2 k0 2) + 1)) fun S_3 =>
    S_3
set_option maxRecDepth 100000 in
set_option maxHeartbeats 4000000 in
theorem wX10_nextTurn {l : Launch} {Z : pZ}  (hZ : CC Z) (S : pS) (k0 : Nat) (S2 : pS) (h0 : isA Z K_World k0) (hf : F10_nextTurn S k0 = S2) : CV l Z yX10_nextTurn cX10_nextTurn 1 3 60 [.ref (za Z k0)] S S2 := by
  unfold F10_nextTurn at hf
  refine eV (own := RX10) (by decide) rfl (Nat.le_of_ble_eq_true rfl) (fun p e s m args below meth c Q ls G hl hw hret => ?_)
  obtain ⟨hx, hb, hml, hown, hts⟩ := G.1
  have hl : lv_has ls 1 [(0, .ref (za Z k0))] := hl
  refine lv_aload_n hx hb dX10_nextTurn_0 rfl (lv_at hl 0 rfl) ?_
  refine lv_dup hx hb dX10_nextTurn_1 rfl ?_
  refine gI G hw h0 KX10 3 (by decide) rfl fl_X10_57 dX10_nextTurn_2 ?_
  refine lv_iconst hx hb dX10_nextTurn_5 ki_1 ?_
  refine lv_iadd hx hb dX10_nextTurn_6 ?_
  obtain ⟨S_1, eS_1, hf⟩ := bL_e hf
  refine pI G hw h0 KX10 3 (by decide) rfl rfl rfl eS_1 fl_X10_57 dX10_nextTurn_7 (fun H locs hw => ?_)
  refine lv_aload_n hx hb dX10_nextTurn_10 rfl (lv_at hl 0 rfl) ?_
  refine gI G hw h0 KX10 3 (by decide) rfl fl_X10_57 dX10_nextTurn_11 ?_
  refine lv_aload_n hx hb dX10_nextTurn_14 rfl (lv_at hl 0 rfl) ?_
  refine gI G hw h0 KX10 5 (by decide) rfl fl_X10_63 dX10_nextTurn_15 ?_
  refine lv_icmp_lt (tgt := 36) hx hb dX10_nextTurn_18 (by decide) (fun c_4 => ?_) (fun c_4 => ?_)
  · have hf := (if_pos c_4).symm.trans hf
    exact hret _ _ _ _ dX10_nextTurn_36 (by rw [← hf]; exact hw)
  · have hf := (if_neg c_4).symm.trans hf
    refine lv_aload_n hx hb dX10_nextTurn_21 rfl (lv_at hl 0 rfl) ?_
    refine lv_iconst hx hb dX10_nextTurn_22 ki_0 ?_
    obtain ⟨S_2, eS_2, hf⟩ := bL_e hf
    refine pI G hw h0 KX10 3 (by decide) rfl rfl rfl eS_2 fl_X10_57 dX10_nextTurn_23 (fun H locs hw => ?_)
    refine lv_aload_n hx hb dX10_nextTurn_26 rfl (lv_at hl 0 rfl) ?_
    refine lv_dup hx hb dX10_nextTurn_27 rfl ?_
    refine gI G hw h0 KX10 2 (by decide) rfl fl_X10_54 dX10_nextTurn_28 ?_
    refine lv_iconst hx hb dX10_nextTurn_31 ki_1 ?_
    refine lv_iadd hx hb dX10_nextTurn_32 ?_
    obtain ⟨S_3, eS_3, hf⟩ := bL_e hf
    refine pI G hw h0 KX10 2 (by decide) rfl rfl rfl eS_3 fl_X10_54 dX10_nextTurn_33 (fun H locs hw => ?_)
    exact hret _ _ _ _ dX10_nextTurn_36 (by rw [← hf]; exact hw)
noncomputable def F10_swing (S : pS) (k0 : Nat) (a1 : Int32) : Option (Int32 × pS) :=
  if a1 ≤ 0 then
    some ((0 : Int32), S)
  else
    bB2 (F10_draw S k0 ((2 * a1) + 1)) fun r_1 S_2 =>
    some (r_1 - a1, S_2)
set_option maxRecDepth 100000 in
set_option maxHeartbeats 4000000 in
theorem wX10_swing {l : Launch} {Z : pZ}  (hZ : CC Z) (S : pS) (k0 : Nat) (a1 : Int32) (r : Int32) (S2 : pS) (h0 : isA Z K_World k0) (hf : F10_swing S k0 a1 = some (r, S2)) : CI l Z yX10_swing cX10_swing 2 .int 4 81 [.ref (za Z k0), .int a1] S r S2 := by
  unfold F10_swing at hf
  refine eI (own := RX10) (by decide) rfl (Nat.le_of_ble_eq_true rfl) (fun p e s m args below meth c Q ls G hl hw hret => ?_)
  obtain ⟨hx, hb, hml, hown, hts⟩ := G.1
  have hl : lv_has ls 2 [(0, .ref (za Z k0)), (1, .int a1)] := hl
  refine lv_iload_n hx hb dX10_swing_0 rfl (lv_at hl 1 rfl) ?_
  refine lv_if_le (tgt := 18) hx hb dX10_swing_1 (by decide) (fun c_3 => ?_) (fun c_3 => ?_)
  · have hf := (if_pos c_3).symm.trans hf
    refine lv_iconst hx hb dX10_swing_18 ki_0 ?_
    obtain ⟨e1, e2⟩ := Prod.mk.inj (Option.some.inj hf)
    exact hret _ _ _ _ _ dX10_swing_19 e1 (by rw [← e2]; exact hw)
  · have hf := (if_neg c_3).symm.trans hf
    refine lv_aload_n hx hb dX10_swing_4 rfl (lv_at hl 0 rfl) ?_
    refine lv_iconst hx hb dX10_swing_5 ki_2 ?_
    refine lv_iload_n hx hb dX10_swing_6 rfl (lv_at hl 1 rfl) ?_
    refine lv_imul hx hb dX10_swing_7 ?_
    refine lv_iconst hx hb dX10_swing_8 ki_1 ?_
    refine lv_iadd hx hb dX10_swing_9 ?_
    obtain ⟨r_1, S_2, hr_1, hf⟩ := bB2_e hf
    refine kVi (rest := []) G hw (wX10_draw hZ S k0 ((2 * a1) + 1) r_1 S_2 h0 hr_1) cw_X10_102 h0 KX10 ⟨Nat.le_of_ble_eq_true rfl, Nat.le_of_ble_eq_true rfl⟩ rfl hl.1 rfl (Nat.le_of_ble_eq_true rfl) ⟨Nat.le_refl _, Nat.le_refl _⟩ dX10_swing_10 (fun H locs hw => ?_)
    refine lv_iload_n hx hb dX10_swing_13 rfl (lv_at hl 1 rfl) ?_
    refine lv_isub hx hb dX10_swing_14 ?_
    refine lv_goto (tgt := 19) hx hb dX10_swing_15 (by decide) ?_
    obtain ⟨e1, e2⟩ := Prod.mk.inj (Option.some.inj hf)
    exact hret _ _ _ _ _ dX10_swing_19 e1 (by rw [← e2]; exact hw)
noncomputable def F10_write (S : pS) (k0 : Nat) (a1 : Int32) (a2 : Int32) (a3 : Int32) (a4 : Int32) (a5 : Int32) (a6 : Int32) : Option (pS) :=
  if (S k0 6) < 100 then
    bL ((S k0 6) * 9) fun l7_1 =>
    bG (vp_in (l7_1 + 0) 900) <|
    bL (sU S (k0 + 5) ((l7_1 + 0).toNatClampNeg) (S k0 1)) fun S_3 =>
    bG (vp_in (l7_1 + 1) 900) <|
    bL (sU S_3 (k0 + 5) ((l7_1 + 1).toNatClampNeg) (S_3 k0 2)) fun S_5 =>
    bG (vp_in (l7_1 + 2) 900) <|
    bL (sU S_5 (k0 + 5) ((l7_1 + 2).toNatClampNeg) (S_5 k0 3)) fun S_7 =>
    bG (vp_in (l7_1 + 3) 900) <|
    bL (sU S_7 (k0 + 5) ((l7_1 + 3).toNatClampNeg) a1) fun S_9 =>
    bG (vp_in (l7_1 + 4) 900) <|
    bL (sU S_9 (k0 + 5) ((l7_1 + 4).toNatClampNeg) a2) fun S_11 =>
    bG (vp_in (l7_1 + 5) 900) <|
    bL (sU S_11 (k0 + 5) ((l7_1 + 5).toNatClampNeg) a3) fun S_13 =>
    bG (vp_in (l7_1 + 6) 900) <|
    bL (sU S_13 (k0 + 5) ((l7_1 + 6).toNatClampNeg) a4) fun S_15 =>
    bG (vp_in (l7_1 + 7) 900) <|
    bL (sU S_15 (k0 + 5) ((l7_1 + 7).toNatClampNeg) a5) fun S_17 =>
    bG (vp_in (l7_1 + 8) 900) <|
    bL (sU S_17 (k0 + 5) ((l7_1 + 8).toNatClampNeg) a6) fun S_19 =>
    bL (sU S_19 k0 6 ((S_19 k0 6) + 1)) fun S_20 =>
    some S_20
  else
    some S
set_option maxRecDepth 100000 in
set_option maxHeartbeats 4000000 in
theorem wX10_write {l : Launch} {Z : pZ}  (hZ : CC Z) (S : pS) (k0 : Nat) (a1 : Int32) (a2 : Int32) (a3 : Int32) (a4 : Int32) (a5 : Int32) (a6 : Int32) (S2 : pS) (h0 : isA Z K_World k0) (hf : F10_write S k0 a1 a2 a3 a4 a5 a6 = some S2) : CV l Z yX10_write cX10_write 8 3 60 [.ref (za Z k0), .int a1, .int a2, .int a3, .int a4, .int a5, .int a6] S S2 := by
  unfold F10_write at hf
  refine eV (own := RX10) (by decide) rfl (Nat.le_of_ble_eq_true rfl) (fun p e s m args below meth c Q ls G hl hw hret => ?_)
  obtain ⟨hx, hb, hml, hown, hts⟩ := G.1
  have hl : lv_has ls 8 [(0, .ref (za Z k0)), (1, .int a1), (2, .int a2), (3, .int a3), (4, .int a4), (5, .int a5), (6, .int a6)] := hl
  refine lv_aload_n hx hb dX10_write_0 rfl (lv_at hl 0 rfl) ?_
  refine gI G hw h0 KX10 6 (by decide) rfl fl_X10_66 dX10_write_1 ?_
  refine lv_bipush hx hb dX10_write_4 kb_100 ?_
  refine lv_icmp_lt (tgt := 10) hx hb dX10_write_6 (by decide) (fun c_21 => ?_) (fun c_21 => ?_)
  · have hf := (if_pos c_21).symm.trans hf
    refine lv_aload_n hx hb dX10_write_10 rfl (lv_at hl 0 rfl) ?_
    refine gI G hw h0 KX10 6 (by decide) rfl fl_X10_66 dX10_write_11 ?_
    refine lv_bipush hx hb dX10_write_14 kb_9 ?_
    refine lv_imul hx hb dX10_write_16 ?_
    obtain ⟨l7_1, el7_1, hf⟩ := bL_e hf
    refine top_i el7_1 ?_
    refine lv_istore (lv' := [(7, .int l7_1), (0, .ref (za Z k0)), (1, .int a1), (2, .int a2), (3, .int a3), (4, .int a4), (5, .int a5), (6, .int a6)]) hx hb dX10_write_17 hl (by decide) rfl (fun ls hl => ?_)
    refine lv_aload_n hx hb dX10_write_19 rfl (lv_at hl 1 rfl) ?_
    refine gF G hw h0 KX10 12 (k2 := (k0 + 5)) rfl (by decide) rfl fl_X10_27 dX10_write_20 ?_
    refine lv_iload hx hb dX10_write_23 (lv_at hl 0 rfl) ?_
    refine lv_iconst hx hb dX10_write_25 ki_0 ?_
    refine lv_iadd hx hb dX10_write_26 ?_
    refine lv_aload_n hx hb dX10_write_27 rfl (lv_at hl 1 rfl) ?_
    refine gI G hw h0 KX10 1 (by decide) rfl fl_X10_51 dX10_write_28 ?_
    obtain ⟨hg_2, hf⟩ := bG_e hf
    obtain ⟨S_3, eS_3, hf⟩ := bL_e hf
    refine sI G hw (sub_World_lineOf hZ h0) hg_2 (j := (l7_1 + 0).toNatClampNeg) rfl eS_3 dX10_write_31 (fun H locs hw => ?_)
    refine lv_aload_n hx hb dX10_write_32 rfl (lv_at hl 1 rfl) ?_
    refine gF G hw h0 KX10 12 (k2 := (k0 + 5)) rfl (by decide) rfl fl_X10_27 dX10_write_33 ?_
    refine lv_iload hx hb dX10_write_36 (lv_at hl 0 rfl) ?_
    refine lv_iconst hx hb dX10_write_38 ki_1 ?_
    refine lv_iadd hx hb dX10_write_39 ?_
    refine lv_aload_n hx hb dX10_write_40 rfl (lv_at hl 1 rfl) ?_
    refine gI G hw h0 KX10 2 (by decide) rfl fl_X10_54 dX10_write_41 ?_
    obtain ⟨hg_4, hf⟩ := bG_e hf
    obtain ⟨S_5, eS_5, hf⟩ := bL_e hf
    refine sI G hw (sub_World_lineOf hZ h0) hg_4 (j := (l7_1 + 1).toNatClampNeg) rfl eS_5 dX10_write_44 (fun H locs hw => ?_)
    refine lv_aload_n hx hb dX10_write_45 rfl (lv_at hl 1 rfl) ?_
    refine gF G hw h0 KX10 12 (k2 := (k0 + 5)) rfl (by decide) rfl fl_X10_27 dX10_write_46 ?_
    refine lv_iload hx hb dX10_write_49 (lv_at hl 0 rfl) ?_
    refine lv_iconst hx hb dX10_write_51 ki_2 ?_
    refine lv_iadd hx hb dX10_write_52 ?_
    refine lv_aload_n hx hb dX10_write_53 rfl (lv_at hl 1 rfl) ?_
    refine gI G hw h0 KX10 3 (by decide) rfl fl_X10_57 dX10_write_54 ?_
    obtain ⟨hg_6, hf⟩ := bG_e hf
    obtain ⟨S_7, eS_7, hf⟩ := bL_e hf
    refine sI G hw (sub_World_lineOf hZ h0) hg_6 (j := (l7_1 + 2).toNatClampNeg) rfl eS_7 dX10_write_57 (fun H locs hw => ?_)
    refine lv_aload_n hx hb dX10_write_58 rfl (lv_at hl 1 rfl) ?_
    refine gF G hw h0 KX10 12 (k2 := (k0 + 5)) rfl (by decide) rfl fl_X10_27 dX10_write_59 ?_
    refine lv_iload hx hb dX10_write_62 (lv_at hl 0 rfl) ?_
    refine lv_iconst hx hb dX10_write_64 ki_3 ?_
    refine lv_iadd hx hb dX10_write_65 ?_
    refine lv_iload_n hx hb dX10_write_66 rfl (lv_at hl 2 rfl) ?_
    obtain ⟨hg_8, hf⟩ := bG_e hf
    obtain ⟨S_9, eS_9, hf⟩ := bL_e hf
    refine sI G hw (sub_World_lineOf hZ h0) hg_8 (j := (l7_1 + 3).toNatClampNeg) rfl eS_9 dX10_write_67 (fun H locs hw => ?_)
    refine lv_aload_n hx hb dX10_write_68 rfl (lv_at hl 1 rfl) ?_
    refine gF G hw h0 KX10 12 (k2 := (k0 + 5)) rfl (by decide) rfl fl_X10_27 dX10_write_69 ?_
    refine lv_iload hx hb dX10_write_72 (lv_at hl 0 rfl) ?_
    refine lv_iconst hx hb dX10_write_74 ki_4 ?_
    refine lv_iadd hx hb dX10_write_75 ?_
    refine lv_iload_n hx hb dX10_write_76 rfl (lv_at hl 3 rfl) ?_
    obtain ⟨hg_10, hf⟩ := bG_e hf
    obtain ⟨S_11, eS_11, hf⟩ := bL_e hf
    refine sI G hw (sub_World_lineOf hZ h0) hg_10 (j := (l7_1 + 4).toNatClampNeg) rfl eS_11 dX10_write_77 (fun H locs hw => ?_)
    refine lv_aload_n hx hb dX10_write_78 rfl (lv_at hl 1 rfl) ?_
    refine gF G hw h0 KX10 12 (k2 := (k0 + 5)) rfl (by decide) rfl fl_X10_27 dX10_write_79 ?_
    refine lv_iload hx hb dX10_write_82 (lv_at hl 0 rfl) ?_
    refine lv_iconst hx hb dX10_write_84 ki_5 ?_
    refine lv_iadd hx hb dX10_write_85 ?_
    refine lv_iload_n hx hb dX10_write_86 rfl (lv_at hl 4 rfl) ?_
    obtain ⟨hg_12, hf⟩ := bG_e hf
    obtain ⟨S_13, eS_13, hf⟩ := bL_e hf
    refine sI G hw (sub_World_lineOf hZ h0) hg_12 (j := (l7_1 + 5).toNatClampNeg) rfl eS_13 dX10_write_87 (fun H locs hw => ?_)
    refine lv_aload_n hx hb dX10_write_88 rfl (lv_at hl 1 rfl) ?_
    refine gF G hw h0 KX10 12 (k2 := (k0 + 5)) rfl (by decide) rfl fl_X10_27 dX10_write_89 ?_
    refine lv_iload hx hb dX10_write_92 (lv_at hl 0 rfl) ?_
    refine lv_bipush hx hb dX10_write_94 kb_6 ?_
    refine lv_iadd hx hb dX10_write_96 ?_
    refine lv_iload hx hb dX10_write_97 (lv_at hl 5 rfl) ?_
    obtain ⟨hg_14, hf⟩ := bG_e hf
    obtain ⟨S_15, eS_15, hf⟩ := bL_e hf
    refine sI G hw (sub_World_lineOf hZ h0) hg_14 (j := (l7_1 + 6).toNatClampNeg) rfl eS_15 dX10_write_99 (fun H locs hw => ?_)
    refine lv_aload_n hx hb dX10_write_100 rfl (lv_at hl 1 rfl) ?_
    refine gF G hw h0 KX10 12 (k2 := (k0 + 5)) rfl (by decide) rfl fl_X10_27 dX10_write_101 ?_
    refine lv_iload hx hb dX10_write_104 (lv_at hl 0 rfl) ?_
    refine lv_bipush hx hb dX10_write_106 kb_7 ?_
    refine lv_iadd hx hb dX10_write_108 ?_
    refine lv_iload hx hb dX10_write_109 (lv_at hl 6 rfl) ?_
    obtain ⟨hg_16, hf⟩ := bG_e hf
    obtain ⟨S_17, eS_17, hf⟩ := bL_e hf
    refine sI G hw (sub_World_lineOf hZ h0) hg_16 (j := (l7_1 + 7).toNatClampNeg) rfl eS_17 dX10_write_111 (fun H locs hw => ?_)
    refine lv_aload_n hx hb dX10_write_112 rfl (lv_at hl 1 rfl) ?_
    refine gF G hw h0 KX10 12 (k2 := (k0 + 5)) rfl (by decide) rfl fl_X10_27 dX10_write_113 ?_
    refine lv_iload hx hb dX10_write_116 (lv_at hl 0 rfl) ?_
    refine lv_bipush hx hb dX10_write_118 kb_8 ?_
    refine lv_iadd hx hb dX10_write_120 ?_
    refine lv_iload hx hb dX10_write_121 (lv_at hl 7 rfl) ?_
    obtain ⟨hg_18, hf⟩ := bG_e hf
    obtain ⟨S_19, eS_19, hf⟩ := bL_e hf
    refine sI G hw (sub_World_lineOf hZ h0) hg_18 (j := (l7_1 + 8).toNatClampNeg) rfl eS_19 dX10_write_123 (fun H locs hw => ?_)
    refine lv_aload_n hx hb dX10_write_124 rfl (lv_at hl 1 rfl) ?_
    refine lv_dup hx hb dX10_write_125 rfl ?_
    refine gI G hw h0 KX10 6 (by decide) rfl fl_X10_66 dX10_write_126 ?_
    refine lv_iconst hx hb dX10_write_129 ki_1 ?_
    refine lv_iadd hx hb dX10_write_130 ?_
    obtain ⟨S_20, eS_20, hf⟩ := bL_e hf
    refine pI G hw h0 KX10 6 (by decide) rfl rfl rfl eS_20 fl_X10_66 dX10_write_131 (fun H locs hw => ?_)
    exact hret _ _ _ _ dX10_write_134 (by rw [← (Option.some.inj hf)]; exact hw)
  · have hf := (if_neg c_21).symm.trans hf
    exact hret _ _ _ _ dX10_write_9 (by rw [← (Option.some.inj hf)]; exact hw)
noncomputable def F11_hurl (S : pS) (k1 : Nat) (a2 : Int32) (a3 : Int32) (a4 : Int32) (a5 : Int32) : Option (Int32 × pS) :=
  bB (F4_remember S 65 1 k1) fun S_1 =>
  bL (jmin (a2 + a5) (S_1 k1 0)) fun l6_2 =>
  bL (F0_ask S_1 63 k1 (S_1 1 2)) fun S_3 =>
  bL (F0_askThrow S_3 63 l6_2 a5 a3) fun S_4 =>
  bB2 (F0_tell S_4 63 15 0) fun r_5 S_6 =>
  bL (fun (t_7 : Int32) (S_8 : pS) =>
    bB2 (F10_swing S_8 1 (S_8 2 3)) fun r_9 S_10 =>
    bL (F11_hold (a3 + r_9) 0 90) fun l9_11 =>
    bB2 (F10_swing S_10 1 (S_10 2 2)) fun r_12 S_13 =>
    bL ((S_10 2 0) + r_12) fun l10_14 =>
    bB (F2_begin S_13 60 1 l6_2 l9_11 0 a4 l10_14 (S_13 2 1)) fun S_15 =>
    bB (F2_go S_15 60 8 400) fun S_16 =>
    bL (fun (t_17 : Int32) =>
      bB2 (F0_tell S_16 63 15 1) fun r_18 S_19 =>
      bL (sU S_19 k1 1 (jmin 1000 ((S_16 k1 1) + r_18))) fun S_20 =>
      bL (sU S_20 k1 3 ((S_20 k1 3) + 1)) fun S_21 =>
      bL (fun (S_22 : pS) =>
        bB (F10_write S_22 1 a4 l6_2 l9_11 l10_14 (S_22 60 1) t_17) fun S_23 =>
        bL (F10_nextTurn S_23 1) fun S_24 =>
        some (t_17, S_24)) fun j287 =>
      if t_17 = 0 then
        bL (sU S_21 k1 2 (jmax (S_21 k1 2) (S_21 60 1))) fun S_25 =>
        j287 S_25
      else
        j287 S_21) fun j224 =>
    if t_7 = 0 then
      j224 (F2_how S_16 60 (S_16 2 4))
    else
      j224 1) fun j94 =>
  bL (fun (S_28 : pS) =>
    j94 0 S_28) fun j93 =>
  if r_5 ≤ 0 then
    j93 S_6
  else
    bB2 (F10_draw S_6 1 1000) fun r_29 S_30 =>
    if r_5 ≤ r_29 then
      j93 S_30
    else
      j94 1 S_30
set_option maxRecDepth 100000 in
set_option maxHeartbeats 4000000 in
theorem wX11_hurl {l : Launch} {Z : pZ}  (hZ : CC Z) (S : pS) (k1 : Nat) (a2 : Int32) (a3 : Int32) (a4 : Int32) (a5 : Int32) (r : Int32) (S2 : pS) (h0 : isA Z K_PF 0) (h1 : isA Z K_Thrower k1) (hf : F11_hurl S k1 a2 a3 a4 a5 = some (r, S2)) : CI l Z yX11_hurl cX11_hurl 13 .int 8 180 [.ref (za Z 0), .ref (za Z k1), .int a2, .int a3, .int a4, .int a5] S r S2 := by
  unfold F11_hurl at hf
  refine eI (own := RX11) (by decide) rfl (Nat.le_of_ble_eq_true rfl) (fun p e s m args below meth c Q ls G hl hw hret => ?_)
  obtain ⟨hx, hb, hml, hown, hts⟩ := G.1
  have hl : lv_has ls 13 [(0, .ref (za Z 0)), (1, .ref (za Z k1)), (2, .int a2), (3, .int a3), (4, .int a4), (5, .int a5)] := hl
  refine lv_aload_n hx hb dX11_hurl_0 rfl (lv_at hl 0 rfl) ?_
  refine gF G hw h0 KX11 4 (k2 := 65) rfl (by decide) rfl fl_X11_40 dX11_hurl_1 ?_
  refine lv_aload_n hx hb dX11_hurl_4 rfl (lv_at hl 0 rfl) ?_
  refine gF G hw h0 KX11 0 (k2 := 1) rfl (by decide) rfl fl_X11_10 dX11_hurl_5 ?_
  refine lv_aload_n hx hb dX11_hurl_8 rfl (lv_at hl 1 rfl) ?_
  obtain ⟨S_1, hS_1, hf⟩ := bB_e hf
  refine kVv (rest := []) G hw (wX4_remember hZ S 65 1 k1 S_1 (sub_PF_past hZ h0) (sub_PF_now hZ h0) h1 hS_1) cw_X11_196 (sub_PF_past hZ h0) KX4 ⟨Nat.le_of_ble_eq_true rfl, Nat.le_of_ble_eq_true rfl⟩ rfl hl.1 rfl (Nat.le_of_ble_eq_true rfl) ⟨Nat.le_refl _, Nat.le_refl _⟩ dX11_hurl_9 (fun H locs hw => ?_)
  refine lv_iload_n hx hb dX11_hurl_12 rfl (lv_at hl 2 rfl) ?_
  refine lv_iload hx hb dX11_hurl_13 (lv_at hl 5 rfl) ?_
  refine lv_iadd hx hb dX11_hurl_15 ?_
  refine lv_aload_n hx hb dX11_hurl_16 rfl (lv_at hl 1 rfl) ?_
  refine gI G hw h1 KX8 0 (by decide) rfl fl_X11_84 dX11_hurl_17 ?_
  refine xmin G hl.1 ml_X11_200 (Nat.le_of_ble_eq_true rfl) (Nat.le_of_ble_eq_true rfl) ⟨Nat.le_refl _, Nat.le_refl _⟩ dX11_hurl_20 ?_
  obtain ⟨l6_2, el6_2, hf⟩ := bL_e hf
  refine top_i el6_2 ?_
  refine lv_istore (lv' := [(6, .int l6_2), (0, .ref (za Z 0)), (1, .ref (za Z k1)), (2, .int a2), (3, .int a3), (4, .int a4), (5, .int a5)]) hx hb dX11_hurl_23 hl (by decide) rfl (fun ls hl => ?_)
  refine lv_aload_n hx hb dX11_hurl_25 rfl (lv_at hl 1 rfl) ?_
  refine gF G hw h0 KX11 3 (k2 := 63) rfl (by decide) rfl fl_X11_33 dX11_hurl_26 ?_
  refine lv_aload_n hx hb dX11_hurl_29 rfl (lv_at hl 2 rfl) ?_
  refine lv_aload_n hx hb dX11_hurl_30 rfl (lv_at hl 1 rfl) ?_
  refine gF G hw h0 KX11 0 (k2 := 1) rfl (by decide) rfl fl_X11_10 dX11_hurl_31 ?_
  refine gI G hw (sub_PF_now hZ h0) KX10 2 (by decide) rfl fl_X11_205 dX11_hurl_34 ?_
  obtain ⟨S_3, hS_3, hf⟩ := bL_e hf
  refine kVv (rest := []) G hw (wX0_ask hZ S_1 63 k1 (S_1 1 2) S_3 (sub_PF_arms hZ h0) h1 hS_3.symm) cw_X11_208 (sub_PF_arms hZ h0) KX0 ⟨Nat.le_of_ble_eq_true rfl, Nat.le_of_ble_eq_true rfl⟩ rfl hl.1 rfl (Nat.le_of_ble_eq_true rfl) ⟨Nat.le_refl _, Nat.le_refl _⟩ dX11_hurl_37 (fun H locs hw => ?_)
  refine lv_aload_n hx hb dX11_hurl_40 rfl (lv_at hl 1 rfl) ?_
  refine gF G hw h0 KX11 3 (k2 := 63) rfl (by decide) rfl fl_X11_33 dX11_hurl_41 ?_
  refine lv_iload hx hb dX11_hurl_44 (lv_at hl 0 rfl) ?_
  refine lv_iload hx hb dX11_hurl_46 (lv_at hl 6 rfl) ?_
  refine lv_iload_n hx hb dX11_hurl_48 rfl (lv_at hl 4 rfl) ?_
  obtain ⟨S_4, hS_4, hf⟩ := bL_e hf
  refine kVv (rest := []) G hw (wX0_askThrow hZ S_3 63 l6_2 a5 a3 S_4 (sub_PF_arms hZ h0) hS_4.symm) cw_X11_212 (sub_PF_arms hZ h0) KX0 ⟨Nat.le_of_ble_eq_true rfl, Nat.le_of_ble_eq_true rfl⟩ rfl hl.1 rfl (Nat.le_of_ble_eq_true rfl) ⟨Nat.le_refl _, Nat.le_refl _⟩ dX11_hurl_49 (fun H locs hw => ?_)
  refine lv_aload_n hx hb dX11_hurl_52 rfl (lv_at hl 1 rfl) ?_
  refine gF G hw h0 KX11 3 (k2 := 63) rfl (by decide) rfl fl_X11_33 dX11_hurl_53 ?_
  refine lv_aload_n hx hb dX11_hurl_56 rfl (lv_at hl 1 rfl) ?_
  refine gF G hw h0 KX11 0 (k2 := 1) rfl (by decide) rfl fl_X11_10 dX11_hurl_57 ?_
  refine gF G hw (sub_PF_now hZ h0) KX10 15 (k2 := 15) rfl (by decide) rfl fl_X11_124 dX11_hurl_60 ?_
  refine lv_iconst hx hb dX11_hurl_63 ki_0 ?_
  obtain ⟨r_5, S_6, hr_5, hf⟩ := bB2_e hf
  refine kVi (rest := []) G hw (wX0_tell hZ S_4 63 15 0 r_5 S_6 (sub_PF_arms hZ h0) (sub_World_arms hZ (sub_PF_now hZ h0)) hr_5) cw_X11_216 (sub_PF_arms hZ h0) KX0 ⟨Nat.le_of_ble_eq_true rfl, Nat.le_of_ble_eq_true rfl⟩ rfl hl.1 rfl (Nat.le_of_ble_eq_true rfl) ⟨Nat.le_refl _, Nat.le_refl _⟩ dX11_hurl_64 (fun H locs hw => ?_)
  refine lv_istore (lv' := [(7, .int r_5), (6, .int l6_2), (0, .ref (za Z 0)), (1, .ref (za Z k1)), (2, .int a2), (3, .int a3), (4, .int a4), (5, .int a5)]) hx hb dX11_hurl_67 hl (by decide) rfl (fun ls hl => ?_)
  refine lv_iload hx hb dX11_hurl_69 (lv_at hl 0 rfl) ?_
  obtain ⟨j94, ej, hf⟩ := bL_e hf
  have R94 : ∀ (t_7 : Int32) (S_8 : pS) (H : Heap) (locs : List Loc) (ls : Array Slot), Wd Z s S_8 H locs → lv_has ls 13 [(0, .ref (za Z 0)), (1, .ref (za Z k1)), (3, .int a3), (4, .int a4), (6, .int l6_2)] → j94 t_7 S_8 = some (r, S2) → W p l e { frames := 8, cells := 0, slots := 0, locals := 180 } s m args below meth c H locs 0 0 Q (F0 m 94 ls [.int t_7]) := by
    intro t_7 S_8 H locs ls hw hl hf
    have hf := (congrFun (congrFun ej t_7) S_8).symm.trans hf
    refine lv_istore (lv' := [(8, .int t_7), (0, .ref (za Z 0)), (1, .ref (za Z k1)), (3, .int a3), (4, .int a4), (6, .int l6_2)]) hx hb dX11_hurl_94 hl (by decide) rfl (fun ls hl => ?_)
    refine lv_iload_n hx hb dX11_hurl_96 rfl (lv_at hl 3 rfl) ?_
    refine lv_aload_n hx hb dX11_hurl_97 rfl (lv_at hl 1 rfl) ?_
    refine gF G hw h0 KX11 0 (k2 := 1) rfl (by decide) rfl fl_X11_10 dX11_hurl_98 ?_
    refine lv_aload_n hx hb dX11_hurl_101 rfl (lv_at hl 1 rfl) ?_
    refine gF G hw h0 KX11 0 (k2 := 1) rfl (by decide) rfl fl_X11_10 dX11_hurl_102 ?_
    refine gF G hw (sub_PF_now hZ h0) KX10 8 (k2 := 2) rfl (by decide) rfl fl_X11_222 dX11_hurl_105 ?_
    refine lv_iconst hx hb dX11_hurl_108 ki_3 ?_
    refine aI G hw (sub_World_told hZ (sub_PF_now hZ h0)) (vin_e (by decide)) (j := 3) (by decide) dX11_hurl_109 ?_
    obtain ⟨r_9, S_10, hr_9, hf⟩ := bB2_e hf
    refine kVi (rest := [.int a3]) G hw (wX10_swing hZ S_8 1 (S_8 2 3) r_9 S_10 (sub_PF_now hZ h0) hr_9) cw_X11_225 (sub_PF_now hZ h0) KX10 ⟨Nat.le_of_ble_eq_true rfl, Nat.le_of_ble_eq_true rfl⟩ rfl hl.1 rfl (Nat.le_of_ble_eq_true rfl) ⟨Nat.le_refl _, Nat.le_refl _⟩ dX11_hurl_110 (fun H locs hw => ?_)
    refine lv_iadd hx hb dX11_hurl_113 ?_
    refine lv_iconst hx hb dX11_hurl_114 ki_0 ?_
    refine lv_bipush hx hb dX11_hurl_115 kb_90 ?_
    refine kSi (rest := []) G hw (wX11_hold hZ S_10 (a3 + r_9) 0 90 (F11_hold (a3 + r_9) 0 90) rfl) cw_X11_228 ⟨Nat.le_of_ble_eq_true rfl, Nat.le_of_ble_eq_true rfl⟩ rfl hl.1 rfl (Nat.le_of_ble_eq_true rfl) ⟨Nat.le_refl _, Nat.le_refl _⟩ dX11_hurl_117 (fun H locs hw => ?_)
    obtain ⟨l9_11, el9_11, hf⟩ := bL_e hf
    refine top_i el9_11 ?_
    refine lv_istore (lv' := [(9, .int l9_11), (8, .int t_7), (0, .ref (za Z 0)), (1, .ref (za Z k1)), (3, .int a3), (4, .int a4), (6, .int l6_2)]) hx hb dX11_hurl_120 hl (by decide) rfl (fun ls hl => ?_)
    refine lv_aload_n hx hb dX11_hurl_122 rfl (lv_at hl 2 rfl) ?_
    refine gF G hw h0 KX11 0 (k2 := 1) rfl (by decide) rfl fl_X11_10 dX11_hurl_123 ?_
    refine gF G hw (sub_PF_now hZ h0) KX10 8 (k2 := 2) rfl (by decide) rfl fl_X11_222 dX11_hurl_126 ?_
    refine lv_iconst hx hb dX11_hurl_129 ki_0 ?_
    refine aI G hw (sub_World_told hZ (sub_PF_now hZ h0)) (vin_e (by decide)) (j := 0) (by decide) dX11_hurl_130 ?_
    refine lv_aload_n hx hb dX11_hurl_131 rfl (lv_at hl 2 rfl) ?_
    refine gF G hw h0 KX11 0 (k2 := 1) rfl (by decide) rfl fl_X11_10 dX11_hurl_132 ?_
    refine lv_aload_n hx hb dX11_hurl_135 rfl (lv_at hl 2 rfl) ?_
    refine gF G hw h0 KX11 0 (k2 := 1) rfl (by decide) rfl fl_X11_10 dX11_hurl_136 ?_
    refine gF G hw (sub_PF_now hZ h0) KX10 8 (k2 := 2) rfl (by decide) rfl fl_X11_222 dX11_hurl_139 ?_
    refine lv_iconst hx hb dX11_hurl_142 ki_2 ?_
    refine aI G hw (sub_World_told hZ (sub_PF_now hZ h0)) (vin_e (by decide)) (j := 2) (by decide) dX11_hurl_143 ?_
    obtain ⟨r_12, S_13, hr_12, hf⟩ := bB2_e hf
    refine kVi (rest := [.int (S_10 2 0)]) G hw (wX10_swing hZ S_10 1 (S_10 2 2) r_12 S_13 (sub_PF_now hZ h0) hr_12) cw_X11_225 (sub_PF_now hZ h0) KX10 ⟨Nat.le_of_ble_eq_true rfl, Nat.le_of_ble_eq_true rfl⟩ rfl hl.1 rfl (Nat.le_of_ble_eq_true rfl) ⟨Nat.le_refl _, Nat.le_refl _⟩ dX11_hurl_144 (fun H locs hw => ?_)
    refine lv_iadd hx hb dX11_hurl_147 ?_
    obtain ⟨l10_14, el10_14, hf⟩ := bL_e hf
    refine top_i el10_14 ?_
    refine lv_istore (lv' := [(10, .int l10_14), (9, .int l9_11), (8, .int t_7), (0, .ref (za Z 0)), (1, .ref (za Z k1)), (3, .int a3), (4, .int a4), (6, .int l6_2)]) hx hb dX11_hurl_148 hl (by decide) rfl (fun ls hl => ?_)
    refine lv_aload_n hx hb dX11_hurl_150 rfl (lv_at hl 3 rfl) ?_
    refine gF G hw h0 KX11 2 (k2 := 59) rfl (by decide) rfl fl_X11_26 dX11_hurl_151 ?_
    refine gF G hw (sub_PF_thought hZ h0) KX7 0 (k2 := 60) rfl (by decide) rfl fl_X11_232 dX11_hurl_154 ?_
    refine lv_astore (lv' := [(11, .ref (za Z 60)), (10, .int l10_14), (9, .int l9_11), (8, .int t_7), (0, .ref (za Z 0)), (1, .ref (za Z k1)), (3, .int a3), (4, .int a4), (6, .int l6_2)]) hx hb dX11_hurl_157 hl (by decide) rfl (fun ls hl => ?_)
    refine lv_aload hx hb dX11_hurl_159 (lv_at hl 0 rfl) ?_
    refine lv_aload_n hx hb dX11_hurl_161 rfl (lv_at hl 4 rfl) ?_
    refine gF G hw h0 KX11 0 (k2 := 1) rfl (by decide) rfl fl_X11_10 dX11_hurl_162 ?_
    refine lv_iload hx hb dX11_hurl_165 (lv_at hl 8 rfl) ?_
    refine lv_iload hx hb dX11_hurl_167 (lv_at hl 2 rfl) ?_
    refine lv_iconst hx hb dX11_hurl_169 ki_0 ?_
    refine lv_iload hx hb dX11_hurl_170 (lv_at hl 7 rfl) ?_
    refine lv_iload hx hb dX11_hurl_172 (lv_at hl 1 rfl) ?_
    refine lv_aload_n hx hb dX11_hurl_174 rfl (lv_at hl 4 rfl) ?_
    refine gF G hw h0 KX11 0 (k2 := 1) rfl (by decide) rfl fl_X11_10 dX11_hurl_175 ?_
    refine gF G hw (sub_PF_now hZ h0) KX10 8 (k2 := 2) rfl (by decide) rfl fl_X11_222 dX11_hurl_178 ?_
    refine lv_iconst hx hb dX11_hurl_181 ki_1 ?_
    refine aI G hw (sub_World_told hZ (sub_PF_now hZ h0)) (vin_e (by decide)) (j := 1) (by decide) dX11_hurl_182 ?_
    obtain ⟨S_15, hS_15, hf⟩ := bB_e hf
    refine kVv (rest := []) G hw (wX2_begin hZ S_13 60 1 l6_2 l9_11 0 a4 l10_14 (S_13 2 1) S_15 (sub_Thought_flight hZ (sub_PF_thought hZ h0)) (sub_PF_now hZ h0) hS_15) cw_X11_235 (sub_Thought_flight hZ (sub_PF_thought hZ h0)) KX2 ⟨Nat.le_of_ble_eq_true rfl, Nat.le_of_ble_eq_true rfl⟩ rfl hl.1 rfl (Nat.le_of_ble_eq_true rfl) ⟨Nat.le_refl _, Nat.le_refl _⟩ dX11_hurl_183 (fun H locs hw => ?_)
    refine lv_aload hx hb dX11_hurl_186 (lv_at hl 0 rfl) ?_
    refine lv_aload_n hx hb dX11_hurl_188 rfl (lv_at hl 4 rfl) ?_
    refine gF G hw h0 KX11 0 (k2 := 1) rfl (by decide) rfl fl_X11_10 dX11_hurl_189 ?_
    refine gF G hw (sub_PF_now hZ h0) KX10 14 (k2 := 8) rfl (by decide) rfl fl_X11_114 dX11_hurl_192 ?_
    refine lv_sipush hx hb dX11_hurl_195 ks_400 ?_
    obtain ⟨S_16, hS_16, hf⟩ := bB_e hf
    refine kVv (rest := []) G hw (wX2_go hZ S_15 60 8 400 S_16 (sub_Thought_flight hZ (sub_PF_thought hZ h0)) (sub_World_flight hZ (sub_PF_now hZ h0)) hS_16) cw_X11_240 (sub_Thought_flight hZ (sub_PF_thought hZ h0)) KX2 ⟨Nat.le_of_ble_eq_true rfl, Nat.le_of_ble_eq_true rfl⟩ rfl hl.1 rfl (Nat.le_of_ble_eq_true rfl) ⟨Nat.le_refl _, Nat.le_refl _⟩ dX11_hurl_198 (fun H locs hw => ?_)
    refine lv_iload hx hb dX11_hurl_201 (lv_at hl 3 rfl) ?_
    obtain ⟨j224, ej, hf⟩ := bL_e hf
    have R224 : ∀ (t_17 : Int32) (H : Heap) (locs : List Loc) (ls : Array Slot), Wd Z s S_16 H locs → lv_has ls 13 [(0, .ref (za Z 0)), (1, .ref (za Z k1)), (4, .int a4), (6, .int l6_2), (9, .int l9_11), (10, .int l10_14), (11, .ref (za Z 60))] → j224 t_17 = some (r, S2) → W p l e { frames := 8, cells := 0, slots := 0, locals := 180 } s m args below meth c H locs 0 0 Q (F0 m 224 ls [.int t_17]) := by
      intro t_17 H locs ls hw hl hf
      have hf := (congrFun ej t_17).symm.trans hf
      refine lv_istore (lv' := [(12, .int t_17), (0, .ref (za Z 0)), (1, .ref (za Z k1)), (4, .int a4), (6, .int l6_2), (9, .int l9_11), (10, .int l10_14), (11, .ref (za Z 60))]) hx hb dX11_hurl_224 hl (by decide) rfl (fun ls hl => ?_)
      refine lv_aload_n hx hb dX11_hurl_226 rfl (lv_at hl 2 rfl) ?_
      refine lv_sipush hx hb dX11_hurl_227 ks_1000 ?_
      refine lv_aload_n hx hb dX11_hurl_230 rfl (lv_at hl 2 rfl) ?_
      refine gI G hw h1 KX8 1 (by decide) rfl fl_X11_89 dX11_hurl_231 ?_
      refine lv_aload_n hx hb dX11_hurl_234 rfl (lv_at hl 1 rfl) ?_
      refine gF G hw h0 KX11 3 (k2 := 63) rfl (by decide) rfl fl_X11_33 dX11_hurl_235 ?_
      refine lv_aload_n hx hb dX11_hurl_238 rfl (lv_at hl 1 rfl) ?_
      refine gF G hw h0 KX11 0 (k2 := 1) rfl (by decide) rfl fl_X11_10 dX11_hurl_239 ?_
      refine gF G hw (sub_PF_now hZ h0) KX10 15 (k2 := 15) rfl (by decide) rfl fl_X11_124 dX11_hurl_242 ?_
      refine lv_iconst hx hb dX11_hurl_245 ki_1 ?_
      obtain ⟨r_18, S_19, hr_18, hf⟩ := bB2_e hf
      refine kVi (rest := [.int (S_16 k1 1), .int 1000, .ref (za Z k1)]) G hw (wX0_tell hZ S_16 63 15 1 r_18 S_19 (sub_PF_arms hZ h0) (sub_World_arms hZ (sub_PF_now hZ h0)) hr_18) cw_X11_216 (sub_PF_arms hZ h0) KX0 ⟨Nat.le_of_ble_eq_true rfl, Nat.le_of_ble_eq_true rfl⟩ rfl hl.1 rfl (Nat.le_of_ble_eq_true rfl) ⟨Nat.le_refl _, Nat.le_refl _⟩ dX11_hurl_246 (fun H locs hw => ?_)
      refine lv_iadd hx hb dX11_hurl_249 ?_
      refine xmin G hl.1 ml_X11_200 (Nat.le_of_ble_eq_true rfl) (Nat.le_of_ble_eq_true rfl) ⟨Nat.le_refl _, Nat.le_refl _⟩ dX11_hurl_250 ?_
      obtain ⟨S_20, eS_20, hf⟩ := bL_e hf
      refine pI G hw h1 KX8 1 (by decide) rfl rfl rfl eS_20 fl_X11_89 dX11_hurl_253 (fun H locs hw => ?_)
      refine lv_aload_n hx hb dX11_hurl_256 rfl (lv_at hl 2 rfl) ?_
      refine lv_dup hx hb dX11_hurl_257 rfl ?_
      refine gI G hw h1 KX8 3 (by decide) rfl fl_X11_247 dX11_hurl_258 ?_
      refine lv_iconst hx hb dX11_hurl_261 ki_1 ?_
      refine lv_iadd hx hb dX11_hurl_262 ?_
      obtain ⟨S_21, eS_21, hf⟩ := bL_e hf
      refine pI G hw h1 KX8 3 (by decide) rfl rfl rfl eS_21 fl_X11_247 dX11_hurl_263 (fun H locs hw => ?_)
      refine lv_iload hx hb dX11_hurl_266 (lv_at hl 0 rfl) ?_
      obtain ⟨j287, ej, hf⟩ := bL_e hf
      have R287 : ∀ (S_22 : pS) (H : Heap) (locs : List Loc) (ls : Array Slot), Wd Z s S_22 H locs → lv_has ls 13 [(0, .ref (za Z 0)), (4, .int a4), (6, .int l6_2), (9, .int l9_11), (10, .int l10_14), (11, .ref (za Z 60)), (12, .int t_17)] → j287 S_22 = some (r, S2) → W p l e { frames := 8, cells := 0, slots := 0, locals := 180 } s m args below meth c H locs 0 0 Q (F0 m 287 ls []) := by
        intro S_22 H locs ls hw hl hf
        have hf := (congrFun ej S_22).symm.trans hf
        refine lv_aload_n hx hb dX11_hurl_287 rfl (lv_at hl 0 rfl) ?_
        refine gF G hw h0 KX11 0 (k2 := 1) rfl (by decide) rfl fl_X11_10 dX11_hurl_288 ?_
        refine lv_iload hx hb dX11_hurl_291 (lv_at hl 1 rfl) ?_
        refine lv_iload hx hb dX11_hurl_293 (lv_at hl 2 rfl) ?_
        refine lv_iload hx hb dX11_hurl_295 (lv_at hl 3 rfl) ?_
        refine lv_iload hx hb dX11_hurl_297 (lv_at hl 4 rfl) ?_
        refine lv_aload hx hb dX11_hurl_299 (lv_at hl 5 rfl) ?_
        refine gI G hw (sub_Thought_flight hZ (sub_PF_thought hZ h0)) KX2 1 (by decide) rfl fl_X11_253 dX11_hurl_301 ?_
        refine lv_iload hx hb dX11_hurl_304 (lv_at hl 6 rfl) ?_
        obtain ⟨S_23, hS_23, hf⟩ := bB_e hf
        refine kVv (rest := []) G hw (wX10_write hZ S_22 1 a4 l6_2 l9_11 l10_14 (S_22 60 1) t_17 S_23 (sub_PF_now hZ h0) hS_23) cw_X11_259 (sub_PF_now hZ h0) KX10 ⟨Nat.le_of_ble_eq_true rfl, Nat.le_of_ble_eq_true rfl⟩ rfl hl.1 rfl (Nat.le_of_ble_eq_true rfl) ⟨Nat.le_refl _, Nat.le_refl _⟩ dX11_hurl_306 (fun H locs hw => ?_)
        refine lv_aload_n hx hb dX11_hurl_309 rfl (lv_at hl 0 rfl) ?_
        refine gF G hw h0 KX11 0 (k2 := 1) rfl (by decide) rfl fl_X11_10 dX11_hurl_310 ?_
        obtain ⟨S_24, hS_24, hf⟩ := bL_e hf
        refine kVv (rest := []) G hw (wX10_nextTurn hZ S_23 1 S_24 (sub_PF_now hZ h0) hS_24.symm) cw_X11_263 (sub_PF_now hZ h0) KX10 ⟨Nat.le_of_ble_eq_true rfl, Nat.le_of_ble_eq_true rfl⟩ rfl hl.1 rfl (Nat.le_of_ble_eq_true rfl) ⟨Nat.le_refl _, Nat.le_refl _⟩ dX11_hurl_313 (fun H locs hw => ?_)
        refine lv_iload hx hb dX11_hurl_316 (lv_at hl 6 rfl) ?_
        obtain ⟨e1, e2⟩ := Prod.mk.inj (Option.some.inj hf)
        exact hret _ _ _ _ _ dX11_hurl_318 e1 (by rw [← e2]; exact hw)
      clear ej
      refine lv_if_ne (tgt := 287) hx hb dX11_hurl_268 (by decide) (fun c_26 => ?_) (fun c_26 => ?_)
      · have hf := (if_neg c_26).symm.trans hf
        exact R287 _ _ _ _ hw (lv_sub hl [1, 3, 4, 5, 6, 7, 0] rfl) hf
      · have hf := (if_pos c_26).symm.trans hf
        refine lv_aload_n hx hb dX11_hurl_271 rfl (lv_at hl 2 rfl) ?_
        refine lv_aload_n hx hb dX11_hurl_272 rfl (lv_at hl 2 rfl) ?_
        refine gI G hw h1 KX8 2 (by decide) rfl fl_X11_250 dX11_hurl_273 ?_
        refine lv_aload hx hb dX11_hurl_276 (lv_at hl 7 rfl) ?_
        refine gI G hw (sub_Thought_flight hZ (sub_PF_thought hZ h0)) KX2 1 (by decide) rfl fl_X11_253 dX11_hurl_278 ?_
        refine xmax G hl.1 ml_X11_256 (Nat.le_of_ble_eq_true rfl) (Nat.le_of_ble_eq_true rfl) ⟨Nat.le_refl _, Nat.le_refl _⟩ dX11_hurl_281 ?_
        obtain ⟨S_25, eS_25, hf⟩ := bL_e hf
        refine pI G hw h1 KX8 2 (by decide) rfl rfl rfl eS_25 fl_X11_250 dX11_hurl_284 (fun H locs hw => ?_)
        exact R287 _ _ _ _ hw (lv_sub hl [1, 3, 4, 5, 6, 7, 0] rfl) hf
    clear ej
    refine lv_if_eq (tgt := 210) hx hb dX11_hurl_203 (by decide) (fun c_27 => ?_) (fun c_27 => ?_)
    · have hf := (if_pos c_27).symm.trans hf
      refine lv_aload hx hb dX11_hurl_210 (lv_at hl 0 rfl) ?_
      refine lv_aload_n hx hb dX11_hurl_212 rfl (lv_at hl 4 rfl) ?_
      refine gF G hw h0 KX11 0 (k2 := 1) rfl (by decide) rfl fl_X11_10 dX11_hurl_213 ?_
      refine gF G hw (sub_PF_now hZ h0) KX10 8 (k2 := 2) rfl (by decide) rfl fl_X11_222 dX11_hurl_216 ?_
      refine lv_iconst hx hb dX11_hurl_219 ki_4 ?_
      refine aI G hw (sub_World_told hZ (sub_PF_now hZ h0)) (vin_e (by decide)) (j := 4) (by decide) dX11_hurl_220 ?_
      refine kVi (rest := []) G hw (wX2_how hZ S_16 60 (S_16 2 4) (F2_how S_16 60 (S_16 2 4)) (sub_Thought_flight hZ (sub_PF_thought hZ h0)) rfl) cw_X11_244 (sub_Thought_flight hZ (sub_PF_thought hZ h0)) KX2 ⟨Nat.le_of_ble_eq_true rfl, Nat.le_of_ble_eq_true rfl⟩ rfl hl.1 rfl (Nat.le_of_ble_eq_true rfl) ⟨Nat.le_refl _, Nat.le_refl _⟩ dX11_hurl_221 (fun H locs hw => ?_)
      exact R224 _ _ _ _ hw (lv_sub hl [4, 5, 7, 8, 2, 1, 0] rfl) hf
    · have hf := (if_neg c_27).symm.trans hf
      refine lv_iconst hx hb dX11_hurl_206 ki_1 ?_
      refine lv_goto (tgt := 224) hx hb dX11_hurl_207 (by decide) ?_
      exact R224 _ _ _ _ hw (lv_sub hl [4, 5, 7, 8, 2, 1, 0] rfl) hf
  clear ej
  obtain ⟨j93, ej, hf⟩ := bL_e hf
  have R93 : ∀ (S_28 : pS) (H : Heap) (locs : List Loc) (ls : Array Slot), Wd Z s S_28 H locs → lv_has ls 13 [(0, .ref (za Z 0)), (1, .ref (za Z k1)), (3, .int a3), (4, .int a4), (6, .int l6_2)] → j93 S_28 = some (r, S2) → W p l e { frames := 8, cells := 0, slots := 0, locals := 180 } s m args below meth c H locs 0 0 Q (F0 m 93 ls []) := by
    intro S_28 H locs ls hw hl hf
    have hf := (congrFun ej S_28).symm.trans hf
    refine lv_iconst hx hb dX11_hurl_93 ki_0 ?_
    exact R94 _ _ _ _ _ hw (lv_sub hl [0, 1, 2, 3, 4] rfl) hf
  clear ej
  refine lv_if_le (tgt := 93) hx hb dX11_hurl_71 (by decide) (fun c_32 => ?_) (fun c_32 => ?_)
  · have hf := (if_pos c_32).symm.trans hf
    exact R93 _ _ _ _ hw (lv_sub hl [2, 3, 5, 6, 1] rfl) hf
  · have hf := (if_neg c_32).symm.trans hf
    refine lv_aload_n hx hb dX11_hurl_74 rfl (lv_at hl 2 rfl) ?_
    refine gF G hw h0 KX11 0 (k2 := 1) rfl (by decide) rfl fl_X11_10 dX11_hurl_75 ?_
    refine lv_sipush hx hb dX11_hurl_78 ks_1000 ?_
    obtain ⟨r_29, S_30, hr_29, hf⟩ := bB2_e hf
    refine kVi (rest := []) G hw (wX10_draw hZ S_6 1 1000 r_29 S_30 (sub_PF_now hZ h0) hr_29) cw_X11_219 (sub_PF_now hZ h0) KX10 ⟨Nat.le_of_ble_eq_true rfl, Nat.le_of_ble_eq_true rfl⟩ rfl hl.1 rfl (Nat.le_of_ble_eq_true rfl) ⟨Nat.le_refl _, Nat.le_refl _⟩ dX11_hurl_81 (fun H locs hw => ?_)
    refine lv_iload hx hb dX11_hurl_84 (lv_at hl 0 rfl) ?_
    refine lv_icmp_ge (tgt := 93) hx hb dX11_hurl_86 (by decide) (fun c_31 => ?_) (fun c_31 => ?_)
    · have hf := (if_pos c_31).symm.trans hf
      exact R93 _ _ _ _ hw (lv_sub hl [2, 3, 5, 6, 1] rfl) hf
    · have hf := (if_neg c_31).symm.trans hf
      refine lv_iconst hx hb dX11_hurl_89 ki_1 ?_
      refine lv_goto (tgt := 94) hx hb dX11_hurl_90 (by decide) ?_
      exact R94 _ _ _ _ _ hw (lv_sub hl [2, 3, 5, 6, 1] rfl) hf
noncomputable def F10_whose (S : pS) (k0 : Nat) : Option (Option Nat) :=
  if 6 ≤ (S k0 2) then
    some none
  else
    bB (F10_one S k0 (S k0 3)) fun r_1 =>
    some r_1
set_option maxRecDepth 100000 in
set_option maxHeartbeats 4000000 in
theorem wX10_whose {l : Launch} {Z : pZ}  (hZ : CC Z) (S : pS) (k0 : Nat) (r : Option Nat) (h0 : isA Z K_World k0) (hf : F10_whose S k0 = some r) : CQ l Z yX10_whose cX10_whose 1 (.object RX8) 4 81 [.ref (za Z k0)] S r S := by
  unfold F10_whose at hf
  refine eQ (own := RX10) (by decide) rfl (Nat.le_of_ble_eq_true rfl) (fun p e s m args below meth c Q ls G hl hw hret => ?_)
  obtain ⟨hx, hb, hml, hown, hts⟩ := G.1
  have hl : lv_has ls 1 [(0, .ref (za Z k0))] := hl
  refine lv_aload_n hx hb dX10_whose_0 rfl (lv_at hl 0 rfl) ?_
  refine gI G hw h0 KX10 2 (by decide) rfl fl_X10_54 dX10_whose_1 ?_
  refine lv_bipush hx hb dX10_whose_4 kb_6 ?_
  refine lv_icmp_ge (tgt := 20) hx hb dX10_whose_6 (by decide) (fun c_2 => ?_) (fun c_2 => ?_)
  · have hf := (if_pos c_2).symm.trans hf
    refine lv_null hx hb dX10_whose_20 ?_
    exact hret none _ _ _ _ dX10_whose_21 (Option.some.inj hf) hw
  · have hf := (if_neg c_2).symm.trans hf
    refine lv_aload_n hx hb dX10_whose_9 rfl (lv_at hl 0 rfl) ?_
    refine lv_aload_n hx hb dX10_whose_10 rfl (lv_at hl 0 rfl) ?_
    refine gI G hw h0 KX10 3 (by decide) rfl fl_X10_57 dX10_whose_11 ?_
    obtain ⟨r_1, hr_1, hf⟩ := bB_e hf
    refine kVq (rest := []) G hw (wX10_one hZ S k0 (S k0 3) r_1 h0 hr_1) cw_X10_93 h0 KX10 ⟨Nat.le_of_ble_eq_true rfl, Nat.le_of_ble_eq_true rfl⟩ rfl hl.1 rfl (Nat.le_of_ble_eq_true rfl) ⟨Nat.le_refl _, Nat.le_refl _⟩ dX10_whose_14 (fun H locs hw => ?_)
    refine lv_goto (tgt := 21) hx hb dX10_whose_17 (by decide) ?_
    exact hret _ _ _ _ _ dX10_whose_21 (Option.some.inj hf) hw
theorem ret_X10_whose {Z : pZ} (hZ : CC Z) (S : pS) (k0 : Nat) (h0 : isA Z K_World k0) {x : Nat} (hf : F10_whose S k0 = some (some x)) : isA Z K_Thrower x := by
  unfold F10_whose at hf
  by_cases c1 : 6 ≤ S k0 2
  · rw [if_pos c1] at hf; cases hf
  rw [if_neg c1] at hf
  obtain ⟨a, h1, h2⟩ := bB_e hf
  cases h2
  exact ret_X10_one hZ S k0 _ h0 h1
noncomputable def F11_throwIt (S : pS) (a1 : Int32) (a2 : Int32) (a3 : Int32) (a4 : Int32) : Option (Int32 × pS) :=
  bB (F10_whose S 1) fun r_1 =>
  bO r_1 (
    some (((-1) : Int32), S)) fun o_2 =>
  if 1000 ≤ (S o_2 1) then
    some (((-1) : Int32), S)
  else
    if (F11_canThrow S a1 a2 a3) = 0 then
      some (((-1) : Int32), S)
    else
      if (F11_within a4 0 9) = 0 then
        some (((-1) : Int32), S)
      else
        bB2 (F11_hurl S o_2 a1 a2 a3 a4) fun r_3 S_4 =>
        some (r_3, S_4)
set_option maxRecDepth 100000 in
set_option maxHeartbeats 4000000 in
theorem wX11_throwIt {l : Launch} {Z : pZ}  (hZ : CC Z) (S : pS) (a1 : Int32) (a2 : Int32) (a3 : Int32) (a4 : Int32) (r : Int32) (S2 : pS) (h0 : isA Z K_PF 0) (hf : F11_throwIt S a1 a2 a3 a4 = some (r, S2)) : CI l Z yX11_throwIt cX11_throwIt 6 .int 9 212 [.ref (za Z 0), .int a1, .int a2, .int a3, .int a4] S r S2 := by
  unfold F11_throwIt at hf
  refine eI (own := RX11) (by decide) rfl (Nat.le_of_ble_eq_true rfl) (fun p e s m args below meth c Q ls G hl hw hret => ?_)
  obtain ⟨hx, hb, hml, hown, hts⟩ := G.1
  have hl : lv_has ls 6 [(0, .ref (za Z 0)), (1, .int a1), (2, .int a2), (3, .int a3), (4, .int a4)] := hl
  refine lv_aload_n hx hb dX11_throwIt_0 rfl (lv_at hl 0 rfl) ?_
  refine gF G hw h0 KX11 0 (k2 := 1) rfl (by decide) rfl fl_X11_10 dX11_throwIt_1 ?_
  obtain ⟨r_1, hr_1, hf⟩ := bB_e hf
  refine kVq (rest := []) G hw (wX10_whose hZ S 1 r_1 (sub_PF_now hZ h0) hr_1) cw_X11_182 (sub_PF_now hZ h0) KX10 ⟨Nat.le_of_ble_eq_true rfl, Nat.le_of_ble_eq_true rfl⟩ rfl hl.1 rfl (Nat.le_of_ble_eq_true rfl) ⟨Nat.le_refl _, Nat.le_refl _⟩ dX11_throwIt_4 (fun H locs hw => ?_)
  refine astQ (lv' := [(5, va_rf (Option.map (za Z) r_1)), (0, .ref (za Z 0)), (1, .int a1), (2, .int a2), (3, .int a3), (4, .int a4)]) hx hb dX11_throwIt_7 hl (by decide) rfl (fun ls hl => ?_)
  refine aldQ hx hb dX11_throwIt_9 (lv_at hl 0 rfl) ?_
  refine ifnQ (tgt := 46) hx hb dX11_throwIt_11 (by decide) (fun e_8 => ?_) (fun o_2 e_8 => ?_)
  · subst e_8
    have hf := bO_n rfl hf
    refine lv_iconst hx hb dX11_throwIt_46 ki_m1 ?_
    obtain ⟨e1, e2⟩ := Prod.mk.inj (Option.some.inj hf)
    exact hret _ _ _ _ _ dX11_throwIt_47 e1 (by rw [← e2]; exact hw)
  · subst e_8
    have hf := bO_s rfl hf
    have ho_2 := ret_X10_whose hZ S 1 (sub_PF_now hZ h0) (hr_1.trans (congrArg some rfl))
    refine lv_aload hx hb dX11_throwIt_14 (lv_at hl 0 rfl) ?_
    refine gI G hw ho_2 KX8 1 (by decide) rfl fl_X11_89 dX11_throwIt_16 ?_
    refine lv_sipush hx hb dX11_throwIt_19 ks_1000 ?_
    refine lv_icmp_ge (tgt := 46) hx hb dX11_throwIt_22 (by decide) (fun c_7 => ?_) (fun c_7 => ?_)
    · have hf := (if_pos c_7).symm.trans hf
      refine lv_iconst hx hb dX11_throwIt_46 ki_m1 ?_
      obtain ⟨e1, e2⟩ := Prod.mk.inj (Option.some.inj hf)
      exact hret _ _ _ _ _ dX11_throwIt_47 e1 (by rw [← e2]; exact hw)
    · have hf := (if_neg c_7).symm.trans hf
      refine lv_aload_n hx hb dX11_throwIt_25 rfl (lv_at hl 1 rfl) ?_
      refine lv_iload_n hx hb dX11_throwIt_26 rfl (lv_at hl 2 rfl) ?_
      refine lv_iload_n hx hb dX11_throwIt_27 rfl (lv_at hl 3 rfl) ?_
      refine lv_iload_n hx hb dX11_throwIt_28 rfl (lv_at hl 4 rfl) ?_
      refine kVi (rest := []) G hw (wX11_canThrow hZ S a1 a2 a3 (F11_canThrow S a1 a2 a3) h0 rfl) cw_X11_186 h0 KX11 ⟨Nat.le_of_ble_eq_true rfl, Nat.le_of_ble_eq_true rfl⟩ rfl hl.1 rfl (Nat.le_of_ble_eq_true rfl) ⟨Nat.le_refl _, Nat.le_refl _⟩ dX11_throwIt_29 (fun H locs hw => ?_)
      refine lv_if_eq (tgt := 46) hx hb dX11_throwIt_32 (by decide) (fun c_6 => ?_) (fun c_6 => ?_)
      · have hf := (if_pos c_6).symm.trans hf
        refine lv_iconst hx hb dX11_throwIt_46 ki_m1 ?_
        obtain ⟨e1, e2⟩ := Prod.mk.inj (Option.some.inj hf)
        exact hret _ _ _ _ _ dX11_throwIt_47 e1 (by rw [← e2]; exact hw)
      · have hf := (if_neg c_6).symm.trans hf
        refine lv_iload hx hb dX11_throwIt_35 (lv_at hl 5 rfl) ?_
        refine lv_iconst hx hb dX11_throwIt_37 ki_0 ?_
        refine lv_bipush hx hb dX11_throwIt_38 kb_9 ?_
        refine kSi (rest := []) G hw (wX11_within hZ S a4 0 9 (F11_within a4 0 9) rfl) cw_X11_51 ⟨Nat.le_of_ble_eq_true rfl, Nat.le_of_ble_eq_true rfl⟩ rfl hl.1 rfl (Nat.le_of_ble_eq_true rfl) ⟨Nat.le_refl _, Nat.le_refl _⟩ dX11_throwIt_40 (fun H locs hw => ?_)
        refine lv_if_ne (tgt := 48) hx hb dX11_throwIt_43 (by decide) (fun c_5 => ?_) (fun c_5 => ?_)
        · have hf := (if_neg c_5).symm.trans hf
          refine lv_aload_n hx hb dX11_throwIt_48 rfl (lv_at hl 1 rfl) ?_
          refine lv_aload hx hb dX11_throwIt_49 (lv_at hl 0 rfl) ?_
          refine lv_iload_n hx hb dX11_throwIt_51 rfl (lv_at hl 2 rfl) ?_
          refine lv_iload_n hx hb dX11_throwIt_52 rfl (lv_at hl 3 rfl) ?_
          refine lv_iload_n hx hb dX11_throwIt_53 rfl (lv_at hl 4 rfl) ?_
          refine lv_iload hx hb dX11_throwIt_54 (lv_at hl 5 rfl) ?_
          obtain ⟨r_3, S_4, hr_3, hf⟩ := bB2_e hf
          refine kVi (rest := []) G hw (wX11_hurl hZ S o_2 a1 a2 a3 a4 r_3 S_4 h0 ho_2 hr_3) cw_X11_189 h0 KX11 ⟨Nat.le_of_ble_eq_true rfl, Nat.le_of_ble_eq_true rfl⟩ rfl hl.1 rfl (Nat.le_of_ble_eq_true rfl) ⟨Nat.le_refl _, Nat.le_refl _⟩ dX11_throwIt_56 (fun H locs hw => ?_)
          obtain ⟨e1, e2⟩ := Prod.mk.inj (Option.some.inj hf)
          exact hret _ _ _ _ _ dX11_throwIt_59 e1 (by rw [← e2]; exact hw)
        · have hf := (if_pos c_5).symm.trans hf
          refine lv_iconst hx hb dX11_throwIt_46 ki_m1 ?_
          obtain ⟨e1, e2⟩ := Prod.mk.inj (Option.some.inj hf)
          exact hret _ _ _ _ _ dX11_throwIt_47 e1 (by rw [← e2]; exact hw)
noncomputable def F11_pass (S : pS) : Option (Int32 × pS) :=
  bB (F10_whose S 1) fun r_1 =>
  bO r_1 (
    some ((0 : Int32), S)) fun o_2 =>
  bB (F4_remember S 65 1 o_2) fun S_3 =>
  bL (F10_nextTurn S_3 1) fun S_4 =>
  some ((1 : Int32), S_4)
set_option maxRecDepth 100000 in
set_option maxHeartbeats 4000000 in
theorem wX11_pass {l : Launch} {Z : pZ}  (hZ : CC Z) (S : pS)  (r : Int32) (S2 : pS) (h0 : isA Z K_PF 0) (hf : F11_pass S = some (r, S2)) : CI l Z yX11_pass cX11_pass 2 .boolean 5 101 [.ref (za Z 0)] S r S2 := by
  unfold F11_pass at hf
  refine eZ (own := RX11) (by decide) rfl (Nat.le_of_ble_eq_true rfl) (fun p e s m args below meth c Q ls G hl hw hret => ?_)
  obtain ⟨hx, hb, hml, hown, hts⟩ := G.1
  have hl : lv_has ls 2 [(0, .ref (za Z 0))] := hl
  refine lv_aload_n hx hb dX11_pass_0 rfl (lv_at hl 0 rfl) ?_
  refine gF G hw h0 KX11 0 (k2 := 1) rfl (by decide) rfl fl_X11_10 dX11_pass_1 ?_
  obtain ⟨r_1, hr_1, hf⟩ := bB_e hf
  refine kVq (rest := []) G hw (wX10_whose hZ S 1 r_1 (sub_PF_now hZ h0) hr_1) cw_X11_182 (sub_PF_now hZ h0) KX10 ⟨Nat.le_of_ble_eq_true rfl, Nat.le_of_ble_eq_true rfl⟩ rfl hl.1 rfl (Nat.le_of_ble_eq_true rfl) ⟨Nat.le_refl _, Nat.le_refl _⟩ dX11_pass_4 (fun H locs hw => ?_)
  refine astQn (lv' := [(1, va_rf (Option.map (za Z) r_1)), (0, .ref (za Z 0))]) hx hb dX11_pass_7 rfl hl (by decide) rfl (fun ls hl => ?_)
  refine aldQn hx hb dX11_pass_8 rfl (lv_at hl 0 rfl) ?_
  refine ifnnQ (tgt := 14) hx hb dX11_pass_9 (by decide) (fun e_5 => ?_) (fun o_2 e_5 => ?_)
  · subst e_5
    have hf := bO_n rfl hf
    refine lv_iconst hx hb dX11_pass_12 ki_0 ?_
    obtain ⟨e1, e2⟩ := Prod.mk.inj (Option.some.inj hf)
    exact hret _ _ _ _ _ dX11_pass_13 ((by decide : (0 : Int32) &&& 1 = 0).trans e1) (by rw [← e2]; exact hw)
  · subst e_5
    have hf := bO_s rfl hf
    have ho_2 := ret_X10_whose hZ S 1 (sub_PF_now hZ h0) (hr_1.trans (congrArg some rfl))
    refine lv_aload_n hx hb dX11_pass_14 rfl (lv_at hl 1 rfl) ?_
    refine gF G hw h0 KX11 4 (k2 := 65) rfl (by decide) rfl fl_X11_40 dX11_pass_15 ?_
    refine lv_aload_n hx hb dX11_pass_18 rfl (lv_at hl 1 rfl) ?_
    refine gF G hw h0 KX11 0 (k2 := 1) rfl (by decide) rfl fl_X11_10 dX11_pass_19 ?_
    refine lv_aload_n hx hb dX11_pass_22 rfl (lv_at hl 0 rfl) ?_
    obtain ⟨S_3, hS_3, hf⟩ := bB_e hf
    refine kVv (rest := []) G hw (wX4_remember hZ S 65 1 o_2 S_3 (sub_PF_past hZ h0) (sub_PF_now hZ h0) ho_2 hS_3) cw_X11_196 (sub_PF_past hZ h0) KX4 ⟨Nat.le_of_ble_eq_true rfl, Nat.le_of_ble_eq_true rfl⟩ rfl hl.1 rfl (Nat.le_of_ble_eq_true rfl) ⟨Nat.le_refl _, Nat.le_refl _⟩ dX11_pass_23 (fun H locs hw => ?_)
    refine lv_aload_n hx hb dX11_pass_26 rfl (lv_at hl 1 rfl) ?_
    refine gF G hw h0 KX11 0 (k2 := 1) rfl (by decide) rfl fl_X11_10 dX11_pass_27 ?_
    obtain ⟨S_4, hS_4, hf⟩ := bL_e hf
    refine kVv (rest := []) G hw (wX10_nextTurn hZ S_3 1 S_4 (sub_PF_now hZ h0) hS_4.symm) cw_X11_263 (sub_PF_now hZ h0) KX10 ⟨Nat.le_of_ble_eq_true rfl, Nat.le_of_ble_eq_true rfl⟩ rfl hl.1 rfl (Nat.le_of_ble_eq_true rfl) ⟨Nat.le_refl _, Nat.le_refl _⟩ dX11_pass_30 (fun H locs hw => ?_)
    refine lv_iconst hx hb dX11_pass_33 ki_1 ?_
    obtain ⟨e1, e2⟩ := Prod.mk.inj (Option.some.inj hf)
    exact hret _ _ _ _ _ dX11_pass_34 ((by decide : (1 : Int32) &&& 1 = 1).trans e1) (by rw [← e2]; exact hw)
noncomputable def F8_order (S : pS) (k0 : Nat) (a1 : Int32) (a2 : Int32) : Option (Int32) :=
  bL (fun (_ : Unit) =>
    some ((-1) : Int32)) fun j40 =>
  if a1 < 0 then
    j40 ()
  else
    if (S k0 4) ≤ a1 then
      j40 ()
    else
      if 12 ≤ a1 then
        j40 ()
      else
        if (F11_within a2 0 4) = 0 then
          j40 ()
        else
          bG (vp_in ((a1 * 5) + a2) 60) <|
          some (S (k0 + 1) (((a1 * 5) + a2).toNatClampNeg))
set_option maxRecDepth 100000 in
set_option maxHeartbeats 4000000 in
theorem wX8_order {l : Launch} {Z : pZ}  (hZ : CC Z) (S : pS) (k0 : Nat) (a1 : Int32) (a2 : Int32) (r : Int32) (h0 : isA Z K_Thrower k0) (hf : F8_order S k0 a1 a2 = some r) : CI l Z yX8_order cX8_order 3 .int 4 82 [.ref (za Z k0), .int a1, .int a2] S r S := by
  unfold F8_order at hf
  refine eI (own := RX8) (by decide) rfl (Nat.le_of_ble_eq_true rfl) (fun p e s m args below meth c Q ls G hl hw hret => ?_)
  obtain ⟨hx, hb, hml, hown, hts⟩ := G.1
  have hl : lv_has ls 3 [(0, .ref (za Z k0)), (1, .int a1), (2, .int a2)] := hl
  refine lv_iload_n hx hb dX8_order_0 rfl (lv_at hl 1 rfl) ?_
  obtain ⟨j40, ej, hf⟩ := bL_e hf
  have R40 : ∀ (H : Heap) (locs : List Loc) (ls : Array Slot), Wd Z s S H locs → lv_has ls 3 [] → j40 () = some r → W p l e { frames := 4, cells := 0, slots := 0, locals := 82 } s m args below meth c H locs 0 0 Q (F0 m 40 ls []) := by
    intro  H locs ls hw hl hf
    have hf := (congrFun ej ()).symm.trans hf
    refine lv_iconst hx hb dX8_order_40 ki_m1 ?_
    exact hret _ _ _ _ _ dX8_order_41 (Option.some.inj hf) hw
  clear ej
  refine lv_if_lt (tgt := 40) hx hb dX8_order_1 (by decide) (fun c_5 => ?_) (fun c_5 => ?_)
  · have hf := (if_pos c_5).symm.trans hf
    exact R40 _ _ _ hw (lv_sub hl [] rfl) hf
  · have hf := (if_neg c_5).symm.trans hf
    refine lv_iload_n hx hb dX8_order_4 rfl (lv_at hl 1 rfl) ?_
    refine lv_aload_n hx hb dX8_order_5 rfl (lv_at hl 0 rfl) ?_
    refine gI G hw h0 KX8 4 (by decide) rfl fl_X8_22 dX8_order_6 ?_
    refine lv_icmp_ge (tgt := 40) hx hb dX8_order_9 (by decide) (fun c_4 => ?_) (fun c_4 => ?_)
    · have hf := (if_pos c_4).symm.trans hf
      exact R40 _ _ _ hw (lv_sub hl [] rfl) hf
    · have hf := (if_neg c_4).symm.trans hf
      refine lv_iload_n hx hb dX8_order_12 rfl (lv_at hl 1 rfl) ?_
      refine lv_bipush hx hb dX8_order_13 kb_12 ?_
      refine lv_icmp_ge (tgt := 40) hx hb dX8_order_15 (by decide) (fun c_3 => ?_) (fun c_3 => ?_)
      · have hf := (if_pos c_3).symm.trans hf
        exact R40 _ _ _ hw (lv_sub hl [] rfl) hf
      · have hf := (if_neg c_3).symm.trans hf
        refine lv_iload_n hx hb dX8_order_18 rfl (lv_at hl 2 rfl) ?_
        refine lv_iconst hx hb dX8_order_19 ki_0 ?_
        refine lv_iconst hx hb dX8_order_20 ki_4 ?_
        refine kNi (rest := []) G hw (wX11_within hZ S a2 0 4 (F11_within a2 0 4) rfl) cw_X8_43 ⟨Nat.le_of_ble_eq_true rfl, Nat.le_of_ble_eq_true rfl⟩ rfl hl.1 rfl (Nat.le_of_ble_eq_true rfl) ⟨Nat.le_refl _, Nat.le_refl _⟩ dX8_order_21 (fun H locs hw => ?_)
        refine lv_if_eq (tgt := 40) hx hb dX8_order_24 (by decide) (fun c_2 => ?_) (fun c_2 => ?_)
        · have hf := (if_pos c_2).symm.trans hf
          exact R40 _ _ _ hw (lv_sub hl [] rfl) hf
        · have hf := (if_neg c_2).symm.trans hf
          refine lv_aload_n hx hb dX8_order_27 rfl (lv_at hl 0 rfl) ?_
          refine gF G hw h0 KX8 6 (k2 := (k0 + 1)) rfl (by decide) rfl fl_X8_11 dX8_order_28 ?_
          refine lv_iload_n hx hb dX8_order_31 rfl (lv_at hl 1 rfl) ?_
          refine lv_iconst hx hb dX8_order_32 ki_5 ?_
          refine lv_imul hx hb dX8_order_33 ?_
          refine lv_iload_n hx hb dX8_order_34 rfl (lv_at hl 2 rfl) ?_
          refine lv_iadd hx hb dX8_order_35 ?_
          obtain ⟨hg_1, hf⟩ := bG_e hf
          refine aI G hw (sub_Thrower_plan hZ h0) hg_1 (j := ((a1 * 5) + a2).toNatClampNeg) rfl dX8_order_36 ?_
          refine lv_goto (tgt := 41) hx hb dX8_order_37 (by decide) ?_
          exact hret _ _ _ _ _ dX8_order_41 (Option.some.inj hf) hw
noncomputable def F8_wouldThrow (S : pS) (k0 : Nat) (a1 : Int32) (a2 : Int32) (a3 : Int32) : Option (Int32) :=
  bB (F8_order S k0 a1 0) fun r_1 =>
  if r_1 = (-1) then
    some (0 : Int32)
  else
    if a3 < 1000 then
      bB (F8_order S k0 a1 4) fun r_2 =>
      bL (fun (_ : Unit) =>
        some (1 : Int32)) fun j42 =>
      if r_2 = (-1) then
        j42 ()
      else
        if (r_2 * 100) ≤ a2 then
          some (0 : Int32)
        else
          j42 ()
    else
      some (0 : Int32)
set_option maxRecDepth 100000 in
set_option maxHeartbeats 4000000 in
theorem wX8_wouldThrow {l : Launch} {Z : pZ}  (hZ : CC Z) (S : pS) (k0 : Nat) (a1 : Int32) (a2 : Int32) (a3 : Int32) (r : Int32) (h0 : isA Z K_Thrower k0) (hf : F8_wouldThrow S k0 a1 a2 a3 = some r) : CI l Z yX8_wouldThrow cX8_wouldThrow 5 .boolean 5 104 [.ref (za Z k0), .int a1, .int a2, .int a3] S r S := by
  unfold F8_wouldThrow at hf
  refine eZ (own := RX8) (by decide) rfl (Nat.le_of_ble_eq_true rfl) (fun p e s m args below meth c Q ls G hl hw hret => ?_)
  obtain ⟨hx, hb, hml, hown, hts⟩ := G.1
  have hl : lv_has ls 5 [(0, .ref (za Z k0)), (1, .int a1), (2, .int a2), (3, .int a3)] := hl
  refine lv_aload_n hx hb dX8_wouldThrow_0 rfl (lv_at hl 0 rfl) ?_
  refine lv_iload_n hx hb dX8_wouldThrow_1 rfl (lv_at hl 1 rfl) ?_
  refine lv_iconst hx hb dX8_wouldThrow_2 ki_0 ?_
  obtain ⟨r_1, hr_1, hf⟩ := bB_e hf
  refine kVi (rest := []) G hw (wX8_order hZ S k0 a1 0 r_1 h0 hr_1) cw_X8_50 h0 KX8 ⟨Nat.le_of_ble_eq_true rfl, Nat.le_of_ble_eq_true rfl⟩ rfl hl.1 rfl (Nat.le_of_ble_eq_true rfl) ⟨Nat.le_refl _, Nat.le_refl _⟩ dX8_wouldThrow_3 (fun H locs hw => ?_)
  refine lv_iconst hx hb dX8_wouldThrow_6 ki_m1 ?_
  refine lv_icmp_eq (tgt := 17) hx hb dX8_wouldThrow_7 (by decide) (fun c_6 => ?_) (fun c_6 => ?_)
  · have hf := (if_pos c_6).symm.trans hf
    refine lv_iconst hx hb dX8_wouldThrow_17 ki_0 ?_
    exact hret _ _ _ _ _ dX8_wouldThrow_18 ((by decide : (0 : Int32) &&& 1 = 0).trans (Option.some.inj hf)) hw
  · have hf := (if_neg c_6).symm.trans hf
    refine lv_iload_n hx hb dX8_wouldThrow_10 rfl (lv_at hl 3 rfl) ?_
    refine lv_sipush hx hb dX8_wouldThrow_11 ks_1000 ?_
    refine lv_icmp_lt (tgt := 19) hx hb dX8_wouldThrow_14 (by decide) (fun c_5 => ?_) (fun c_5 => ?_)
    · have hf := (if_pos c_5).symm.trans hf
      refine lv_aload_n hx hb dX8_wouldThrow_19 rfl (lv_at hl 0 rfl) ?_
      refine lv_iload_n hx hb dX8_wouldThrow_20 rfl (lv_at hl 1 rfl) ?_
      refine lv_iconst hx hb dX8_wouldThrow_21 ki_4 ?_
      obtain ⟨r_2, hr_2, hf⟩ := bB_e hf
      refine kVi (rest := []) G hw (wX8_order hZ S k0 a1 4 r_2 h0 hr_2) cw_X8_50 h0 KX8 ⟨Nat.le_of_ble_eq_true rfl, Nat.le_of_ble_eq_true rfl⟩ rfl hl.1 rfl (Nat.le_of_ble_eq_true rfl) ⟨Nat.le_refl _, Nat.le_refl _⟩ dX8_wouldThrow_22 (fun H locs hw => ?_)
      refine lv_istore (lv' := [(4, .int r_2), (0, .ref (za Z k0)), (1, .int a1), (2, .int a2), (3, .int a3)]) hx hb dX8_wouldThrow_25 hl (by decide) rfl (fun ls hl => ?_)
      refine lv_iload hx hb dX8_wouldThrow_27 (lv_at hl 0 rfl) ?_
      refine lv_iconst hx hb dX8_wouldThrow_29 ki_m1 ?_
      obtain ⟨j42, ej, hf⟩ := bL_e hf
      have R42 : ∀ (H : Heap) (locs : List Loc) (ls : Array Slot), Wd Z s S H locs → lv_has ls 5 [] → j42 () = some r → W p l e { frames := 5, cells := 0, slots := 0, locals := 104 } s m args below meth c H locs 0 0 Q (F0 m 42 ls []) := by
        intro  H locs ls hw hl hf
        have hf := (congrFun ej ()).symm.trans hf
        refine lv_iconst hx hb dX8_wouldThrow_42 ki_1 ?_
        refine lv_goto (tgt := 47) hx hb dX8_wouldThrow_43 (by decide) ?_
        exact hret _ _ _ _ _ dX8_wouldThrow_47 ((by decide : (1 : Int32) &&& 1 = 1).trans (Option.some.inj hf)) hw
      clear ej
      refine lv_icmp_eq (tgt := 42) hx hb dX8_wouldThrow_30 (by decide) (fun c_4 => ?_) (fun c_4 => ?_)
      · have hf := (if_pos c_4).symm.trans hf
        exact R42 _ _ _ hw (lv_sub hl [] rfl) hf
      · have hf := (if_neg c_4).symm.trans hf
        refine lv_iload_n hx hb dX8_wouldThrow_33 rfl (lv_at hl 3 rfl) ?_
        refine lv_iload hx hb dX8_wouldThrow_34 (lv_at hl 0 rfl) ?_
        refine lv_bipush hx hb dX8_wouldThrow_36 kb_100 ?_
        refine lv_imul hx hb dX8_wouldThrow_38 ?_
        refine lv_icmp_ge (tgt := 46) hx hb dX8_wouldThrow_39 (by decide) (fun c_3 => ?_) (fun c_3 => ?_)
        · have hf := (if_pos c_3).symm.trans hf
          refine lv_iconst hx hb dX8_wouldThrow_46 ki_0 ?_
          exact hret _ _ _ _ _ dX8_wouldThrow_47 ((by decide : (0 : Int32) &&& 1 = 0).trans (Option.some.inj hf)) hw
        · have hf := (if_neg c_3).symm.trans hf
          exact R42 _ _ _ hw (lv_sub hl [] rfl) hf
    · have hf := (if_neg c_5).symm.trans hf
      refine lv_iconst hx hb dX8_wouldThrow_17 ki_0 ?_
      exact hret _ _ _ _ _ dX8_wouldThrow_18 ((by decide : (0 : Int32) &&& 1 = 0).trans (Option.some.inj hf)) hw
noncomputable def F8_throwsBy (S : pS) (k0 : Nat) (a1 : Int32) : Option (Int32) :=
  bB (F8_wouldThrow S k0 a1 (S k0 2) (S k0 1)) fun r_1 =>
  some (r_1 &&& 1)
set_option maxRecDepth 100000 in
set_option maxHeartbeats 4000000 in
theorem wX8_throwsBy {l : Launch} {Z : pZ}  (hZ : CC Z) (S : pS) (k0 : Nat) (a1 : Int32) (r : Int32) (h0 : isA Z K_Thrower k0) (hf : F8_throwsBy S k0 a1 = some r) : CI l Z yX8_throwsBy cX8_throwsBy 2 .boolean 6 128 [.ref (za Z k0), .int a1] S r S := by
  unfold F8_throwsBy at hf
  refine eZ (own := RX8) (by decide) rfl (Nat.le_of_ble_eq_true rfl) (fun p e s m args below meth c Q ls G hl hw hret => ?_)
  obtain ⟨hx, hb, hml, hown, hts⟩ := G.1
  have hl : lv_has ls 2 [(0, .ref (za Z k0)), (1, .int a1)] := hl
  refine lv_aload_n hx hb dX8_throwsBy_0 rfl (lv_at hl 0 rfl) ?_
  refine lv_iload_n hx hb dX8_throwsBy_1 rfl (lv_at hl 1 rfl) ?_
  refine lv_aload_n hx hb dX8_throwsBy_2 rfl (lv_at hl 0 rfl) ?_
  refine gI G hw h0 KX8 2 (by decide) rfl fl_X8_28 dX8_throwsBy_3 ?_
  refine lv_aload_n hx hb dX8_throwsBy_6 rfl (lv_at hl 0 rfl) ?_
  refine gI G hw h0 KX8 1 (by decide) rfl fl_X8_19 dX8_throwsBy_7 ?_
  obtain ⟨r_1, hr_1, hf⟩ := bB_e hf
  refine kVi (rest := []) G hw (wX8_wouldThrow hZ S k0 a1 (S k0 2) (S k0 1) r_1 h0 hr_1) cw_X8_47 h0 KX8 ⟨Nat.le_of_ble_eq_true rfl, Nat.le_of_ble_eq_true rfl⟩ rfl hl.1 rfl (Nat.le_of_ble_eq_true rfl) ⟨Nat.le_refl _, Nat.le_refl _⟩ dX8_throwsBy_10 (fun H locs hw => ?_)
  exact hret _ _ _ _ _ dX8_throwsBy_13 (Option.some.inj hf) hw
noncomputable def F11_turnByPlan (S : pS) (k1 : Nat) : Option (Int32 × pS) :=
  bL (S k1 5) fun l2_1 =>
  bB (F8_throwsBy S k1 l2_1) fun r_2 =>
  if r_2 = 0 then
    bB (F4_remember S 65 1 k1) fun S_10 =>
    bL (sU S_10 k1 5 (jmin (S_10 k1 4) (l2_1 + 1))) fun S_11 =>
    bL (F10_nextTurn S_11 1) fun S_12 =>
    some ((0 : Int32), S_12)
  else
    bB (F8_order S k1 l2_1 0) fun r_3 =>
    bB (F8_order S k1 l2_1 1) fun r_4 =>
    bB (F8_order S k1 l2_1 2) fun r_5 =>
    bB (F8_order S k1 l2_1 3) fun r_6 =>
    bB2 (F11_hurl S k1 r_3 r_4 r_5 r_6) fun r_7 S_8 =>
    bL (sU S_8 k1 5 (l2_1 + 1)) fun S_9 =>
    some ((1 : Int32), S_9)
set_option maxRecDepth 100000 in
set_option maxHeartbeats 4000000 in
theorem wX11_turnByPlan {l : Launch} {Z : pZ}  (hZ : CC Z) (S : pS) (k1 : Nat) (r : Int32) (S2 : pS) (h0 : isA Z K_PF 0) (h1 : isA Z K_Thrower k1) (hf : F11_turnByPlan S k1 = some (r, S2)) : CI l Z yX11_turnByPlan cX11_turnByPlan 3 .boolean 9 212 [.ref (za Z 0), .ref (za Z k1)] S r S2 := by
  unfold F11_turnByPlan at hf
  refine eZ (own := RX11) (by decide) rfl (Nat.le_of_ble_eq_true rfl) (fun p e s m args below meth c Q ls G hl hw hret => ?_)
  obtain ⟨hx, hb, hml, hown, hts⟩ := G.1
  have hl : lv_has ls 3 [(0, .ref (za Z 0)), (1, .ref (za Z k1))] := hl
  refine lv_aload_n hx hb dX11_turnByPlan_0 rfl (lv_at hl 1 rfl) ?_
  refine gI G hw h1 KX8 5 (by decide) rfl fl_X11_167 dX11_turnByPlan_1 ?_
  obtain ⟨l2_1, el2_1, hf⟩ := bL_e hf
  refine top_i el2_1 ?_
  refine lv_istore_n (lv' := [(2, .int l2_1), (0, .ref (za Z 0)), (1, .ref (za Z k1))]) hx hb dX11_turnByPlan_4 rfl hl (by decide) rfl (fun ls hl => ?_)
  refine lv_aload_n hx hb dX11_turnByPlan_5 rfl (lv_at hl 2 rfl) ?_
  refine lv_iload_n hx hb dX11_turnByPlan_6 rfl (lv_at hl 0 rfl) ?_
  obtain ⟨r_2, hr_2, hf⟩ := bB_e hf
  refine kVi (rest := []) G hw (wX8_throwsBy hZ S k1 l2_1 r_2 h1 hr_2) cw_X11_270 h1 KX8 ⟨Nat.le_of_ble_eq_true rfl, Nat.le_of_ble_eq_true rfl⟩ rfl hl.1 rfl (Nat.le_of_ble_eq_true rfl) ⟨Nat.le_refl _, Nat.le_refl _⟩ dX11_turnByPlan_7 (fun H locs hw => ?_)
  refine lv_if_ne (tgt := 48) hx hb dX11_turnByPlan_10 (by decide) (fun c_13 => ?_) (fun c_13 => ?_)
  · have hf := (if_neg c_13).symm.trans hf
    refine lv_aload_n hx hb dX11_turnByPlan_48 rfl (lv_at hl 1 rfl) ?_
    refine lv_aload_n hx hb dX11_turnByPlan_49 rfl (lv_at hl 2 rfl) ?_
    refine lv_aload_n hx hb dX11_turnByPlan_50 rfl (lv_at hl 2 rfl) ?_
    refine lv_iload_n hx hb dX11_turnByPlan_51 rfl (lv_at hl 0 rfl) ?_
    refine lv_iconst hx hb dX11_turnByPlan_52 ki_0 ?_
    obtain ⟨r_3, hr_3, hf⟩ := bB_e hf
    refine kVi (rest := [.ref (za Z k1), .ref (za Z 0)]) G hw (wX8_order hZ S k1 l2_1 0 r_3 h1 hr_3) cw_X11_273 h1 KX8 ⟨Nat.le_of_ble_eq_true rfl, Nat.le_of_ble_eq_true rfl⟩ rfl hl.1 rfl (Nat.le_of_ble_eq_true rfl) ⟨Nat.le_refl _, Nat.le_refl _⟩ dX11_turnByPlan_53 (fun H locs hw => ?_)
    refine lv_aload_n hx hb dX11_turnByPlan_56 rfl (lv_at hl 2 rfl) ?_
    refine lv_iload_n hx hb dX11_turnByPlan_57 rfl (lv_at hl 0 rfl) ?_
    refine lv_iconst hx hb dX11_turnByPlan_58 ki_1 ?_
    obtain ⟨r_4, hr_4, hf⟩ := bB_e hf
    refine kVi (rest := [.int r_3, .ref (za Z k1), .ref (za Z 0)]) G hw (wX8_order hZ S k1 l2_1 1 r_4 h1 hr_4) cw_X11_273 h1 KX8 ⟨Nat.le_of_ble_eq_true rfl, Nat.le_of_ble_eq_true rfl⟩ rfl hl.1 rfl (Nat.le_of_ble_eq_true rfl) ⟨Nat.le_refl _, Nat.le_refl _⟩ dX11_turnByPlan_59 (fun H locs hw => ?_)
    refine lv_aload_n hx hb dX11_turnByPlan_62 rfl (lv_at hl 2 rfl) ?_
    refine lv_iload_n hx hb dX11_turnByPlan_63 rfl (lv_at hl 0 rfl) ?_
    refine lv_iconst hx hb dX11_turnByPlan_64 ki_2 ?_
    obtain ⟨r_5, hr_5, hf⟩ := bB_e hf
    refine kVi (rest := [.int r_4, .int r_3, .ref (za Z k1), .ref (za Z 0)]) G hw (wX8_order hZ S k1 l2_1 2 r_5 h1 hr_5) cw_X11_273 h1 KX8 ⟨Nat.le_of_ble_eq_true rfl, Nat.le_of_ble_eq_true rfl⟩ rfl hl.1 rfl (Nat.le_of_ble_eq_true rfl) ⟨Nat.le_refl _, Nat.le_refl _⟩ dX11_turnByPlan_65 (fun H locs hw => ?_)
    refine lv_aload_n hx hb dX11_turnByPlan_68 rfl (lv_at hl 2 rfl) ?_
    refine lv_iload_n hx hb dX11_turnByPlan_69 rfl (lv_at hl 0 rfl) ?_
    refine lv_iconst hx hb dX11_turnByPlan_70 ki_3 ?_
    obtain ⟨r_6, hr_6, hf⟩ := bB_e hf
    refine kVi (rest := [.int r_5, .int r_4, .int r_3, .ref (za Z k1), .ref (za Z 0)]) G hw (wX8_order hZ S k1 l2_1 3 r_6 h1 hr_6) cw_X11_273 h1 KX8 ⟨Nat.le_of_ble_eq_true rfl, Nat.le_of_ble_eq_true rfl⟩ rfl hl.1 rfl (Nat.le_of_ble_eq_true rfl) ⟨Nat.le_refl _, Nat.le_refl _⟩ dX11_turnByPlan_71 (fun H locs hw => ?_)
    obtain ⟨r_7, S_8, hr_7, hf⟩ := bB2_e hf
    refine kVi (rest := []) G hw (wX11_hurl hZ S k1 r_3 r_4 r_5 r_6 r_7 S_8 h0 h1 hr_7) cw_X11_189 h0 KX11 ⟨Nat.le_of_ble_eq_true rfl, Nat.le_of_ble_eq_true rfl⟩ rfl hl.1 rfl (Nat.le_of_ble_eq_true rfl) ⟨Nat.le_refl _, Nat.le_refl _⟩ dX11_turnByPlan_74 (fun H locs hw => ?_)
    refine lv_pop hx hb dX11_turnByPlan_77 rfl ?_
    refine lv_aload_n hx hb dX11_turnByPlan_78 rfl (lv_at hl 2 rfl) ?_
    refine lv_iload_n hx hb dX11_turnByPlan_79 rfl (lv_at hl 0 rfl) ?_
    refine lv_iconst hx hb dX11_turnByPlan_80 ki_1 ?_
    refine lv_iadd hx hb dX11_turnByPlan_81 ?_
    obtain ⟨S_9, eS_9, hf⟩ := bL_e hf
    refine pI G hw h1 KX8 5 (by decide) rfl rfl rfl eS_9 fl_X11_167 dX11_turnByPlan_82 (fun H locs hw => ?_)
    refine lv_iconst hx hb dX11_turnByPlan_85 ki_1 ?_
    obtain ⟨e1, e2⟩ := Prod.mk.inj (Option.some.inj hf)
    exact hret _ _ _ _ _ dX11_turnByPlan_86 ((by decide : (1 : Int32) &&& 1 = 1).trans e1) (by rw [← e2]; exact hw)
  · have hf := (if_pos c_13).symm.trans hf
    refine lv_aload_n hx hb dX11_turnByPlan_13 rfl (lv_at hl 1 rfl) ?_
    refine gF G hw h0 KX11 4 (k2 := 65) rfl (by decide) rfl fl_X11_40 dX11_turnByPlan_14 ?_
    refine lv_aload_n hx hb dX11_turnByPlan_17 rfl (lv_at hl 1 rfl) ?_
    refine gF G hw h0 KX11 0 (k2 := 1) rfl (by decide) rfl fl_X11_10 dX11_turnByPlan_18 ?_
    refine lv_aload_n hx hb dX11_turnByPlan_21 rfl (lv_at hl 2 rfl) ?_
    obtain ⟨S_10, hS_10, hf⟩ := bB_e hf
    refine kVv (rest := []) G hw (wX4_remember hZ S 65 1 k1 S_10 (sub_PF_past hZ h0) (sub_PF_now hZ h0) h1 hS_10) cw_X11_196 (sub_PF_past hZ h0) KX4 ⟨Nat.le_of_ble_eq_true rfl, Nat.le_of_ble_eq_true rfl⟩ rfl hl.1 rfl (Nat.le_of_ble_eq_true rfl) ⟨Nat.le_refl _, Nat.le_refl _⟩ dX11_turnByPlan_22 (fun H locs hw => ?_)
    refine lv_aload_n hx hb dX11_turnByPlan_25 rfl (lv_at hl 2 rfl) ?_
    refine lv_aload_n hx hb dX11_turnByPlan_26 rfl (lv_at hl 2 rfl) ?_
    refine gI G hw h1 KX8 4 (by decide) rfl fl_X11_165 dX11_turnByPlan_27 ?_
    refine lv_iload_n hx hb dX11_turnByPlan_30 rfl (lv_at hl 0 rfl) ?_
    refine lv_iconst hx hb dX11_turnByPlan_31 ki_1 ?_
    refine lv_iadd hx hb dX11_turnByPlan_32 ?_
    refine xmin G hl.1 ml_X11_200 (Nat.le_of_ble_eq_true rfl) (Nat.le_of_ble_eq_true rfl) ⟨Nat.le_refl _, Nat.le_refl _⟩ dX11_turnByPlan_33 ?_
    obtain ⟨S_11, eS_11, hf⟩ := bL_e hf
    refine pI G hw h1 KX8 5 (by decide) rfl rfl rfl eS_11 fl_X11_167 dX11_turnByPlan_36 (fun H locs hw => ?_)
    refine lv_aload_n hx hb dX11_turnByPlan_39 rfl (lv_at hl 1 rfl) ?_
    refine gF G hw h0 KX11 0 (k2 := 1) rfl (by decide) rfl fl_X11_10 dX11_turnByPlan_40 ?_
    obtain ⟨S_12, hS_12, hf⟩ := bL_e hf
    refine kVv (rest := []) G hw (wX10_nextTurn hZ S_11 1 S_12 (sub_PF_now hZ h0) hS_12.symm) cw_X11_263 (sub_PF_now hZ h0) KX10 ⟨Nat.le_of_ble_eq_true rfl, Nat.le_of_ble_eq_true rfl⟩ rfl hl.1 rfl (Nat.le_of_ble_eq_true rfl) ⟨Nat.le_refl _, Nat.le_refl _⟩ dX11_turnByPlan_43 (fun H locs hw => ?_)
    refine lv_iconst hx hb dX11_turnByPlan_46 ki_0 ?_
    obtain ⟨e1, e2⟩ := Prod.mk.inj (Option.some.inj hf)
    exact hret _ _ _ _ _ dX11_turnByPlan_47 ((by decide : (0 : Int32) &&& 1 = 0).trans e1) (by rw [← e2]; exact hw)
noncomputable def F11_turnsGo (S : pS) (a1 : Int32) : Option (Int32 × pS) :=
  if (F11_within a1 1 48) = 0 then
    some (((-1) : Int32), S)
  else
    bB (F10_whose S 1) fun r_1 =>
    bO r_1 (
      some (((-1) : Int32), S)) fun o_2 =>
    bL (fun (l2_3 : Int32) (S_4 : pS) =>
      some (l2_3, S_4)) fun g63_26 =>
    bL (u3 fun (l2_5 : Int32) (l3_6 : Int32) (S_7 : pS) =>
      if a1 ≤ l3_6 then
        some (.inr (l2_5, S_7))
      else
        bB (F10_whose S_7 1) fun r_9 =>
        bL (fun (l2_10 : Int32) (S_11 : pS) =>
          bL (l3_6 + 1) fun l3_12 =>
          some (.inl (l2_10, l3_12, S_11))) fun j57 =>
        bO r_9 (
          j57 l2_5 S_7) fun o_13 =>
        bB2 (F11_turnByPlan S_7 o_13) fun r_14 S_15 =>
        if r_14 = 0 then
          j57 l2_5 S_15
        else
          bL (l2_5 + 1) fun l2_16 =>
          j57 l2_16 S_15) fun b26 =>
    bB (bP b26 ((0 : Int32), (0 : Int32), S)) (u2 g63_26)
set_option maxRecDepth 100000 in
set_option maxHeartbeats 4000000 in
theorem wX11_turnsGo {l : Launch} {Z : pZ}  (hZ : CC Z) (S : pS) (a1 : Int32) (r : Int32) (S2 : pS) (h0 : isA Z K_PF 0) (hf : F11_turnsGo S a1 = some (r, S2)) : CI l Z yX11_turnsGo cX11_turnsGo 5 .int 10 234 [.ref (za Z 0), .int a1] S r S2 := by
  unfold F11_turnsGo at hf
  refine eI (own := RX11) (by decide) rfl (Nat.le_of_ble_eq_true rfl) (fun p e s m args below meth c Q ls G hl hw hret => ?_)
  obtain ⟨hx, hb, hml, hown, hts⟩ := G.1
  have hl : lv_has ls 5 [(0, .ref (za Z 0)), (1, .int a1)] := hl
  refine lv_iload_n hx hb dX11_turnsGo_0 rfl (lv_at hl 1 rfl) ?_
  refine lv_iconst hx hb dX11_turnsGo_1 ki_1 ?_
  refine lv_bipush hx hb dX11_turnsGo_2 kb_48 ?_
  refine kSi (rest := []) G hw (wX11_within hZ S a1 1 48 (F11_within a1 1 48) rfl) cw_X11_51 ⟨Nat.le_of_ble_eq_true rfl, Nat.le_of_ble_eq_true rfl⟩ rfl hl.1 rfl (Nat.le_of_ble_eq_true rfl) ⟨Nat.le_refl _, Nat.le_refl _⟩ dX11_turnsGo_4 (fun H locs hw => ?_)
  refine lv_if_eq (tgt := 20) hx hb dX11_turnsGo_7 (by decide) (fun c_21 => ?_) (fun c_21 => ?_)
  · have hf := (if_pos c_21).symm.trans hf
    refine lv_iconst hx hb dX11_turnsGo_20 ki_m1 ?_
    obtain ⟨e1, e2⟩ := Prod.mk.inj (Option.some.inj hf)
    exact hret _ _ _ _ _ dX11_turnsGo_21 e1 (by rw [← e2]; exact hw)
  · have hf := (if_neg c_21).symm.trans hf
    refine lv_aload_n hx hb dX11_turnsGo_10 rfl (lv_at hl 0 rfl) ?_
    refine gF G hw h0 KX11 0 (k2 := 1) rfl (by decide) rfl fl_X11_10 dX11_turnsGo_11 ?_
    obtain ⟨r_1, hr_1, hf⟩ := bB_e hf
    refine kVq (rest := []) G hw (wX10_whose hZ S 1 r_1 (sub_PF_now hZ h0) hr_1) cw_X11_182 (sub_PF_now hZ h0) KX10 ⟨Nat.le_of_ble_eq_true rfl, Nat.le_of_ble_eq_true rfl⟩ rfl hl.1 rfl (Nat.le_of_ble_eq_true rfl) ⟨Nat.le_refl _, Nat.le_refl _⟩ dX11_turnsGo_14 (fun H locs hw => ?_)
    refine ifnnQ (tgt := 22) hx hb dX11_turnsGo_17 (by decide) (fun e_20 => ?_) (fun o_2 e_20 => ?_)
    · subst e_20
      have hf := bO_n rfl hf
      refine lv_iconst hx hb dX11_turnsGo_20 ki_m1 ?_
      obtain ⟨e1, e2⟩ := Prod.mk.inj (Option.some.inj hf)
      exact hret _ _ _ _ _ dX11_turnsGo_21 e1 (by rw [← e2]; exact hw)
    · subst e_20
      have hf := bO_s rfl hf
      have ho_2 := ret_X10_whose hZ S 1 (sub_PF_now hZ h0) (hr_1.trans (congrArg some rfl))
      refine lv_iconst hx hb dX11_turnsGo_22 ki_0 ?_
      refine lv_istore_n (lv' := [(2, .int 0), (0, .ref (za Z 0)), (1, .int a1)]) hx hb dX11_turnsGo_23 rfl hl (by decide) rfl (fun ls hl => ?_)
      refine lv_iconst hx hb dX11_turnsGo_24 ki_0 ?_
      refine lv_istore_n (lv' := [(3, .int 0), (2, .int 0), (0, .ref (za Z 0)), (1, .int a1)]) hx hb dX11_turnsGo_25 rfl hl (by decide) rfl (fun ls hl => ?_)
      obtain ⟨g63_26, ej, hf⟩ := bL_e hf
      have R63_26 : ∀ (l2_3 : Int32) (S_4 : pS) (H : Heap) (locs : List Loc) (ls : Array Slot), Wd Z s S_4 H locs → lv_has ls 5 [(2, .int l2_3)] → g63_26 l2_3 S_4 = some (r, S2) → W p l e { frames := 10, cells := 0, slots := 0, locals := 234 } s m args below meth c H locs 0 0 Q (F0 m 63 ls []) := by
        intro l2_3 S_4 H locs ls hw hl hf
        have hf := (congrFun (congrFun ej l2_3) S_4).symm.trans hf
        refine lv_iload_n hx hb dX11_turnsGo_63 rfl (lv_at hl 0 rfl) ?_
        obtain ⟨e1, e2⟩ := Prod.mk.inj (Option.some.inj hf)
        exact hret _ _ _ _ _ dX11_turnsGo_64 e1 (by rw [← e2]; exact hw)
      clear ej
      obtain ⟨b26, eb, hf⟩ := bL_e hf
      have RL26 : ∀ (n : Nat) z, (u2 g63_26) z = some (r, S2) → ∀ (l2_5 : Int32) (l3_6 : Int32) (S_7 : pS) (H : Heap) (locs : List Loc) (ls : Array Slot), Wd Z s S_7 H locs → lv_has ls 5 [(0, .ref (za Z 0)), (1, .int a1), (2, .int l2_5), (3, .int l3_6)] → bPn b26 n (l2_5, l3_6, S_7) = some z → W p l e { frames := 10, cells := 0, slots := 0, locals := 234 } s m args below meth c H locs 0 0 Q (F0 m 26 ls []) := by
        intro n
        induction n with
        | zero =>
          intro z hg l2_5 l3_6 S_7 H locs ls hw hl hz
          exact bPn_0 hz
        | succ n ih =>
          intro z hg l2_5 l3_6 S_7 H locs ls hw hl hz
          obtain ⟨q_8, hf, hz⟩ := bPn_e hz
          have hf := u3_e ((congrFun eb _).symm.trans hf)
          refine lv_iload_n hx hb dX11_turnsGo_26 rfl (lv_at hl 3 rfl) ?_
          refine lv_iload_n hx hb dX11_turnsGo_27 rfl (lv_at hl 1 rfl) ?_
          refine lv_icmp_ge (tgt := 63) hx hb dX11_turnsGo_28 (by decide) (fun c_19 => ?_) (fun c_19 => ?_)
          · have hf := (if_pos c_19).symm.trans hf
            obtain rfl := Option.some.inj hf
            obtain rfl := Option.some.inj (hz : some _ = some _)
            exact R63_26 _ _ _ _ _ hw (lv_sub hl [2] rfl) hg
          · have hf := (if_neg c_19).symm.trans hf
            refine lv_aload_n hx hb dX11_turnsGo_31 rfl (lv_at hl 0 rfl) ?_
            refine gF G hw h0 KX11 0 (k2 := 1) rfl (by decide) rfl fl_X11_10 dX11_turnsGo_32 ?_
            obtain ⟨r_9, hr_9, hf⟩ := bB_e hf
            refine kVq (rest := []) G hw (wX10_whose hZ S_7 1 r_9 (sub_PF_now hZ h0) hr_9) cw_X11_182 (sub_PF_now hZ h0) KX10 ⟨Nat.le_of_ble_eq_true rfl, Nat.le_of_ble_eq_true rfl⟩ rfl hl.1 rfl (Nat.le_of_ble_eq_true rfl) ⟨Nat.le_refl _, Nat.le_refl _⟩ dX11_turnsGo_35 (fun H locs hw => ?_)
            refine astQ (lv' := [(4, va_rf (Option.map (za Z) r_9)), (0, .ref (za Z 0)), (1, .int a1), (2, .int l2_5), (3, .int l3_6)]) hx hb dX11_turnsGo_38 hl (by decide) rfl (fun ls hl => ?_)
            refine aldQ hx hb dX11_turnsGo_40 (lv_at hl 0 rfl) ?_
            obtain ⟨j57, ej, hf⟩ := bL_e hf
            have R57 : ∀ (l2_10 : Int32) (S_11 : pS) (H : Heap) (locs : List Loc) (ls : Array Slot), Wd Z s S_11 H locs → lv_has ls 5 [(0, .ref (za Z 0)), (1, .int a1), (2, .int l2_10), (3, .int l3_6)] → j57 l2_10 S_11 = some q_8 → W p l e { frames := 10, cells := 0, slots := 0, locals := 234 } s m args below meth c H locs 0 0 Q (F0 m 57 ls []) := by
              intro l2_10 S_11 H locs ls hw hl hf
              have hf := (congrFun (congrFun ej l2_10) S_11).symm.trans hf
              obtain ⟨l3_12, el3_12, hf⟩ := bL_e hf
              refine lv_iinc (v := l3_12) (lv' := [(3, .int l3_12), (0, .ref (za Z 0)), (1, .int a1), (2, .int l2_10)]) hx hb dX11_turnsGo_57 hl (k := 3) rfl (by rw [el3_12]; rfl) (by decide) rfl (fun ls hl => ?_)
              refine lv_goto (tgt := 26) hx hb dX11_turnsGo_60 (by decide) ?_
              obtain rfl := Option.some.inj hf
              exact ih _ hg _ _ _ _ _ _ hw (lv_sub hl [1, 2, 3, 0] rfl) hz
            clear ej
            refine ifnQ (tgt := 57) hx hb dX11_turnsGo_42 (by decide) (fun e_18 => ?_) (fun o_13 e_18 => ?_)
            · subst e_18
              have hf := bO_n rfl hf
              exact R57 _ _ _ _ _ hw (lv_sub hl [1, 2, 3, 4] rfl) hf
            · subst e_18
              have hf := bO_s rfl hf
              have ho_13 := ret_X10_whose hZ S_7 1 (sub_PF_now hZ h0) (hr_9.trans (congrArg some rfl))
              refine lv_aload_n hx hb dX11_turnsGo_45 rfl (lv_at hl 1 rfl) ?_
              refine lv_aload hx hb dX11_turnsGo_46 (lv_at hl 0 rfl) ?_
              obtain ⟨r_14, S_15, hr_14, hf⟩ := bB2_e hf
              refine kVi (rest := []) G hw (wX11_turnByPlan hZ S_7 o_13 r_14 S_15 h0 ho_13 hr_14) cw_X11_266 h0 KX11 ⟨Nat.le_of_ble_eq_true rfl, Nat.le_of_ble_eq_true rfl⟩ rfl hl.1 rfl (Nat.le_of_ble_eq_true rfl) ⟨Nat.le_refl _, Nat.le_refl _⟩ dX11_turnsGo_48 (fun H locs hw => ?_)
              refine lv_if_eq (tgt := 57) hx hb dX11_turnsGo_51 (by decide) (fun c_17 => ?_) (fun c_17 => ?_)
              · have hf := (if_pos c_17).symm.trans hf
                exact R57 _ _ _ _ _ hw (lv_sub hl [1, 2, 3, 4] rfl) hf
              · have hf := (if_neg c_17).symm.trans hf
                obtain ⟨l2_16, el2_16, hf⟩ := bL_e hf
                refine lv_iinc (v := l2_16) (lv' := [(2, .int l2_16), (4, .ref (za Z o_13)), (0, .ref (za Z 0)), (1, .int a1), (3, .int l3_6)]) hx hb dX11_turnsGo_54 hl (k := 3) rfl (by rw [el2_16]; rfl) (by decide) rfl (fun ls hl => ?_)
                exact R57 _ _ _ _ _ hw (lv_sub hl [2, 3, 0, 4] rfl) hf
      clear eb
      obtain ⟨z, hz, hf⟩ := bB_e hf
      obtain ⟨n, hz⟩ := bP_e hz
      exact RL26 n z hf _ _ _ _ _ _ hw (lv_sub hl [2, 3, 1, 0] rfl) hz

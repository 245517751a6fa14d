noncomputable def F1_weigh (S : pS) (k0 : Nat) (k1 : Nat) (k2 : Nat) (a3 : Int32) (a4 : Int32) : Option (pS) :=
  bG (pmu (nI (k1 + 14)) = some (k1 + 14)) <|
  bL (sU S k0 5 (nI (k1 + 14))) fun S_1 =>
  bL (sU S_1 k0 6 a4) fun S_2 =>
  bB (F1_upTo (S_2 k2 0)) fun r_3 =>
  bL (sU S_2 k0 7 r_3) fun S_4 =>
  bL (sU S_4 k0 8 ((S_4 k2 3) + a3)) fun S_5 =>
  bL (F0_ask S_5 (k0 + 2) k2 (S_5 k1 2)) fun S_6 =>
  bL (fun (S_7 : pS) =>
    bL (sU S_7 k0 1 0) fun S_8 =>
    bL (sU S_8 k0 2 0) fun S_9 =>
    bL (fun (S_10 : pS) =>
      some S_10) fun g162_96 =>
    bL (u2 fun (l5_11 : Int32) (S_12 : pS) =>
      if (S_12 k0 7) ≤ l5_11 then
        some (.inr S_12)
      else
        if a3 ≤ 0 then
          some (.inr S_12)
        else
          if 1000 ≤ (S_12 k2 1) then
            some (.inr S_12)
          else
            bB2 (F1_by S_12 k0 l5_11 a3 (S_12 k2 1)) fun r_14 S_15 =>
            bL (fun (S_16 : pS) =>
              bL (l5_11 + 1) fun l5_17 =>
              some (.inl (l5_17, S_16))) fun j156 =>
            if r_14 ≤ (S_15 k0 1) then
              j156 S_15
            else
              bL (sU S_15 k0 1 r_14) fun S_18 =>
              bL (sU S_18 k0 2 (F1_choice l5_11)) fun S_19 =>
              j156 S_19) fun b96 =>
    bB (bP b96 ((0 : Int32), S_9)) (u1 g162_96)) fun g83_50 =>
  bL (u2 fun (l5_24 : Int32) (S_25 : pS) =>
    if a3 < l5_24 then
      some (.inr S_25)
    else
      if 7 ≤ l5_24 then
        some (.inr S_25)
      else
        bG (vp_in l5_24 7) <|
        bB (FJ7_fill_53178 S_25 ((k0 + 5) + l5_24.toNatClampNeg) 1000 (-1)) fun S_28 =>
        bL (l5_24 + 1) fun l5_29 =>
        some (.inl (l5_29, S_28))) fun b50 =>
  bB (bP b50 ((0 : Int32), S_6)) (u1 g83_50)
set_option maxRecDepth 100000 in
set_option maxHeartbeats 4000000 in
theorem wX1_weigh {l : Launch} {Z : pZ}  (hZ : CC Z) (S : pS) (k0 : Nat) (k1 : Nat) (k2 : Nat) (a3 : Int32) (a4 : Int32) (S2 : pS) (h0 : isA Z K_Chances k0) (h1 : isA Z K_World k1) (h2 : isA Z K_Thrower k2) (h15 : isA Z K_Law 15) (hf : F1_weigh S k0 k1 k2 a3 a4 = some S2) : CV l Z yX1_weigh cX1_weigh 7 48 2579 [.ref (za Z k0), .ref (za Z k1), .ref (za Z k2), .int a3, .int a4] S S2 := by
  unfold F1_weigh at hf
  refine eV (own := RX1) (by decide) rfl (Nat.le_of_ble_eq_true rfl) (fun p e s m args below meth c Q ls G hl hw hret => ?_)
  obtain ⟨hx, hb, hml, hown, hts⟩ := G.1
  have hl : lv_has ls 7 [(0, .ref (za Z k0)), (1, .ref (za Z k1)), (2, .ref (za Z k2)), (3, .int a3), (4, .int a4)] := hl
  refine lv_aload_n hx hb dX1_weigh_0 rfl (lv_at hl 0 rfl) ?_
  refine lv_aload_n hx hb dX1_weigh_1 rfl (lv_at hl 1 rfl) ?_
  refine gF G hw h1 KX10 15 (k2 := (k1 + 14)) rfl (by decide) rfl fl_X1_33 dX1_weigh_2 ?_
  obtain ⟨hg1, hf⟩ := bG_e hf
  obtain ⟨S_1, eS_1, hf⟩ := bL_e hf
  refine pM G hw h0 KX1 5 (by decide) rfl hg1 rfl rfl rfl eS_1 fl_X1_36 dX1_weigh_5 (fun H locs hw => ?_)
  refine lv_aload_n hx hb dX1_weigh_8 rfl (lv_at hl 0 rfl) ?_
  refine lv_iload hx hb dX1_weigh_9 (lv_at hl 4 rfl) ?_
  obtain ⟨S_2, eS_2, hf⟩ := bL_e hf
  refine pI G hw h0 KX1 6 (by decide) rfl rfl rfl eS_2 fl_X1_39 dX1_weigh_11 (fun H locs hw => ?_)
  refine lv_aload_n hx hb dX1_weigh_14 rfl (lv_at hl 0 rfl) ?_
  refine lv_aload_n hx hb dX1_weigh_15 rfl (lv_at hl 2 rfl) ?_
  refine gI G hw h2 KX8 0 (by decide) rfl fl_X1_43 dX1_weigh_16 ?_
  obtain ⟨r_3, hr_3, hf⟩ := bB_e hf
  refine kSi (rest := [.ref (za Z k0)]) G hw (wX1_upTo hZ S_2 (S_2 k2 0) r_3 hr_3) cw_X1_48 ⟨Nat.le_of_ble_eq_true rfl, Nat.le_of_ble_eq_true rfl⟩ rfl hl.1 rfl (Nat.le_of_ble_eq_true rfl) ⟨Nat.le_refl _, Nat.le_refl _⟩ dX1_weigh_19 (fun H locs hw => ?_)
  obtain ⟨S_4, eS_4, hf⟩ := bL_e hf
  refine pI G hw h0 KX1 7 (by decide) rfl rfl rfl eS_4 fl_X1_51 dX1_weigh_22 (fun H locs hw => ?_)
  refine lv_aload_n hx hb dX1_weigh_25 rfl (lv_at hl 0 rfl) ?_
  refine lv_aload_n hx hb dX1_weigh_26 rfl (lv_at hl 2 rfl) ?_
  refine gI G hw h2 KX8 3 (by decide) rfl fl_X1_54 dX1_weigh_27 ?_
  refine lv_iload_n hx hb dX1_weigh_30 rfl (lv_at hl 3 rfl) ?_
  refine lv_iadd hx hb dX1_weigh_31 ?_
  obtain ⟨S_5, eS_5, hf⟩ := bL_e hf
  refine pI G hw h0 KX1 8 (by decide) rfl rfl rfl eS_5 fl_X1_57 dX1_weigh_32 (fun H locs hw => ?_)
  refine lv_aload_n hx hb dX1_weigh_35 rfl (lv_at hl 0 rfl) ?_
  refine gF G hw h0 KX1 3 (k2 := (k0 + 2)) rfl (by decide) rfl fl_X1_18 dX1_weigh_36 ?_
  refine lv_aload_n hx hb dX1_weigh_39 rfl (lv_at hl 2 rfl) ?_
  refine lv_aload_n hx hb dX1_weigh_40 rfl (lv_at hl 1 rfl) ?_
  refine gI G hw h1 KX10 2 (by decide) rfl fl_X1_58 dX1_weigh_41 ?_
  obtain ⟨S_6, hS_6, hf⟩ := bL_e hf
  refine kVv (rest := []) G hw (wX0_ask hZ S_5 (k0 + 2) k2 (S_5 k1 2) S_6 (sub_Chances_arms hZ h0) h2 hS_6.symm) cw_X1_61 (sub_Chances_arms hZ h0) KX0 ⟨Nat.le_of_ble_eq_true rfl, Nat.le_of_ble_eq_true rfl⟩ rfl hl.1 rfl (Nat.le_of_ble_eq_true rfl) ⟨Nat.le_refl _, Nat.le_refl _⟩ dX1_weigh_44 (fun H locs hw => ?_)
  refine lv_iconst hx hb dX1_weigh_47 ki_0 ?_
  refine lv_istore (lv' := [(5, .int 0), (0, .ref (za Z k0)), (1, .ref (za Z k1)), (2, .ref (za Z k2)), (3, .int a3), (4, .int a4)]) hx hb dX1_weigh_48 hl (by decide) rfl (fun ls hl => ?_)
  obtain ⟨g83_50, ej, hf⟩ := bL_e hf
  have R83_50 : ∀ (S_7 : pS) (H : Heap) (locs : List Loc) (ls : Array Slot), Wd Z s S_7 H locs → lv_has ls 7 [(0, .ref (za Z k0)), (2, .ref (za Z k2)), (3, .int a3)] → g83_50 S_7 = some S2 → W p l e { frames := 48, cells := 0, slots := 0, locals := 2579 } s m args below meth c H locs 0 0 Q (F0 m 83 ls []) := by
    intro S_7 H locs ls hw hl hf
    have hf := (congrFun ej S_7).symm.trans hf
    refine lv_aload_n hx hb dX1_weigh_83 rfl (lv_at hl 0 rfl) ?_
    refine lv_iconst hx hb dX1_weigh_84 ki_0 ?_
    obtain ⟨S_8, eS_8, hf⟩ := bL_e hf
    refine pI G hw h0 KX1 1 (by decide) rfl rfl rfl eS_8 fl_X1_71 dX1_weigh_85 (fun H locs hw => ?_)
    refine lv_aload_n hx hb dX1_weigh_88 rfl (lv_at hl 0 rfl) ?_
    refine lv_iconst hx hb dX1_weigh_89 ki_0 ?_
    obtain ⟨S_9, eS_9, hf⟩ := bL_e hf
    refine pI G hw h0 KX1 2 (by decide) rfl rfl rfl eS_9 fl_X1_74 dX1_weigh_90 (fun H locs hw => ?_)
    refine lv_iconst hx hb dX1_weigh_93 ki_0 ?_
    refine lv_istore (lv' := [(5, .int 0), (0, .ref (za Z k0)), (2, .ref (za Z k2)), (3, .int a3)]) hx hb dX1_weigh_94 hl (by decide) rfl (fun ls hl => ?_)
    obtain ⟨g162_96, ej, hf⟩ := bL_e hf
    have R162_96 : ∀ (S_10 : pS) (H : Heap) (locs : List Loc) (ls : Array Slot), Wd Z s S_10 H locs → lv_has ls 7 [] → g162_96 S_10 = some S2 → W p l e { frames := 48, cells := 0, slots := 0, locals := 2579 } s m args below meth c H locs 0 0 Q (F0 m 162 ls []) := by
      intro S_10 H locs ls hw hl hf
      have hf := (congrFun ej S_10).symm.trans hf
      exact hret _ _ _ _ dX1_weigh_162 (by rw [← (Option.some.inj hf)]; exact hw)
    clear ej
    obtain ⟨b96, eb, hf⟩ := bL_e hf
    have RL96 : ∀ (n : Nat) z, (u1 g162_96) z = some S2 → ∀ (l5_11 : Int32) (S_12 : pS) (H : Heap) (locs : List Loc) (ls : Array Slot), Wd Z s S_12 H locs → lv_has ls 7 [(0, .ref (za Z k0)), (2, .ref (za Z k2)), (3, .int a3), (5, .int l5_11)] → bPn b96 n (l5_11, S_12) = some z → W p l e { frames := 48, cells := 0, slots := 0, locals := 2579 } s m args below meth c H locs 0 0 Q (F0 m 96 ls []) := by
      intro n
      induction n with
      | zero =>
        intro z hg l5_11 S_12 H locs ls hw hl hz
        exact bPn_0 hz
      | succ n ih =>
        intro z hg l5_11 S_12 H locs ls hw hl hz
        obtain ⟨q_13, hf, hz⟩ := bPn_e hz
        have hf := u2_e ((congrFun eb _).symm.trans hf)
        refine lv_iload hx hb dX1_weigh_96 (lv_at hl 3 rfl) ?_
        refine lv_aload_n hx hb dX1_weigh_98 rfl (lv_at hl 0 rfl) ?_
        refine gI G hw h0 KX1 7 (by decide) rfl fl_X1_51 dX1_weigh_99 ?_
        refine lv_icmp_ge (tgt := 162) hx hb dX1_weigh_102 (by decide) (fun c_23 => ?_) (fun c_23 => ?_)
        · have hf := (if_pos c_23).symm.trans hf
          obtain rfl := Option.some.inj hf
          obtain rfl := Option.some.inj (hz : some _ = some _)
          exact R162_96 _ _ _ _ hw (lv_sub hl [] rfl) hg
        · have hf := (if_neg c_23).symm.trans hf
          refine lv_iload_n hx hb dX1_weigh_105 rfl (lv_at hl 2 rfl) ?_
          refine lv_if_le (tgt := 162) hx hb dX1_weigh_106 (by decide) (fun c_22 => ?_) (fun c_22 => ?_)
          · have hf := (if_pos c_22).symm.trans hf
            obtain rfl := Option.some.inj hf
            obtain rfl := Option.some.inj (hz : some _ = some _)
            exact R162_96 _ _ _ _ hw (lv_sub hl [] rfl) hg
          · have hf := (if_neg c_22).symm.trans hf
            refine lv_aload_n hx hb dX1_weigh_109 rfl (lv_at hl 1 rfl) ?_
            refine gI G hw h2 KX8 1 (by decide) rfl fl_X1_77 dX1_weigh_110 ?_
            refine lv_sipush hx hb dX1_weigh_113 ks_1000 ?_
            refine lv_icmp_ge (tgt := 162) hx hb dX1_weigh_116 (by decide) (fun c_21 => ?_) (fun c_21 => ?_)
            · have hf := (if_pos c_21).symm.trans hf
              obtain rfl := Option.some.inj hf
              obtain rfl := Option.some.inj (hz : some _ = some _)
              exact R162_96 _ _ _ _ hw (lv_sub hl [] rfl) hg
            · have hf := (if_neg c_21).symm.trans hf
              refine lv_aload_n hx hb dX1_weigh_119 rfl (lv_at hl 0 rfl) ?_
              refine lv_iload hx hb dX1_weigh_120 (lv_at hl 3 rfl) ?_
              refine lv_iload_n hx hb dX1_weigh_122 rfl (lv_at hl 2 rfl) ?_
              refine lv_aload_n hx hb dX1_weigh_123 rfl (lv_at hl 1 rfl) ?_
              refine gI G hw h2 KX8 1 (by decide) rfl fl_X1_77 dX1_weigh_124 ?_
              obtain ⟨r_14, S_15, hr_14, hf⟩ := bB2_e hf
              refine kVi (rest := []) G hw (wX1_by hZ S_12 k0 l5_11 a3 (S_12 k2 1) r_14 S_15 h0 h15 hr_14) cw_X1_80 h0 KX1 ⟨Nat.le_of_ble_eq_true rfl, Nat.le_of_ble_eq_true rfl⟩ rfl hl.1 rfl (Nat.le_of_ble_eq_true rfl) ⟨Nat.le_refl _, Nat.le_refl _⟩ dX1_weigh_127 (fun H locs hw => ?_)
              refine lv_istore (lv' := [(6, .int r_14), (0, .ref (za Z k0)), (2, .ref (za Z k2)), (3, .int a3), (5, .int l5_11)]) hx hb dX1_weigh_130 hl (by decide) rfl (fun ls hl => ?_)
              refine lv_iload hx hb dX1_weigh_132 (lv_at hl 0 rfl) ?_
              refine lv_aload_n hx hb dX1_weigh_134 rfl (lv_at hl 1 rfl) ?_
              refine gI G hw h0 KX1 1 (by decide) rfl fl_X1_71 dX1_weigh_135 ?_
              obtain ⟨j156, ej, hf⟩ := bL_e hf
              have R156 : ∀ (S_16 : pS) (H : Heap) (locs : List Loc) (ls : Array Slot), Wd Z s S_16 H locs → lv_has ls 7 [(0, .ref (za Z k0)), (2, .ref (za Z k2)), (3, .int a3), (5, .int l5_11)] → j156 S_16 = some q_13 → W p l e { frames := 48, cells := 0, slots := 0, locals := 2579 } s m args below meth c H locs 0 0 Q (F0 m 156 ls []) := by
                intro S_16 H locs ls hw hl hf
                have hf := (congrFun ej S_16).symm.trans hf
                obtain ⟨l5_17, el5_17, hf⟩ := bL_e hf
                refine lv_iinc (v := l5_17) (lv' := [(5, .int l5_17), (0, .ref (za Z k0)), (2, .ref (za Z k2)), (3, .int a3)]) hx hb dX1_weigh_156 hl (k := 3) rfl (by rw [el5_17]; rfl) (by decide) rfl (fun ls hl => ?_)
                refine lv_goto (tgt := 96) hx hb dX1_weigh_159 (by decide) ?_
                obtain rfl := Option.some.inj hf
                exact ih _ hg _ _ _ _ _ hw (lv_sub hl [1, 2, 3, 0] rfl) hz
              clear ej
              refine lv_icmp_le (tgt := 156) hx hb dX1_weigh_138 (by decide) (fun c_20 => ?_) (fun c_20 => ?_)
              · have hf := (if_pos c_20).symm.trans hf
                exact R156 _ _ _ _ hw (lv_sub hl [1, 2, 3, 4] rfl) hf
              · have hf := (if_neg c_20).symm.trans hf
                refine lv_aload_n hx hb dX1_weigh_141 rfl (lv_at hl 1 rfl) ?_
                refine lv_iload hx hb dX1_weigh_142 (lv_at hl 0 rfl) ?_
                obtain ⟨S_18, eS_18, hf⟩ := bL_e hf
                refine pI G hw h0 KX1 1 (by decide) rfl rfl rfl eS_18 fl_X1_71 dX1_weigh_144 (fun H locs hw => ?_)
                refine lv_aload_n hx hb dX1_weigh_147 rfl (lv_at hl 1 rfl) ?_
                refine lv_iload hx hb dX1_weigh_148 (lv_at hl 4 rfl) ?_
                refine kSi (rest := [.ref (za Z k0)]) G hw (wX1_choice hZ S_18 l5_11 (F1_choice l5_11) rfl) cw_X1_29 ⟨Nat.le_of_ble_eq_true rfl, Nat.le_of_ble_eq_true rfl⟩ rfl hl.1 rfl (Nat.le_of_ble_eq_true rfl) ⟨Nat.le_refl _, Nat.le_refl _⟩ dX1_weigh_150 (fun H locs hw => ?_)
                obtain ⟨S_19, eS_19, hf⟩ := bL_e hf
                refine pI G hw h0 KX1 2 (by decide) rfl rfl rfl eS_19 fl_X1_74 dX1_weigh_153 (fun H locs hw => ?_)
                exact R156 _ _ _ _ hw (lv_sub hl [1, 2, 3, 4] rfl) hf
    clear eb
    obtain ⟨z, hz, hf⟩ := bB_e hf
    obtain ⟨n, hz⟩ := bP_e hz
    exact RL96 n z hf _ _ _ _ _ hw (lv_sub hl [1, 2, 3, 0] rfl) hz
  clear ej
  obtain ⟨b50, eb, hf⟩ := bL_e hf
  have RL50 : ∀ (n : Nat) z, (u1 g83_50) z = some S2 → ∀ (l5_24 : Int32) (S_25 : pS) (H : Heap) (locs : List Loc) (ls : Array Slot), Wd Z s S_25 H locs → lv_has ls 7 [(0, .ref (za Z k0)), (2, .ref (za Z k2)), (3, .int a3), (5, .int l5_24)] → bPn b50 n (l5_24, S_25) = some z → W p l e { frames := 48, cells := 0, slots := 0, locals := 2579 } s m args below meth c H locs 0 0 Q (F0 m 50 ls []) := by
    intro n
    induction n with
    | zero =>
      intro z hg l5_24 S_25 H locs ls hw hl hz
      exact bPn_0 hz
    | succ n ih =>
      intro z hg l5_24 S_25 H locs ls hw hl hz
      obtain ⟨q_26, hf, hz⟩ := bPn_e hz
      have hf := u2_e ((congrFun eb _).symm.trans hf)
      refine lv_iload hx hb dX1_weigh_50 (lv_at hl 3 rfl) ?_
      refine lv_iload_n hx hb dX1_weigh_52 rfl (lv_at hl 2 rfl) ?_
      refine lv_icmp_gt (tgt := 83) hx hb dX1_weigh_53 (by decide) (fun c_31 => ?_) (fun c_31 => ?_)
      · have hf := (if_pos c_31).symm.trans hf
        obtain rfl := Option.some.inj hf
        obtain rfl := Option.some.inj (hz : some _ = some _)
        exact R83_50 _ _ _ _ hw (lv_sub hl [0, 1, 2] rfl) hg
      · have hf := (if_neg c_31).symm.trans hf
        refine lv_iload hx hb dX1_weigh_56 (lv_at hl 3 rfl) ?_
        refine lv_aload_n hx hb dX1_weigh_58 rfl (lv_at hl 0 rfl) ?_
        refine gF G hw h0 KX1 4 (k2 := (k0 + 4)) rfl (by decide) rfl fl_X1_26 dX1_weigh_59 ?_
        refine aL G hw (t := 5) (sub_Chances_known hZ h0) rfl (v := 7) (by decide) dX1_weigh_62 ?_
        refine lv_icmp_ge (tgt := 83) hx hb dX1_weigh_63 (by decide) (fun c_30 => ?_) (fun c_30 => ?_)
        · have hf := (if_pos c_30).symm.trans hf
          obtain rfl := Option.some.inj hf
          obtain rfl := Option.some.inj (hz : some _ = some _)
          exact R83_50 _ _ _ _ hw (lv_sub hl [0, 1, 2] rfl) hg
        · have hf := (if_neg c_30).symm.trans hf
          refine lv_aload_n hx hb dX1_weigh_66 rfl (lv_at hl 0 rfl) ?_
          refine gF G hw h0 KX1 4 (k2 := (k0 + 4)) rfl (by decide) rfl fl_X1_26 dX1_weigh_67 ?_
          refine lv_iload hx hb dX1_weigh_70 (lv_at hl 3 rfl) ?_
          obtain ⟨hg_27, hf⟩ := bG_e hf
          refine aG G hw (sub_Chances_known hZ h0) hg_27 (j := l5_24.toNatClampNeg) (k2 := ((k0 + 5) + l5_24.toNatClampNeg)) rfl rfl dX1_weigh_72 ?_
          refine lv_iconst hx hb dX1_weigh_73 ki_m1 ?_
          obtain ⟨S_28, hS_28, hf⟩ := bB_e hf
          refine kTv (rest := []) G hw (wJ7_fill_53178 hZ S_25 ((k0 + 5) + l5_24.toNatClampNeg) 1000 (-1) S_28 (gr_G7x1000 hZ (sub_Chances_known hZ h0) (vin_lt hg_27)) hS_28) cw_X1_65 ⟨Nat.le_of_ble_eq_true rfl, Nat.le_of_ble_eq_true rfl⟩ rfl hl.1 rfl (Nat.le_of_ble_eq_true rfl) ⟨Nat.le_refl _, Nat.le_refl _⟩ dX1_weigh_74 (fun H locs hw => ?_)
          obtain ⟨l5_29, el5_29, hf⟩ := bL_e hf
          refine lv_iinc (v := l5_29) (lv' := [(5, .int l5_29), (0, .ref (za Z k0)), (2, .ref (za Z k2)), (3, .int a3)]) hx hb dX1_weigh_77 hl (k := 3) rfl (by rw [el5_29]; rfl) (by decide) rfl (fun ls hl => ?_)
          refine lv_goto (tgt := 50) hx hb dX1_weigh_80 (by decide) ?_
          obtain rfl := Option.some.inj hf
          exact ih _ hg _ _ _ _ _ hw (lv_sub hl [1, 2, 3, 0] rfl) hz
  clear eb
  obtain ⟨z, hz, hf⟩ := bB_e hf
  obtain ⟨n, hz⟩ := bP_e hz
  exact RL50 n z hf _ _ _ _ _ hw (lv_sub hl [1, 3, 4, 0] rfl) hz
noncomputable def F11_chance (S : pS) (a1 : Int32) (a2 : Int32) (a3 : Int32) (a4 : Int32) (a5 : Int32) (a6 : Int32) : Option (Int32 × pS) :=
  bB (F10_one S 1 a1) fun r_1 =>
  bO r_1 (
    some (((-1) : Int32), S)) fun o_2 =>
  if (F11_within a3 0 6) = 0 then
    some (((-1) : Int32), S)
  else
    if (F11_canThrow S 0 a4 a5) = 0 then
      some (((-1) : Int32), S)
    else
      if (F11_within a6 0 1) = 0 then
        some (((-1) : Int32), S)
      else
        bG (pmu (S 0 6) = some 119) <|
        bL (fun (S_3 : pS) =>
          bL (fun (S_4 : pS) =>
            bG (pmu (S_4 0 6) = some 119) <|
            bB (F1_weigh S_4 119 1 o_2 a3 a4) fun S_5 =>
            if a6 = 0 then
              bG (pmu (S_5 0 6) = some 119) <|
              some (S_5 119 1, S_5)
            else
              bG (pmu (S_5 0 6) = some 119) <|
              some (S_5 119 2, S_5)) fun g141_70 =>
          bL (u2 fun (l8_7 : Int32) (S_8 : pS) =>
            if 10 ≤ l8_7 then
              some (.inr S_8)
            else
              bB2 (F7_goodFar S_8 59 1 (F1_choice l8_7) a4 a5 (S_8 2 0)) fun r_10 S_11 =>
              bG (pmu (S_11 0 6) = some 119) <|
              bL (fun (t_12 : Int32) =>
                bG (vp_in l8_7 10) <|
                bL (sU S_11 120 l8_7.toNatClampNeg ((t_12 : Int32) &&& 1)) fun S_14 =>
                bL (l8_7 + 1) fun l8_15 =>
                some (.inl (l8_15, S_14))) fun j134 =>
              bL (fun (_ : Unit) =>
                j134 0) fun j133 =>
              if r_10 = (-1) then
                j133 ()
              else
                if r_10 < a2 then
                  j133 ()
                else
                  j134 1) fun b70 =>
          bB (bP b70 ((0 : Int32), S_3)) (u1 g141_70)) fun j67 =>
        j67 S
set_option maxRecDepth 100000 in
set_option maxHeartbeats 4000000 in
theorem wX11_chance {l : Launch} {Z : pZ}  (hZ : CC Z) (S : pS) (a1 : Int32) (a2 : Int32) (a3 : Int32) (a4 : Int32) (a5 : Int32) (a6 : Int32) (r : Int32) (S2 : pS) (h0 : isA Z K_PF 0) (h119 : isA Z K_Chances 119) (h15 : isA Z K_Law 15) (hf : F11_chance S a1 a2 a3 a4 a5 a6 = some (r, S2)) : CI l Z yX11_chance cX11_chance 10 .int 49 2605 [.ref (za Z 0), .int a1, .int a2, .int a3, .int a4, .int a5, .int a6] S r S2 := by
  unfold F11_chance at hf
  refine eI (own := RX11) (by decide) rfl (Nat.le_of_ble_eq_true rfl) (fun p e s m args below meth c Q ls G hl hw hret => ?_)
  obtain ⟨hx, hb, hml, hown, hts⟩ := G.1
  have hl : lv_has ls 10 [(0, .ref (za Z 0)), (1, .int a1), (2, .int a2), (3, .int a3), (4, .int a4), (5, .int a5), (6, .int a6)] := hl
  refine lv_aload_n hx hb dX11_chance_0 rfl (lv_at hl 0 rfl) ?_
  refine gF G hw h0 KX11 0 (k2 := 1) rfl (by decide) rfl fl_X11_10 dX11_chance_1 ?_
  refine lv_iload_n hx hb dX11_chance_4 rfl (lv_at hl 1 rfl) ?_
  obtain ⟨r_1, hr_1, hf⟩ := bB_e hf
  refine kVq (rest := []) G hw (wX10_one hZ S 1 a1 r_1 (sub_PF_now hZ h0) hr_1) cw_X11_80 (sub_PF_now hZ h0) KX10 ⟨Nat.le_of_ble_eq_true rfl, Nat.le_of_ble_eq_true rfl⟩ rfl hl.1 rfl (Nat.le_of_ble_eq_true rfl) ⟨Nat.le_refl _, Nat.le_refl _⟩ dX11_chance_5 (fun H locs hw => ?_)
  refine astQ (lv' := [(7, va_rf (Option.map (za Z) r_1)), (0, .ref (za Z 0)), (1, .int a1), (2, .int a2), (3, .int a3), (4, .int a4), (5, .int a5), (6, .int a6)]) hx hb dX11_chance_8 hl (by decide) rfl (fun ls hl => ?_)
  refine aldQ hx hb dX11_chance_10 (lv_at hl 0 rfl) ?_
  refine ifnQ (tgt := 47) hx hb dX11_chance_12 (by decide) (fun e_22 => ?_) (fun o_2 e_22 => ?_)
  · subst e_22
    have hf := bO_n rfl hf
    refine lv_iconst hx hb dX11_chance_47 ki_m1 ?_
    obtain ⟨e1, e2⟩ := Prod.mk.inj (Option.some.inj hf)
    exact hret _ _ _ _ _ dX11_chance_48 e1 (by rw [← e2]; exact hw)
  · subst e_22
    have hf := bO_s rfl hf
    have ho_2 := ret_X10_one hZ S 1 a1 (sub_PF_now hZ h0) (hr_1.trans (congrArg some rfl))
    refine lv_iload_n hx hb dX11_chance_15 rfl (lv_at hl 4 rfl) ?_
    refine lv_iconst hx hb dX11_chance_16 ki_0 ?_
    refine lv_bipush hx hb dX11_chance_17 kb_6 ?_
    refine kSi (rest := []) G hw (wX11_within hZ S a3 0 6 (F11_within a3 0 6) rfl) cw_X11_51 ⟨Nat.le_of_ble_eq_true rfl, Nat.le_of_ble_eq_true rfl⟩ rfl hl.1 rfl (Nat.le_of_ble_eq_true rfl) ⟨Nat.le_refl _, Nat.le_refl _⟩ dX11_chance_19 (fun H locs hw => ?_)
    refine lv_if_eq (tgt := 47) hx hb dX11_chance_22 (by decide) (fun c_21 => ?_) (fun c_21 => ?_)
    · have hf := (if_pos c_21).symm.trans hf
      refine lv_iconst hx hb dX11_chance_47 ki_m1 ?_
      obtain ⟨e1, e2⟩ := Prod.mk.inj (Option.some.inj hf)
      exact hret _ _ _ _ _ dX11_chance_48 e1 (by rw [← e2]; exact hw)
    · have hf := (if_neg c_21).symm.trans hf
      refine lv_aload_n hx hb dX11_chance_25 rfl (lv_at hl 1 rfl) ?_
      refine lv_iconst hx hb dX11_chance_26 ki_0 ?_
      refine lv_iload hx hb dX11_chance_27 (lv_at hl 5 rfl) ?_
      refine lv_iload hx hb dX11_chance_29 (lv_at hl 6 rfl) ?_
      refine kVi (rest := []) G hw (wX11_canThrow hZ S 0 a4 a5 (F11_canThrow S 0 a4 a5) h0 rfl) cw_X11_186 h0 KX11 ⟨Nat.le_of_ble_eq_true rfl, Nat.le_of_ble_eq_true rfl⟩ rfl hl.1 rfl (Nat.le_of_ble_eq_true rfl) ⟨Nat.le_refl _, Nat.le_refl _⟩ dX11_chance_31 (fun H locs hw => ?_)
      refine lv_if_eq (tgt := 47) hx hb dX11_chance_34 (by decide) (fun c_20 => ?_) (fun c_20 => ?_)
      · have hf := (if_pos c_20).symm.trans hf
        refine lv_iconst hx hb dX11_chance_47 ki_m1 ?_
        obtain ⟨e1, e2⟩ := Prod.mk.inj (Option.some.inj hf)
        exact hret _ _ _ _ _ dX11_chance_48 e1 (by rw [← e2]; exact hw)
      · have hf := (if_neg c_20).symm.trans hf
        refine lv_iload hx hb dX11_chance_37 (lv_at hl 7 rfl) ?_
        refine lv_iconst hx hb dX11_chance_39 ki_0 ?_
        refine lv_iconst hx hb dX11_chance_40 ki_1 ?_
        refine kSi (rest := []) G hw (wX11_within hZ S a6 0 1 (F11_within a6 0 1) rfl) cw_X11_51 ⟨Nat.le_of_ble_eq_true rfl, Nat.le_of_ble_eq_true rfl⟩ rfl hl.1 rfl (Nat.le_of_ble_eq_true rfl) ⟨Nat.le_refl _, Nat.le_refl _⟩ dX11_chance_41 (fun H locs hw => ?_)
        refine lv_if_ne (tgt := 49) hx hb dX11_chance_44 (by decide) (fun c_19 => ?_) (fun c_19 => ?_)
        · have hf := (if_neg c_19).symm.trans hf
          refine lv_aload_n hx hb dX11_chance_49 rfl (lv_at hl 1 rfl) ?_
          obtain ⟨hg1, hf⟩ := bG_e hf
          refine gMs G hw h0 KX11 6 (by decide) rfl hg1 fl_X11_371 dX11_chance_50 ?_
          obtain ⟨j67, ej, hf⟩ := bL_e hf
          have R67 : ∀ (S_3 : pS) (H : Heap) (locs : List Loc) (ls : Array Slot), Wd Z s S_3 H locs → lv_has ls 10 [(0, .ref (za Z 0)), (2, .int a2), (3, .int a3), (4, .int a4), (5, .int a5), (6, .int a6), (7, .ref (za Z o_2))] → j67 S_3 = some (r, S2) → W p l e { frames := 49, cells := 0, slots := 0, locals := 2605 } s m args below meth c H locs 0 0 Q (F0 m 67 ls []) := by
            intro S_3 H locs ls hw hl hf
            have hf := (congrFun ej S_3).symm.trans hf
            refine lv_iconst hx hb dX11_chance_67 ki_0 ?_
            refine lv_istore (lv' := [(8, .int 0), (0, .ref (za Z 0)), (2, .int a2), (3, .int a3), (4, .int a4), (5, .int a5), (6, .int a6), (7, .ref (za Z o_2))]) hx hb dX11_chance_68 hl (by decide) rfl (fun ls hl => ?_)
            obtain ⟨g141_70, ej, hf⟩ := bL_e hf
            have R141_70 : ∀ (S_4 : pS) (H : Heap) (locs : List Loc) (ls : Array Slot), Wd Z s S_4 H locs → lv_has ls 10 [(0, .ref (za Z 0)), (3, .int a3), (4, .int a4), (6, .int a6), (7, .ref (za Z o_2))] → g141_70 S_4 = some (r, S2) → W p l e { frames := 49, cells := 0, slots := 0, locals := 2605 } s m args below meth c H locs 0 0 Q (F0 m 141 ls []) := by
              intro S_4 H locs ls hw hl hf
              have hf := (congrFun ej S_4).symm.trans hf
              refine lv_aload_n hx hb dX11_chance_141 rfl (lv_at hl 0 rfl) ?_
              obtain ⟨hg1, hf⟩ := bG_e hf
              refine gMs G hw h0 KX11 6 (by decide) rfl hg1 fl_X11_371 dX11_chance_142 ?_
              refine lv_aload_n hx hb dX11_chance_145 rfl (lv_at hl 0 rfl) ?_
              refine gF G hw h0 KX11 0 (k2 := 1) rfl (by decide) rfl fl_X11_10 dX11_chance_146 ?_
              refine lv_aload hx hb dX11_chance_149 (lv_at hl 4 rfl) ?_
              refine lv_iload_n hx hb dX11_chance_151 rfl (lv_at hl 1 rfl) ?_
              refine lv_iload hx hb dX11_chance_152 (lv_at hl 2 rfl) ?_
              obtain ⟨S_5, hS_5, hf⟩ := bB_e hf
              refine kVv (rest := []) G hw (wX1_weigh hZ S_4 119 1 o_2 a3 a4 S_5 h119 (sub_PF_now hZ h0) ho_2 h15 hS_5) cw_X11_388 h119 KX1 ⟨Nat.le_of_ble_eq_true rfl, Nat.le_of_ble_eq_true rfl⟩ rfl hl.1 rfl (Nat.le_of_ble_eq_true rfl) ⟨Nat.le_refl _, Nat.le_refl _⟩ dX11_chance_154 (fun H locs hw => ?_)
              refine lv_iload hx hb dX11_chance_157 (lv_at hl 3 rfl) ?_
              refine lv_if_ne (tgt := 172) hx hb dX11_chance_159 (by decide) (fun c_6 => ?_) (fun c_6 => ?_)
              · have hf := (if_neg c_6).symm.trans hf
                refine lv_aload_n hx hb dX11_chance_172 rfl (lv_at hl 0 rfl) ?_
                obtain ⟨hg1, hf⟩ := bG_e hf
                refine gMs G hw h0 KX11 6 (by decide) rfl hg1 fl_X11_371 dX11_chance_173 ?_
                refine gI G hw h119 KX1 2 (by decide) rfl fl_X11_395 dX11_chance_176 ?_
                obtain ⟨e1, e2⟩ := Prod.mk.inj (Option.some.inj hf)
                exact hret _ _ _ _ _ dX11_chance_179 e1 (by rw [← e2]; exact hw)
              · have hf := (if_pos c_6).symm.trans hf
                refine lv_aload_n hx hb dX11_chance_162 rfl (lv_at hl 0 rfl) ?_
                obtain ⟨hg1, hf⟩ := bG_e hf
                refine gMs G hw h0 KX11 6 (by decide) rfl hg1 fl_X11_371 dX11_chance_163 ?_
                refine gI G hw h119 KX1 1 (by decide) rfl fl_X11_392 dX11_chance_166 ?_
                refine lv_goto (tgt := 179) hx hb dX11_chance_169 (by decide) ?_
                obtain ⟨e1, e2⟩ := Prod.mk.inj (Option.some.inj hf)
                exact hret _ _ _ _ _ dX11_chance_179 e1 (by rw [← e2]; exact hw)
            clear ej
            obtain ⟨b70, eb, hf⟩ := bL_e hf
            have RL70 : ∀ (n : Nat) z, (u1 g141_70) z = some (r, S2) → ∀ (l8_7 : Int32) (S_8 : pS) (H : Heap) (locs : List Loc) (ls : Array Slot), Wd Z s S_8 H locs → lv_has ls 10 [(0, .ref (za Z 0)), (2, .int a2), (3, .int a3), (4, .int a4), (5, .int a5), (6, .int a6), (7, .ref (za Z o_2)), (8, .int l8_7)] → bPn b70 n (l8_7, S_8) = some z → W p l e { frames := 49, cells := 0, slots := 0, locals := 2605 } s m args below meth c H locs 0 0 Q (F0 m 70 ls []) := by
              intro n
              induction n with
              | zero =>
                intro z hg l8_7 S_8 H locs ls hw hl hz
                exact bPn_0 hz
              | succ n ih =>
                intro z hg l8_7 S_8 H locs ls hw hl hz
                obtain ⟨q_9, hf, hz⟩ := bPn_e hz
                have hf := u2_e ((congrFun eb _).symm.trans hf)
                refine lv_iload hx hb dX11_chance_70 (lv_at hl 7 rfl) ?_
                refine lv_bipush hx hb dX11_chance_72 kb_10 ?_
                refine lv_icmp_ge (tgt := 141) hx hb dX11_chance_74 (by decide) (fun c_18 => ?_) (fun c_18 => ?_)
                · have hf := (if_pos c_18).symm.trans hf
                  obtain rfl := Option.some.inj hf
                  obtain rfl := Option.some.inj (hz : some _ = some _)
                  exact R141_70 _ _ _ _ hw (lv_sub hl [0, 2, 3, 5, 6] rfl) hg
                · have hf := (if_neg c_18).symm.trans hf
                  refine lv_aload_n hx hb dX11_chance_77 rfl (lv_at hl 0 rfl) ?_
                  refine gF G hw h0 KX11 2 (k2 := 59) rfl (by decide) rfl fl_X11_26 dX11_chance_78 ?_
                  refine lv_aload_n hx hb dX11_chance_81 rfl (lv_at hl 0 rfl) ?_
                  refine gF G hw h0 KX11 0 (k2 := 1) rfl (by decide) rfl fl_X11_10 dX11_chance_82 ?_
                  refine lv_iload hx hb dX11_chance_85 (lv_at hl 7 rfl) ?_
                  refine kTi (rest := [.ref (za Z 1), .ref (za Z 59)]) G hw (wX1_choice hZ S_8 l8_7 (F1_choice l8_7) rfl) cw_X11_378 ⟨Nat.le_of_ble_eq_true rfl, Nat.le_of_ble_eq_true rfl⟩ rfl hl.1 rfl (Nat.le_of_ble_eq_true rfl) ⟨Nat.le_refl _, Nat.le_refl _⟩ dX11_chance_87 (fun H locs hw => ?_)
                  refine lv_iload hx hb dX11_chance_90 (lv_at hl 3 rfl) ?_
                  refine lv_iload hx hb dX11_chance_92 (lv_at hl 4 rfl) ?_
                  refine lv_aload_n hx hb dX11_chance_94 rfl (lv_at hl 0 rfl) ?_
                  refine gF G hw h0 KX11 0 (k2 := 1) rfl (by decide) rfl fl_X11_10 dX11_chance_95 ?_
                  refine gF G hw (sub_PF_now hZ h0) KX10 8 (k2 := 2) rfl (by decide) rfl fl_X11_222 dX11_chance_98 ?_
                  refine lv_iconst hx hb dX11_chance_101 ki_0 ?_
                  refine aI G hw (sub_World_told hZ (sub_PF_now hZ h0)) (vin_e (by decide)) (j := 0) (by decide) dX11_chance_102 ?_
                  obtain ⟨r_10, S_11, hr_10, hf⟩ := bB2_e hf
                  refine kVi (rest := []) G hw (wX7_goodFar hZ S_8 59 1 (F1_choice l8_7) a4 a5 (S_8 2 0) r_10 S_11 (sub_PF_thought hZ h0) (sub_PF_now hZ h0) hr_10) cw_X11_381 (sub_PF_thought hZ h0) KX7 ⟨Nat.le_of_ble_eq_true rfl, Nat.le_of_ble_eq_true rfl⟩ rfl hl.1 rfl (Nat.le_of_ble_eq_true rfl) ⟨Nat.le_refl _, Nat.le_refl _⟩ dX11_chance_103 (fun H locs hw => ?_)
                  refine lv_istore (lv' := [(9, .int r_10), (0, .ref (za Z 0)), (2, .int a2), (3, .int a3), (4, .int a4), (5, .int a5), (6, .int a6), (7, .ref (za Z o_2)), (8, .int l8_7)]) hx hb dX11_chance_106 hl (by decide) rfl (fun ls hl => ?_)
                  refine lv_aload_n hx hb dX11_chance_108 rfl (lv_at hl 1 rfl) ?_
                  obtain ⟨hg1, hf⟩ := bG_e hf
                  refine gMs G hw h0 KX11 6 (by decide) rfl hg1 fl_X11_371 dX11_chance_109 ?_
                  refine gF G hw h119 KX1 0 (k2 := 120) rfl (by decide) rfl fl_X11_384 dX11_chance_112 ?_
                  refine lv_iload hx hb dX11_chance_115 (lv_at hl 8 rfl) ?_
                  refine lv_iload hx hb dX11_chance_117 (lv_at hl 0 rfl) ?_
                  refine lv_iconst hx hb dX11_chance_119 ki_m1 ?_
                  obtain ⟨j134, ej, hf⟩ := bL_e hf
                  have R134 : ∀ (t_12 : Int32) (H : Heap) (locs : List Loc) (ls : Array Slot), Wd Z s S_11 H locs → lv_has ls 10 [(0, .ref (za Z 0)), (2, .int a2), (3, .int a3), (4, .int a4), (5, .int a5), (6, .int a6), (7, .ref (za Z o_2)), (8, .int l8_7)] → j134 t_12 = some q_9 → W p l e { frames := 49, cells := 0, slots := 0, locals := 2605 } s m args below meth c H locs 0 0 Q (F0 m 134 ls [.int t_12, .int l8_7, .ref (za Z 120)]) := by
                    intro t_12 H locs ls hw hl hf
                    have hf := (congrFun ej t_12).symm.trans hf
                    obtain ⟨hg_13, hf⟩ := bG_e hf
                    obtain ⟨S_14, eS_14, hf⟩ := bL_e hf
                    refine sZ G hw (sub_Chances_reaches hZ h119) hg_13 (j := l8_7.toNatClampNeg) rfl eS_14 dX11_chance_134 (fun H locs hw => ?_)
                    obtain ⟨l8_15, el8_15, hf⟩ := bL_e hf
                    refine lv_iinc (v := l8_15) (lv' := [(8, .int l8_15), (0, .ref (za Z 0)), (2, .int a2), (3, .int a3), (4, .int a4), (5, .int a5), (6, .int a6), (7, .ref (za Z o_2))]) hx hb dX11_chance_135 hl (k := 7) rfl (by rw [el8_15]; rfl) (by decide) rfl (fun ls hl => ?_)
                    refine lv_goto (tgt := 70) hx hb dX11_chance_138 (by decide) ?_
                    obtain rfl := Option.some.inj hf
                    exact ih _ hg _ _ _ _ _ hw (lv_sub hl [1, 2, 3, 4, 5, 6, 7, 0] rfl) hz
                  clear ej
                  obtain ⟨j133, ej, hf⟩ := bL_e hf
                  have R133 : ∀ (H : Heap) (locs : List Loc) (ls : Array Slot), Wd Z s S_11 H locs → lv_has ls 10 [(0, .ref (za Z 0)), (2, .int a2), (3, .int a3), (4, .int a4), (5, .int a5), (6, .int a6), (7, .ref (za Z o_2)), (8, .int l8_7)] → j133 () = some q_9 → W p l e { frames := 49, cells := 0, slots := 0, locals := 2605 } s m args below meth c H locs 0 0 Q (F0 m 133 ls [.int l8_7, .ref (za Z 120)]) := by
                    intro  H locs ls hw hl hf
                    have hf := (congrFun ej ()).symm.trans hf
                    refine lv_iconst hx hb dX11_chance_133 ki_0 ?_
                    exact R134 _ _ _ _ hw (lv_sub hl [0, 1, 2, 3, 4, 5, 6, 7] rfl) hf
                  clear ej
                  refine lv_icmp_eq (tgt := 133) hx hb dX11_chance_120 (by decide) (fun c_17 => ?_) (fun c_17 => ?_)
                  · have hf := (if_pos c_17).symm.trans hf
                    exact R133 _ _ _ hw (lv_sub hl [1, 2, 3, 4, 5, 6, 7, 8] rfl) hf
                  · have hf := (if_neg c_17).symm.trans hf
                    refine lv_iload hx hb dX11_chance_123 (lv_at hl 0 rfl) ?_
                    refine lv_iload_n hx hb dX11_chance_125 rfl (lv_at hl 2 rfl) ?_
                    refine lv_icmp_lt (tgt := 133) hx hb dX11_chance_126 (by decide) (fun c_16 => ?_) (fun c_16 => ?_)
                    · have hf := (if_pos c_16).symm.trans hf
                      exact R133 _ _ _ hw (lv_sub hl [1, 2, 3, 4, 5, 6, 7, 8] rfl) hf
                    · have hf := (if_neg c_16).symm.trans hf
                      refine lv_iconst hx hb dX11_chance_129 ki_1 ?_
                      refine lv_goto (tgt := 134) hx hb dX11_chance_130 (by decide) ?_
                      exact R134 _ _ _ _ hw (lv_sub hl [1, 2, 3, 4, 5, 6, 7, 8] rfl) hf
            clear eb
            obtain ⟨z, hz, hf⟩ := bB_e hf
            obtain ⟨n, hz⟩ := bP_e hz
            exact RL70 n z hf _ _ _ _ _ hw (lv_sub hl [1, 2, 3, 4, 5, 6, 7, 0] rfl) hz
          clear ej
          refine lv_ifnonnull (tgt := 67) hx hb dX11_chance_53 (by decide) ?_
          exact R67 _ _ _ _ hw (lv_sub hl [1, 3, 4, 5, 6, 7, 0] rfl) hf
        · have hf := (if_pos c_19).symm.trans hf
          refine lv_iconst hx hb dX11_chance_47 ki_m1 ?_
          obtain ⟨e1, e2⟩ := Prod.mk.inj (Option.some.inj hf)
          exact hret _ _ _ _ _ dX11_chance_48 e1 (by rw [← e2]; exact hw)
noncomputable def F11_waitFor (S : pS) (a1 : Int32) (a2 : Int32) (a3 : Int32) (a4 : Int32) : Option (Int32 × pS) :=
  if (F11_canThrow S a1 a2 a3) = 0 then
    some (((-1) : Int32), S)
  else
    if (F11_within a4 0 1) = 0 then
      some (((-1) : Int32), S)
    else
      bL (fun (l5_1 : Int32) (l6_2 : Int32) (S_3 : pS) =>
        if a4 = 0 then
          some (l5_1, S_3)
        else
          some (l6_2, S_3)) fun g103_31 =>
      bL (u4 fun (l5_5 : Int32) (l6_6 : Int32) (l7_7 : Int32) (S_8 : pS) =>
        if (S_8 1 7) ≤ l7_7 then
          some (.inr (l5_5, l6_6, S_8))
        else
          if 60 ≤ l7_7 then
            some (.inr (l5_5, l6_6, S_8))
          else
            bG (vp_in l7_7 60) <|
            bB2 (F7_goodFar S_8 59 1 a1 a2 a3 (S_8 7 l7_7.toNatClampNeg)) fun r_11 S_12 =>
            bL (fun (l5_13 : Int32) (l6_14 : Int32) =>
              bL (l7_7 + 1) fun l7_15 =>
              some (.inl (l5_13, l6_14, l7_15, S_12))) fun j97 =>
            if r_11 ≤ l6_6 then
              j97 l5_5 l6_6
            else
              j97 l7_7 r_11) fun b31 =>
      bB (bP b31 (((-1) : Int32), ((-1) : Int32), (0 : Int32), S)) (u3 g103_31)
set_option maxRecDepth 100000 in
set_option maxHeartbeats 4000000 in
theorem wX11_waitFor {l : Launch} {Z : pZ}  (hZ : CC Z) (S : pS) (a1 : Int32) (a2 : Int32) (a3 : Int32) (a4 : Int32) (r : Int32) (S2 : pS) (h0 : isA Z K_PF 0) (hf : F11_waitFor S a1 a2 a3 a4 = some (r, S2)) : CI l Z yX11_waitFor cX11_waitFor 9 .int 9 205 [.ref (za Z 0), .int a1, .int a2, .int a3, .int a4] S r S2 := by
  unfold F11_waitFor at hf
  refine eI (own := RX11) (by decide) rfl (Nat.le_of_ble_eq_true rfl) (fun p e s m args below meth c Q ls G hl hw hret => ?_)
  obtain ⟨hx, hb, hml, hown, hts⟩ := G.1
  have hl : lv_has ls 9 [(0, .ref (za Z 0)), (1, .int a1), (2, .int a2), (3, .int a3), (4, .int a4)] := hl
  refine lv_aload_n hx hb dX11_waitFor_0 rfl (lv_at hl 0 rfl) ?_
  refine lv_iload_n hx hb dX11_waitFor_1 rfl (lv_at hl 1 rfl) ?_
  refine lv_iload_n hx hb dX11_waitFor_2 rfl (lv_at hl 2 rfl) ?_
  refine lv_iload_n hx hb dX11_waitFor_3 rfl (lv_at hl 3 rfl) ?_
  refine kVi (rest := []) G hw (wX11_canThrow hZ S a1 a2 a3 (F11_canThrow S a1 a2 a3) h0 rfl) cw_X11_186 h0 KX11 ⟨Nat.le_of_ble_eq_true rfl, Nat.le_of_ble_eq_true rfl⟩ rfl hl.1 rfl (Nat.le_of_ble_eq_true rfl) ⟨Nat.le_refl _, Nat.le_refl _⟩ dX11_waitFor_4 (fun H locs hw => ?_)
  refine lv_if_eq (tgt := 20) hx hb dX11_waitFor_7 (by decide) (fun c_20 => ?_) (fun c_20 => ?_)
  · have hf := (if_pos c_20).symm.trans hf
    refine lv_iconst hx hb dX11_waitFor_20 ki_m1 ?_
    obtain ⟨e1, e2⟩ := Prod.mk.inj (Option.some.inj hf)
    exact hret _ _ _ _ _ dX11_waitFor_21 e1 (by rw [← e2]; exact hw)
  · have hf := (if_neg c_20).symm.trans hf
    refine lv_iload hx hb dX11_waitFor_10 (lv_at hl 4 rfl) ?_
    refine lv_iconst hx hb dX11_waitFor_12 ki_0 ?_
    refine lv_iconst hx hb dX11_waitFor_13 ki_1 ?_
    refine kSi (rest := []) G hw (wX11_within hZ S a4 0 1 (F11_within a4 0 1) rfl) cw_X11_51 ⟨Nat.le_of_ble_eq_true rfl, Nat.le_of_ble_eq_true rfl⟩ rfl hl.1 rfl (Nat.le_of_ble_eq_true rfl) ⟨Nat.le_refl _, Nat.le_refl _⟩ dX11_waitFor_14 (fun H locs hw => ?_)
    refine lv_if_ne (tgt := 22) hx hb dX11_waitFor_17 (by decide) (fun c_19 => ?_) (fun c_19 => ?_)
    · have hf := (if_neg c_19).symm.trans hf
      refine lv_iconst hx hb dX11_waitFor_22 ki_m1 ?_
      refine lv_istore (lv' := [(5, .int (-1)), (0, .ref (za Z 0)), (1, .int a1), (2, .int a2), (3, .int a3), (4, .int a4)]) hx hb dX11_waitFor_23 hl (by decide) rfl (fun ls hl => ?_)
      refine lv_iconst hx hb dX11_waitFor_25 ki_m1 ?_
      refine lv_istore (lv' := [(6, .int (-1)), (5, .int (-1)), (0, .ref (za Z 0)), (1, .int a1), (2, .int a2), (3, .int a3), (4, .int a4)]) hx hb dX11_waitFor_26 hl (by decide) rfl (fun ls hl => ?_)
      refine lv_iconst hx hb dX11_waitFor_28 ki_0 ?_
      refine lv_istore (lv' := [(7, .int 0), (6, .int (-1)), (5, .int (-1)), (0, .ref (za Z 0)), (1, .int a1), (2, .int a2), (3, .int a3), (4, .int a4)]) hx hb dX11_waitFor_29 hl (by decide) rfl (fun ls hl => ?_)
      obtain ⟨g103_31, ej, hf⟩ := bL_e hf
      have R103_31 : ∀ (l5_1 : Int32) (l6_2 : Int32) (S_3 : pS) (H : Heap) (locs : List Loc) (ls : Array Slot), Wd Z s S_3 H locs → lv_has ls 9 [(4, .int a4), (5, .int l5_1), (6, .int l6_2)] → g103_31 l5_1 l6_2 S_3 = some (r, S2) → W p l e { frames := 9, cells := 0, slots := 0, locals := 205 } s m args below meth c H locs 0 0 Q (F0 m 103 ls []) := by
        intro l5_1 l6_2 S_3 H locs ls hw hl hf
        have hf := (congrFun (congrFun (congrFun ej l5_1) l6_2) S_3).symm.trans hf
        refine lv_iload hx hb dX11_waitFor_103 (lv_at hl 0 rfl) ?_
        refine lv_if_ne (tgt := 113) hx hb dX11_waitFor_105 (by decide) (fun c_4 => ?_) (fun c_4 => ?_)
        · have hf := (if_neg c_4).symm.trans hf
          refine lv_iload hx hb dX11_waitFor_113 (lv_at hl 2 rfl) ?_
          obtain ⟨e1, e2⟩ := Prod.mk.inj (Option.some.inj hf)
          exact hret _ _ _ _ _ dX11_waitFor_115 e1 (by rw [← e2]; exact hw)
        · have hf := (if_pos c_4).symm.trans hf
          refine lv_iload hx hb dX11_waitFor_108 (lv_at hl 1 rfl) ?_
          refine lv_goto (tgt := 115) hx hb dX11_waitFor_110 (by decide) ?_
          obtain ⟨e1, e2⟩ := Prod.mk.inj (Option.some.inj hf)
          exact hret _ _ _ _ _ dX11_waitFor_115 e1 (by rw [← e2]; exact hw)
      clear ej
      obtain ⟨b31, eb, hf⟩ := bL_e hf
      have RL31 : ∀ (n : Nat) z, (u3 g103_31) z = some (r, S2) → ∀ (l5_5 : Int32) (l6_6 : Int32) (l7_7 : Int32) (S_8 : pS) (H : Heap) (locs : List Loc) (ls : Array Slot), Wd Z s S_8 H locs → lv_has ls 9 [(0, .ref (za Z 0)), (1, .int a1), (2, .int a2), (3, .int a3), (4, .int a4), (5, .int l5_5), (6, .int l6_6), (7, .int l7_7)] → bPn b31 n (l5_5, l6_6, l7_7, S_8) = some z → W p l e { frames := 9, cells := 0, slots := 0, locals := 205 } s m args below meth c H locs 0 0 Q (F0 m 31 ls []) := by
        intro n
        induction n with
        | zero =>
          intro z hg l5_5 l6_6 l7_7 S_8 H locs ls hw hl hz
          exact bPn_0 hz
        | succ n ih =>
          intro z hg l5_5 l6_6 l7_7 S_8 H locs ls hw hl hz
          obtain ⟨q_9, hf, hz⟩ := bPn_e hz
          have hf := u4_e ((congrFun eb _).symm.trans hf)
          refine lv_iload hx hb dX11_waitFor_31 (lv_at hl 7 rfl) ?_
          refine lv_aload_n hx hb dX11_waitFor_33 rfl (lv_at hl 0 rfl) ?_
          refine gF G hw h0 KX11 0 (k2 := 1) rfl (by decide) rfl fl_X11_10 dX11_waitFor_34 ?_
          refine gI G hw (sub_PF_now hZ h0) KX10 7 (by decide) rfl fl_X11_176 dX11_waitFor_37 ?_
          refine lv_icmp_ge (tgt := 103) hx hb dX11_waitFor_40 (by decide) (fun c_18 => ?_) (fun c_18 => ?_)
          · have hf := (if_pos c_18).symm.trans hf
            obtain rfl := Option.some.inj hf
            obtain rfl := Option.some.inj (hz : some _ = some _)
            exact R103_31 _ _ _ _ _ _ hw (lv_sub hl [4, 5, 6] rfl) hg
          · have hf := (if_neg c_18).symm.trans hf
            refine lv_iload hx hb dX11_waitFor_43 (lv_at hl 7 rfl) ?_
            refine lv_aload_n hx hb dX11_waitFor_45 rfl (lv_at hl 0 rfl) ?_
            refine gF G hw h0 KX11 0 (k2 := 1) rfl (by decide) rfl fl_X11_10 dX11_waitFor_46 ?_
            refine gF G hw (sub_PF_now hZ h0) KX10 13 (k2 := 7) rfl (by decide) rfl fl_X11_179 dX11_waitFor_49 ?_
            refine aL G hw (t := 0) (sub_World_minute hZ (sub_PF_now hZ h0)) rfl (v := 60) (by decide) dX11_waitFor_52 ?_
            refine lv_icmp_ge (tgt := 103) hx hb dX11_waitFor_53 (by decide) (fun c_17 => ?_) (fun c_17 => ?_)
            · have hf := (if_pos c_17).symm.trans hf
              obtain rfl := Option.some.inj hf
              obtain rfl := Option.some.inj (hz : some _ = some _)
              exact R103_31 _ _ _ _ _ _ hw (lv_sub hl [4, 5, 6] rfl) hg
            · have hf := (if_neg c_17).symm.trans hf
              refine lv_aload_n hx hb dX11_waitFor_56 rfl (lv_at hl 0 rfl) ?_
              refine gF G hw h0 KX11 2 (k2 := 59) rfl (by decide) rfl fl_X11_26 dX11_waitFor_57 ?_
              refine lv_aload_n hx hb dX11_waitFor_60 rfl (lv_at hl 0 rfl) ?_
              refine gF G hw h0 KX11 0 (k2 := 1) rfl (by decide) rfl fl_X11_10 dX11_waitFor_61 ?_
              refine lv_iload_n hx hb dX11_waitFor_64 rfl (lv_at hl 1 rfl) ?_
              refine lv_iload_n hx hb dX11_waitFor_65 rfl (lv_at hl 2 rfl) ?_
              refine lv_iload_n hx hb dX11_waitFor_66 rfl (lv_at hl 3 rfl) ?_
              refine lv_aload_n hx hb dX11_waitFor_67 rfl (lv_at hl 0 rfl) ?_
              refine gF G hw h0 KX11 0 (k2 := 1) rfl (by decide) rfl fl_X11_10 dX11_waitFor_68 ?_
              refine gF G hw (sub_PF_now hZ h0) KX10 13 (k2 := 7) rfl (by decide) rfl fl_X11_179 dX11_waitFor_71 ?_
              refine lv_iload hx hb dX11_waitFor_74 (lv_at hl 7 rfl) ?_
              obtain ⟨hg_10, hf⟩ := bG_e hf
              refine aI G hw (sub_World_minute hZ (sub_PF_now hZ h0)) hg_10 (j := l7_7.toNatClampNeg) rfl dX11_waitFor_76 ?_
              obtain ⟨r_11, S_12, hr_11, hf⟩ := bB2_e hf
              refine kVi (rest := []) G hw (wX7_goodFar hZ S_8 59 1 a1 a2 a3 (S_8 7 l7_7.toNatClampNeg) r_11 S_12 (sub_PF_thought hZ h0) (sub_PF_now hZ h0) hr_11) cw_X11_381 (sub_PF_thought hZ h0) KX7 ⟨Nat.le_of_ble_eq_true rfl, Nat.le_of_ble_eq_true rfl⟩ rfl hl.1 rfl (Nat.le_of_ble_eq_true rfl) ⟨Nat.le_refl _, Nat.le_refl _⟩ dX11_waitFor_77 (fun H locs hw => ?_)
              refine lv_istore (lv' := [(8, .int r_11), (0, .ref (za Z 0)), (1, .int a1), (2, .int a2), (3, .int a3), (4, .int a4), (5, .int l5_5), (6, .int l6_6), (7, .int l7_7)]) hx hb dX11_waitFor_80 hl (by decide) rfl (fun ls hl => ?_)
              refine lv_iload hx hb dX11_waitFor_82 (lv_at hl 0 rfl) ?_
              refine lv_iload hx hb dX11_waitFor_84 (lv_at hl 7 rfl) ?_
              obtain ⟨j97, ej, hf⟩ := bL_e hf
              have R97 : ∀ (l5_13 : Int32) (l6_14 : Int32) (H : Heap) (locs : List Loc) (ls : Array Slot), Wd Z s S_12 H locs → lv_has ls 9 [(0, .ref (za Z 0)), (1, .int a1), (2, .int a2), (3, .int a3), (4, .int a4), (5, .int l5_13), (6, .int l6_14), (7, .int l7_7)] → j97 l5_13 l6_14 = some q_9 → W p l e { frames := 9, cells := 0, slots := 0, locals := 205 } s m args below meth c H locs 0 0 Q (F0 m 97 ls []) := by
                intro l5_13 l6_14 H locs ls hw hl hf
                have hf := (congrFun (congrFun ej l5_13) l6_14).symm.trans hf
                obtain ⟨l7_15, el7_15, hf⟩ := bL_e hf
                refine lv_iinc (v := l7_15) (lv' := [(7, .int l7_15), (0, .ref (za Z 0)), (1, .int a1), (2, .int a2), (3, .int a3), (4, .int a4), (5, .int l5_13), (6, .int l6_14)]) hx hb dX11_waitFor_97 hl (k := 7) rfl (by rw [el7_15]; rfl) (by decide) rfl (fun ls hl => ?_)
                refine lv_goto (tgt := 31) hx hb dX11_waitFor_100 (by decide) ?_
                obtain rfl := Option.some.inj hf
                exact ih _ hg _ _ _ _ _ _ _ hw (lv_sub hl [1, 2, 3, 4, 5, 6, 7, 0] rfl) hz
              clear ej
              refine lv_icmp_le (tgt := 97) hx hb dX11_waitFor_86 (by decide) (fun c_16 => ?_) (fun c_16 => ?_)
              · have hf := (if_pos c_16).symm.trans hf
                exact R97 _ _ _ _ _ hw (lv_sub hl [1, 2, 3, 4, 5, 6, 7, 8] rfl) hf
              · have hf := (if_neg c_16).symm.trans hf
                refine lv_iload hx hb dX11_waitFor_89 (lv_at hl 0 rfl) ?_
                refine lv_istore (lv' := [(6, .int r_11), (8, .int r_11), (0, .ref (za Z 0)), (1, .int a1), (2, .int a2), (3, .int a3), (4, .int a4), (5, .int l5_5), (7, .int l7_7)]) hx hb dX11_waitFor_91 hl (by decide) rfl (fun ls hl => ?_)
                refine lv_iload hx hb dX11_waitFor_93 (lv_at hl 8 rfl) ?_
                refine lv_istore (lv' := [(5, .int l7_7), (6, .int r_11), (8, .int r_11), (0, .ref (za Z 0)), (1, .int a1), (2, .int a2), (3, .int a3), (4, .int a4), (7, .int l7_7)]) hx hb dX11_waitFor_95 hl (by decide) rfl (fun ls hl => ?_)
                exact R97 _ _ _ _ _ hw (lv_sub hl [3, 4, 5, 6, 7, 0, 1, 8] rfl) hf
      clear eb
      obtain ⟨z, hz, hf⟩ := bB_e hf
      obtain ⟨n, hz⟩ := bP_e hz
      exact RL31 n z hf _ _ _ _ _ _ _ hw (lv_sub hl [3, 4, 5, 6, 7, 2, 1, 0] rfl) hz
    · have hf := (if_pos c_19).symm.trans hf
      refine lv_iconst hx hb dX11_waitFor_20 ki_m1 ?_
      obtain ⟨e1, e2⟩ := Prod.mk.inj (Option.some.inj hf)
      exact hret _ _ _ _ _ dX11_waitFor_21 e1 (by rw [← e2]; exact hw)
noncomputable def F7_angleFor (S : pS) (k0 : Nat) (k1 : Nat) (a2 : Int32) (a3 : Int32) (a4 : Int32) (a5 : Int32) : Option (Int32 × pS) :=
  bL (fun (S_1 : pS) =>
    some (((-1) : Int32), S_1)) fun g45_3 =>
  bL (fun (l6_2 : Int32) (S_3 : pS) =>
    some (l6_2, S_3)) fun g36_3 =>
  bL (u2 fun (l6_4 : Int32) (S_5 : pS) =>
    if 60 < l6_4 then
      some (.inr (.inl S_5))
    else
      bB2 (F7_goodFar S_5 k0 k1 a2 l6_4 a3 a4) fun r_7 S_8 =>
      bL (fun (_ : Unit) =>
        bL (l6_4 + 1) fun l6_9 =>
        some (.inl (l6_9, S_8))) fun j39 =>
      if r_7 = (-1) then
        j39 ()
      else
        if r_7 < a5 then
          j39 ()
        else
          some (.inr (.inr (l6_4, S_8)))) fun b3 =>
  bB (bP b3 ((0 : Int32), S)) (Sum.elim (u1 g45_3) (u2 g36_3))
set_option maxRecDepth 100000 in
set_option maxHeartbeats 4000000 in
theorem wX7_angleFor {l : Launch} {Z : pZ}  (hZ : CC Z) (S : pS) (k0 : Nat) (k1 : Nat) (a2 : Int32) (a3 : Int32) (a4 : Int32) (a5 : Int32) (r : Int32) (S2 : pS) (h0 : isA Z K_Thought k0) (h1 : isA Z K_World k1) (hf : F7_angleFor S k0 k1 a2 a3 a4 a5 = some (r, S2)) : CI l Z yX7_angleFor cX7_angleFor 8 .int 9 205 [.ref (za Z k0), .ref (za Z k1), .int a2, .int a3, .int a4, .int a5] S r S2 := by
  unfold F7_angleFor at hf
  refine eI (own := RX7) (by decide) rfl (Nat.le_of_ble_eq_true rfl) (fun p e s m args below meth c Q ls G hl hw hret => ?_)
  obtain ⟨hx, hb, hml, hown, hts⟩ := G.1
  have hl : lv_has ls 8 [(0, .ref (za Z k0)), (1, .ref (za Z k1)), (2, .int a2), (3, .int a3), (4, .int a4), (5, .int a5)] := hl
  refine lv_iconst hx hb dX7_angleFor_0 ki_0 ?_
  refine lv_istore (lv' := [(6, .int 0), (0, .ref (za Z k0)), (1, .ref (za Z k1)), (2, .int a2), (3, .int a3), (4, .int a4), (5, .int a5)]) hx hb dX7_angleFor_1 hl (by decide) rfl (fun ls hl => ?_)
  obtain ⟨g45_3, ej, hf⟩ := bL_e hf
  have R45_3 : ∀ (S_1 : pS) (H : Heap) (locs : List Loc) (ls : Array Slot), Wd Z s S_1 H locs → lv_has ls 8 [] → g45_3 S_1 = some (r, S2) → W p l e { frames := 9, cells := 0, slots := 0, locals := 205 } s m args below meth c H locs 0 0 Q (F0 m 45 ls []) := by
    intro S_1 H locs ls hw hl hf
    have hf := (congrFun ej S_1).symm.trans hf
    refine lv_iconst hx hb dX7_angleFor_45 ki_m1 ?_
    obtain ⟨e1, e2⟩ := Prod.mk.inj (Option.some.inj hf)
    exact hret _ _ _ _ _ dX7_angleFor_46 e1 (by rw [← e2]; exact hw)
  clear ej
  obtain ⟨g36_3, ej, hf⟩ := bL_e hf
  have R36_3 : ∀ (l6_2 : Int32) (S_3 : pS) (H : Heap) (locs : List Loc) (ls : Array Slot), Wd Z s S_3 H locs → lv_has ls 8 [(6, .int l6_2)] → g36_3 l6_2 S_3 = some (r, S2) → W p l e { frames := 9, cells := 0, slots := 0, locals := 205 } s m args below meth c H locs 0 0 Q (F0 m 36 ls []) := by
    intro l6_2 S_3 H locs ls hw hl hf
    have hf := (congrFun (congrFun ej l6_2) S_3).symm.trans hf
    refine lv_iload hx hb dX7_angleFor_36 (lv_at hl 0 rfl) ?_
    obtain ⟨e1, e2⟩ := Prod.mk.inj (Option.some.inj hf)
    exact hret _ _ _ _ _ dX7_angleFor_38 e1 (by rw [← e2]; exact hw)
  clear ej
  obtain ⟨b3, eb, hf⟩ := bL_e hf
  have RL3 : ∀ (n : Nat) z, (Sum.elim (u1 g45_3) (u2 g36_3)) z = some (r, S2) → ∀ (l6_4 : Int32) (S_5 : pS) (H : Heap) (locs : List Loc) (ls : Array Slot), Wd Z s S_5 H locs → lv_has ls 8 [(0, .ref (za Z k0)), (1, .ref (za Z k1)), (2, .int a2), (3, .int a3), (4, .int a4), (5, .int a5), (6, .int l6_4)] → bPn b3 n (l6_4, S_5) = some z → W p l e { frames := 9, cells := 0, slots := 0, locals := 205 } s m args below meth c H locs 0 0 Q (F0 m 3 ls []) := by
    intro n
    induction n with
    | zero =>
      intro z hg l6_4 S_5 H locs ls hw hl hz
      exact bPn_0 hz
    | succ n ih =>
      intro z hg l6_4 S_5 H locs ls hw hl hz
      obtain ⟨q_6, hf, hz⟩ := bPn_e hz
      have hf := u2_e ((congrFun eb _).symm.trans hf)
      refine lv_iload hx hb dX7_angleFor_3 (lv_at hl 6 rfl) ?_
      refine lv_bipush hx hb dX7_angleFor_5 kb_60 ?_
      refine lv_icmp_gt (tgt := 45) hx hb dX7_angleFor_7 (by decide) (fun c_12 => ?_) (fun c_12 => ?_)
      · have hf := (if_pos c_12).symm.trans hf
        obtain rfl := Option.some.inj hf
        obtain rfl := Option.some.inj (hz : some _ = some _)
        exact R45_3 _ _ _ _ hw (lv_sub hl [] rfl) hg
      · have hf := (if_neg c_12).symm.trans hf
        refine lv_aload_n hx hb dX7_angleFor_10 rfl (lv_at hl 0 rfl) ?_
        refine lv_aload_n hx hb dX7_angleFor_11 rfl (lv_at hl 1 rfl) ?_
        refine lv_iload_n hx hb dX7_angleFor_12 rfl (lv_at hl 2 rfl) ?_
        refine lv_iload hx hb dX7_angleFor_13 (lv_at hl 6 rfl) ?_
        refine lv_iload_n hx hb dX7_angleFor_15 rfl (lv_at hl 3 rfl) ?_
        refine lv_iload hx hb dX7_angleFor_16 (lv_at hl 4 rfl) ?_
        obtain ⟨r_7, S_8, hr_7, hf⟩ := bB2_e hf
        refine kVi (rest := []) G hw (wX7_goodFar hZ S_5 k0 k1 a2 l6_4 a3 a4 r_7 S_8 h0 h1 hr_7) cw_X7_52 h0 KX7 ⟨Nat.le_of_ble_eq_true rfl, Nat.le_of_ble_eq_true rfl⟩ rfl hl.1 rfl (Nat.le_of_ble_eq_true rfl) ⟨Nat.le_refl _, Nat.le_refl _⟩ dX7_angleFor_18 (fun H locs hw => ?_)
        refine lv_istore (lv' := [(7, .int r_7), (0, .ref (za Z k0)), (1, .ref (za Z k1)), (2, .int a2), (3, .int a3), (4, .int a4), (5, .int a5), (6, .int l6_4)]) hx hb dX7_angleFor_21 hl (by decide) rfl (fun ls hl => ?_)
        refine lv_iload hx hb dX7_angleFor_23 (lv_at hl 0 rfl) ?_
        refine lv_iconst hx hb dX7_angleFor_25 ki_m1 ?_
        obtain ⟨j39, ej, hf⟩ := bL_e hf
        have R39 : ∀ (H : Heap) (locs : List Loc) (ls : Array Slot), Wd Z s S_8 H locs → lv_has ls 8 [(0, .ref (za Z k0)), (1, .ref (za Z k1)), (2, .int a2), (3, .int a3), (4, .int a4), (5, .int a5), (6, .int l6_4)] → j39 () = some q_6 → W p l e { frames := 9, cells := 0, slots := 0, locals := 205 } s m args below meth c H locs 0 0 Q (F0 m 39 ls []) := by
          intro  H locs ls hw hl hf
          have hf := (congrFun ej ()).symm.trans hf
          obtain ⟨l6_9, el6_9, hf⟩ := bL_e hf
          refine lv_iinc (v := l6_9) (lv' := [(6, .int l6_9), (0, .ref (za Z k0)), (1, .ref (za Z k1)), (2, .int a2), (3, .int a3), (4, .int a4), (5, .int a5)]) hx hb dX7_angleFor_39 hl (k := 6) rfl (by rw [el6_9]; rfl) (by decide) rfl (fun ls hl => ?_)
          refine lv_goto (tgt := 3) hx hb dX7_angleFor_42 (by decide) ?_
          obtain rfl := Option.some.inj hf
          exact ih _ hg _ _ _ _ _ hw (lv_sub hl [1, 2, 3, 4, 5, 6, 0] rfl) hz
        clear ej
        refine lv_icmp_eq (tgt := 39) hx hb dX7_angleFor_26 (by decide) (fun c_11 => ?_) (fun c_11 => ?_)
        · have hf := (if_pos c_11).symm.trans hf
          exact R39 _ _ _ hw (lv_sub hl [1, 2, 3, 4, 5, 6, 7] rfl) hf
        · have hf := (if_neg c_11).symm.trans hf
          refine lv_iload hx hb dX7_angleFor_29 (lv_at hl 0 rfl) ?_
          refine lv_iload hx hb dX7_angleFor_31 (lv_at hl 6 rfl) ?_
          refine lv_icmp_lt (tgt := 39) hx hb dX7_angleFor_33 (by decide) (fun c_10 => ?_) (fun c_10 => ?_)
          · have hf := (if_pos c_10).symm.trans hf
            exact R39 _ _ _ hw (lv_sub hl [1, 2, 3, 4, 5, 6, 7] rfl) hf
          · have hf := (if_neg c_10).symm.trans hf
            obtain rfl := Option.some.inj hf
            obtain rfl := Option.some.inj (hz : some _ = some _)
            exact R36_3 _ _ _ _ _ hw (lv_sub hl [7] rfl) hg
  clear eb
  obtain ⟨z, hz, hf⟩ := bB_e hf
  obtain ⟨n, hz⟩ := bP_e hz
  exact RL3 n z hf _ _ _ _ _ hw (lv_sub hl [1, 2, 3, 4, 5, 6, 0] rfl) hz
noncomputable def F11_leastForce (S : pS) (a1 : Int32) (a2 : Int32) (a3 : Int32) (a4 : Int32) : Option (Int32 × pS) :=
  if (F10_hasSpear S 1 a1) = 0 then
    some (((-1) : Int32), S)
  else
    if (F11_canBlow a2) = 0 then
      some (((-1) : Int32), S)
    else
      if (F11_within a4 0 1) = 0 then
        some (((-1) : Int32), S)
      else
        bL (fun (S_1 : pS) =>
          some (((-1) : Int32), S_1)) fun g83_33 =>
        bL (fun (l5_2 : Int32) (l6_3 : Int32) (S_4 : pS) =>
          if a4 = 0 then
            some (l5_2, S_4)
          else
            some (l6_3, S_4)) fun g64_33 =>
        bL (u2 fun (l5_6 : Int32) (S_7 : pS) =>
          if 99 < l5_6 then
            some (.inr (.inl S_7))
          else
            bB2 (F7_angleFor S_7 59 1 l5_6 a1 a2 a3) fun r_9 S_10 =>
            if r_9 = (-1) then
              bL (l5_6 + 1) fun l5_11 =>
              some (.inl (l5_11, S_10))
            else
              some (.inr (.inr (l5_6, r_9, S_10)))) fun b33 =>
        bB (bP b33 ((0 : Int32), S)) (Sum.elim (u1 g83_33) (u3 g64_33))
set_option maxRecDepth 100000 in
set_option maxHeartbeats 4000000 in
theorem wX11_leastForce {l : Launch} {Z : pZ}  (hZ : CC Z) (S : pS) (a1 : Int32) (a2 : Int32) (a3 : Int32) (a4 : Int32) (r : Int32) (S2 : pS) (h0 : isA Z K_PF 0) (hf : F11_leastForce S a1 a2 a3 a4 = some (r, S2)) : CI l Z yX11_leastForce cX11_leastForce 7 .int 10 232 [.ref (za Z 0), .int a1, .int a2, .int a3, .int a4] S r S2 := by
  unfold F11_leastForce at hf
  refine eI (own := RX11) (by decide) rfl (Nat.le_of_ble_eq_true rfl) (fun p e s m args below meth c Q ls G hl hw hret => ?_)
  obtain ⟨hx, hb, hml, hown, hts⟩ := G.1
  have hl : lv_has ls 7 [(0, .ref (za Z 0)), (1, .int a1), (2, .int a2), (3, .int a3), (4, .int a4)] := hl
  refine lv_aload_n hx hb dX11_leastForce_0 rfl (lv_at hl 0 rfl) ?_
  refine gF G hw h0 KX11 0 (k2 := 1) rfl (by decide) rfl fl_X11_10 dX11_leastForce_1 ?_
  refine lv_iload_n hx hb dX11_leastForce_4 rfl (lv_at hl 1 rfl) ?_
  refine kVi (rest := []) G hw (wX10_hasSpear hZ S 1 a1 (F10_hasSpear S 1 a1) (sub_PF_now hZ h0) rfl) cw_X11_193 (sub_PF_now hZ h0) KX10 ⟨Nat.le_of_ble_eq_true rfl, Nat.le_of_ble_eq_true rfl⟩ rfl hl.1 rfl (Nat.le_of_ble_eq_true rfl) ⟨Nat.le_refl _, Nat.le_refl _⟩ dX11_leastForce_5 (fun H locs hw => ?_)
  refine lv_if_eq (tgt := 28) hx hb dX11_leastForce_8 (by decide) (fun c_16 => ?_) (fun c_16 => ?_)
  · have hf := (if_pos c_16).symm.trans hf
    refine lv_iconst hx hb dX11_leastForce_28 ki_m1 ?_
    obtain ⟨e1, e2⟩ := Prod.mk.inj (Option.some.inj hf)
    exact hret _ _ _ _ _ dX11_leastForce_29 e1 (by rw [← e2]; exact hw)
  · have hf := (if_neg c_16).symm.trans hf
    refine lv_iload_n hx hb dX11_leastForce_11 rfl (lv_at hl 2 rfl) ?_
    refine kSi (rest := []) G hw (wX11_canBlow hZ S a2 (F11_canBlow a2) rfl) cw_X11_329 ⟨Nat.le_of_ble_eq_true rfl, Nat.le_of_ble_eq_true rfl⟩ rfl hl.1 rfl (Nat.le_of_ble_eq_true rfl) ⟨Nat.le_refl _, Nat.le_refl _⟩ dX11_leastForce_12 (fun H locs hw => ?_)
    refine lv_if_eq (tgt := 28) hx hb dX11_leastForce_15 (by decide) (fun c_15 => ?_) (fun c_15 => ?_)
    · have hf := (if_pos c_15).symm.trans hf
      refine lv_iconst hx hb dX11_leastForce_28 ki_m1 ?_
      obtain ⟨e1, e2⟩ := Prod.mk.inj (Option.some.inj hf)
      exact hret _ _ _ _ _ dX11_leastForce_29 e1 (by rw [← e2]; exact hw)
    · have hf := (if_neg c_15).symm.trans hf
      refine lv_iload hx hb dX11_leastForce_18 (lv_at hl 4 rfl) ?_
      refine lv_iconst hx hb dX11_leastForce_20 ki_0 ?_
      refine lv_iconst hx hb dX11_leastForce_21 ki_1 ?_
      refine kSi (rest := []) G hw (wX11_within hZ S a4 0 1 (F11_within a4 0 1) rfl) cw_X11_51 ⟨Nat.le_of_ble_eq_true rfl, Nat.le_of_ble_eq_true rfl⟩ rfl hl.1 rfl (Nat.le_of_ble_eq_true rfl) ⟨Nat.le_refl _, Nat.le_refl _⟩ dX11_leastForce_22 (fun H locs hw => ?_)
      refine lv_if_ne (tgt := 30) hx hb dX11_leastForce_25 (by decide) (fun c_14 => ?_) (fun c_14 => ?_)
      · have hf := (if_neg c_14).symm.trans hf
        refine lv_iconst hx hb dX11_leastForce_30 ki_0 ?_
        refine lv_istore (lv' := [(5, .int 0), (0, .ref (za Z 0)), (1, .int a1), (2, .int a2), (3, .int a3), (4, .int a4)]) hx hb dX11_leastForce_31 hl (by decide) rfl (fun ls hl => ?_)
        obtain ⟨g83_33, ej, hf⟩ := bL_e hf
        have R83_33 : ∀ (S_1 : pS) (H : Heap) (locs : List Loc) (ls : Array Slot), Wd Z s S_1 H locs → lv_has ls 7 [] → g83_33 S_1 = some (r, S2) → W p l e { frames := 10, cells := 0, slots := 0, locals := 232 } s m args below meth c H locs 0 0 Q (F0 m 83 ls []) := by
          intro S_1 H locs ls hw hl hf
          have hf := (congrFun ej S_1).symm.trans hf
          refine lv_iconst hx hb dX11_leastForce_83 ki_m1 ?_
          obtain ⟨e1, e2⟩ := Prod.mk.inj (Option.some.inj hf)
          exact hret _ _ _ _ _ dX11_leastForce_84 e1 (by rw [← e2]; exact hw)
        clear ej
        obtain ⟨g64_33, ej, hf⟩ := bL_e hf
        have R64_33 : ∀ (l5_2 : Int32) (l6_3 : Int32) (S_4 : pS) (H : Heap) (locs : List Loc) (ls : Array Slot), Wd Z s S_4 H locs → lv_has ls 7 [(4, .int a4), (5, .int l5_2), (6, .int l6_3)] → g64_33 l5_2 l6_3 S_4 = some (r, S2) → W p l e { frames := 10, cells := 0, slots := 0, locals := 232 } s m args below meth c H locs 0 0 Q (F0 m 64 ls []) := by
          intro l5_2 l6_3 S_4 H locs ls hw hl hf
          have hf := (congrFun (congrFun (congrFun ej l5_2) l6_3) S_4).symm.trans hf
          refine lv_iload hx hb dX11_leastForce_64 (lv_at hl 0 rfl) ?_
          refine lv_if_ne (tgt := 74) hx hb dX11_leastForce_66 (by decide) (fun c_5 => ?_) (fun c_5 => ?_)
          · have hf := (if_neg c_5).symm.trans hf
            refine lv_iload hx hb dX11_leastForce_74 (lv_at hl 2 rfl) ?_
            obtain ⟨e1, e2⟩ := Prod.mk.inj (Option.some.inj hf)
            exact hret _ _ _ _ _ dX11_leastForce_76 e1 (by rw [← e2]; exact hw)
          · have hf := (if_pos c_5).symm.trans hf
            refine lv_iload hx hb dX11_leastForce_69 (lv_at hl 1 rfl) ?_
            refine lv_goto (tgt := 76) hx hb dX11_leastForce_71 (by decide) ?_
            obtain ⟨e1, e2⟩ := Prod.mk.inj (Option.some.inj hf)
            exact hret _ _ _ _ _ dX11_leastForce_76 e1 (by rw [← e2]; exact hw)
        clear ej
        obtain ⟨b33, eb, hf⟩ := bL_e hf
        have RL33 : ∀ (n : Nat) z, (Sum.elim (u1 g83_33) (u3 g64_33)) z = some (r, S2) → ∀ (l5_6 : Int32) (S_7 : pS) (H : Heap) (locs : List Loc) (ls : Array Slot), Wd Z s S_7 H locs → lv_has ls 7 [(0, .ref (za Z 0)), (1, .int a1), (2, .int a2), (3, .int a3), (4, .int a4), (5, .int l5_6)] → bPn b33 n (l5_6, S_7) = some z → W p l e { frames := 10, cells := 0, slots := 0, locals := 232 } s m args below meth c H locs 0 0 Q (F0 m 33 ls []) := by
          intro n
          induction n with
          | zero =>
            intro z hg l5_6 S_7 H locs ls hw hl hz
            exact bPn_0 hz
          | succ n ih =>
            intro z hg l5_6 S_7 H locs ls hw hl hz
            obtain ⟨q_8, hf, hz⟩ := bPn_e hz
            have hf := u2_e ((congrFun eb _).symm.trans hf)
            refine lv_iload hx hb dX11_leastForce_33 (lv_at hl 5 rfl) ?_
            refine lv_bipush hx hb dX11_leastForce_35 kb_99 ?_
            refine lv_icmp_gt (tgt := 83) hx hb dX11_leastForce_37 (by decide) (fun c_13 => ?_) (fun c_13 => ?_)
            · have hf := (if_pos c_13).symm.trans hf
              obtain rfl := Option.some.inj hf
              obtain rfl := Option.some.inj (hz : some _ = some _)
              exact R83_33 _ _ _ _ hw (lv_sub hl [] rfl) hg
            · have hf := (if_neg c_13).symm.trans hf
              refine lv_aload_n hx hb dX11_leastForce_40 rfl (lv_at hl 0 rfl) ?_
              refine gF G hw h0 KX11 2 (k2 := 59) rfl (by decide) rfl fl_X11_26 dX11_leastForce_41 ?_
              refine lv_aload_n hx hb dX11_leastForce_44 rfl (lv_at hl 0 rfl) ?_
              refine gF G hw h0 KX11 0 (k2 := 1) rfl (by decide) rfl fl_X11_10 dX11_leastForce_45 ?_
              refine lv_iload hx hb dX11_leastForce_48 (lv_at hl 5 rfl) ?_
              refine lv_iload_n hx hb dX11_leastForce_50 rfl (lv_at hl 1 rfl) ?_
              refine lv_iload_n hx hb dX11_leastForce_51 rfl (lv_at hl 2 rfl) ?_
              refine lv_iload_n hx hb dX11_leastForce_52 rfl (lv_at hl 3 rfl) ?_
              obtain ⟨r_9, S_10, hr_9, hf⟩ := bB2_e hf
              refine kVi (rest := []) G hw (wX7_angleFor hZ S_7 59 1 l5_6 a1 a2 a3 r_9 S_10 (sub_PF_thought hZ h0) (sub_PF_now hZ h0) hr_9) cw_X11_398 (sub_PF_thought hZ h0) KX7 ⟨Nat.le_of_ble_eq_true rfl, Nat.le_of_ble_eq_true rfl⟩ rfl hl.1 rfl (Nat.le_of_ble_eq_true rfl) ⟨Nat.le_refl _, Nat.le_refl _⟩ dX11_leastForce_53 (fun H locs hw => ?_)
              refine lv_istore (lv' := [(6, .int r_9), (0, .ref (za Z 0)), (1, .int a1), (2, .int a2), (3, .int a3), (4, .int a4), (5, .int l5_6)]) hx hb dX11_leastForce_56 hl (by decide) rfl (fun ls hl => ?_)
              refine lv_iload hx hb dX11_leastForce_58 (lv_at hl 0 rfl) ?_
              refine lv_iconst hx hb dX11_leastForce_60 ki_m1 ?_
              refine lv_icmp_eq (tgt := 77) hx hb dX11_leastForce_61 (by decide) (fun c_12 => ?_) (fun c_12 => ?_)
              · have hf := (if_pos c_12).symm.trans hf
                obtain ⟨l5_11, el5_11, hf⟩ := bL_e hf
                refine lv_iinc (v := l5_11) (lv' := [(5, .int l5_11), (6, .int r_9), (0, .ref (za Z 0)), (1, .int a1), (2, .int a2), (3, .int a3), (4, .int a4)]) hx hb dX11_leastForce_77 hl (k := 6) rfl (by rw [el5_11]; rfl) (by decide) rfl (fun ls hl => ?_)
                refine lv_goto (tgt := 33) hx hb dX11_leastForce_80 (by decide) ?_
                obtain rfl := Option.some.inj hf
                exact ih _ hg _ _ _ _ _ hw (lv_sub hl [2, 3, 4, 5, 6, 0] rfl) hz
              · have hf := (if_neg c_12).symm.trans hf
                obtain rfl := Option.some.inj hf
                obtain rfl := Option.some.inj (hz : some _ = some _)
                exact R64_33 _ _ _ _ _ _ hw (lv_sub hl [5, 6, 0] rfl) hg
        clear eb
        obtain ⟨z, hz, hf⟩ := bB_e hf
        obtain ⟨n, hz⟩ := bP_e hz
        exact RL33 n z hf _ _ _ _ _ hw (lv_sub hl [1, 2, 3, 4, 5, 0] rfl) hz
      · have hf := (if_pos c_14).symm.trans hf
        refine lv_iconst hx hb dX11_leastForce_28 ki_m1 ?_
        obtain ⟨e1, e2⟩ := Prod.mk.inj (Option.some.inj hf)
        exact hret _ _ _ _ _ dX11_leastForce_29 e1 (by rw [← e2]; exact hw)
noncomputable def F11_better (S : pS) (a1 : Int32) (a2 : Int32) (a3 : Int32) (a4 : Int32) : Option (Int64 × pS) :=
  if (F11_canThrow S a1 a2 a3) = 0 then
    some (((-1) : Int64), S)
  else
    if (F10_hasSpear S 1 a4) = 0 then
      some (((-1) : Int64), S)
    else
      bL (fun (l5_1 : Int64) (S_2 : pS) =>
        some (l5_1, S_2)) fun g104_33 =>
      bL (u3 fun (l5_3 : Int64) (l7_4 : Int32) (S_5 : pS) =>
        if 20 < l7_4 then
          some (.inr (l5_3, S_5))
        else
          bB2 (F7_goodFar S_5 59 1 a1 a2 a3 l7_4) fun r_7 S_8 =>
          bL (fun (l5_9 : Int64) (S_10 : pS) =>
            bL (l7_4 + 1) fun l7_11 =>
            some (.inl (l5_9, l7_11, S_10))) fun j98 =>
          if r_7 = (-1) then
            j98 l5_3 S_8
          else
            bB2 (F7_goodFar S_8 59 1 a1 a2 a4 l7_4) fun r_12 S_13 =>
            if r_7 ≤ r_12 then
              j98 l5_3 S_13
            else
              bL (l5_3 ||| ((1 : Int64) <<< ((l7_4 + 20 : Int32).toInt64 &&& 63))) fun l5_14 =>
              j98 l5_14 S_13) fun b33 =>
      bB (bP b33 ((0 : Int64), ((-20) : Int32), S)) (u2 g104_33)
set_option maxRecDepth 100000 in
set_option maxHeartbeats 4000000 in
theorem wX11_better {l : Launch} {Z : pZ}  (hZ : CC Z) (S : pS) (a1 : Int32) (a2 : Int32) (a3 : Int32) (a4 : Int32) (r : Int64) (S2 : pS) (h0 : isA Z K_PF 0) (hf : F11_better S a1 a2 a3 a4 = some (r, S2)) : CL l Z yX11_better cX11_better 9 9 205 [.ref (za Z 0), .int a1, .int a2, .int a3, .int a4] S r S2 := by
  unfold F11_better at hf
  refine eL (own := RX11) (by decide) rfl (Nat.le_of_ble_eq_true rfl) (fun p e s m args below meth c Q ls G hl hw hret => ?_)
  obtain ⟨hx, hb, hml, hown, hts⟩ := G.1
  have hl : lv_has ls 9 [(0, .ref (za Z 0)), (1, .int a1), (2, .int a2), (3, .int a3), (4, .int a4)] := hl
  refine lv_aload_n hx hb dX11_better_0 rfl (lv_at hl 0 rfl) ?_
  refine lv_iload_n hx hb dX11_better_1 rfl (lv_at hl 1 rfl) ?_
  refine lv_iload_n hx hb dX11_better_2 rfl (lv_at hl 2 rfl) ?_
  refine lv_iload_n hx hb dX11_better_3 rfl (lv_at hl 3 rfl) ?_
  refine kVi (rest := []) G hw (wX11_canThrow hZ S a1 a2 a3 (F11_canThrow S a1 a2 a3) h0 rfl) cw_X11_186 h0 KX11 ⟨Nat.le_of_ble_eq_true rfl, Nat.le_of_ble_eq_true rfl⟩ rfl hl.1 rfl (Nat.le_of_ble_eq_true rfl) ⟨Nat.le_refl _, Nat.le_refl _⟩ dX11_better_4 (fun H locs hw => ?_)
  refine lv_if_eq (tgt := 22) hx hb dX11_better_7 (by decide) (fun c_19 => ?_) (fun c_19 => ?_)
  · have hf := (if_pos c_19).symm.trans hf
    refine lv_ldc2 hx hb hown (hts _ cl_X11_358) dX11_better_22 ?_
    obtain ⟨e1, e2⟩ := Prod.mk.inj (Option.some.inj hf)
    exact hret _ _ _ _ _ dX11_better_25 e1 (by rw [← e2]; exact hw)
  · have hf := (if_neg c_19).symm.trans hf
    refine lv_aload_n hx hb dX11_better_10 rfl (lv_at hl 0 rfl) ?_
    refine gF G hw h0 KX11 0 (k2 := 1) rfl (by decide) rfl fl_X11_10 dX11_better_11 ?_
    refine lv_iload hx hb dX11_better_14 (lv_at hl 4 rfl) ?_
    refine kVi (rest := []) G hw (wX10_hasSpear hZ S 1 a4 (F10_hasSpear S 1 a4) (sub_PF_now hZ h0) rfl) cw_X11_193 (sub_PF_now hZ h0) KX10 ⟨Nat.le_of_ble_eq_true rfl, Nat.le_of_ble_eq_true rfl⟩ rfl hl.1 rfl (Nat.le_of_ble_eq_true rfl) ⟨Nat.le_refl _, Nat.le_refl _⟩ dX11_better_16 (fun H locs hw => ?_)
    refine lv_if_ne (tgt := 26) hx hb dX11_better_19 (by decide) (fun c_18 => ?_) (fun c_18 => ?_)
    · have hf := (if_neg c_18).symm.trans hf
      refine lv_lconst (v := 0) hx hb dX11_better_26 (by decide) ?_
      refine lv_lstore (lv' := [(5, .long 0), (0, .ref (za Z 0)), (1, .int a1), (2, .int a2), (3, .int a3), (4, .int a4)]) hx hb dX11_better_27 hl (by decide) rfl (fun ls hl => ?_)
      refine lv_bipush hx hb dX11_better_29 kb_m20 ?_
      refine lv_istore (lv' := [(7, .int (-20)), (5, .long 0), (0, .ref (za Z 0)), (1, .int a1), (2, .int a2), (3, .int a3), (4, .int a4)]) hx hb dX11_better_31 hl (by decide) rfl (fun ls hl => ?_)
      obtain ⟨g104_33, ej, hf⟩ := bL_e hf
      have R104_33 : ∀ (l5_1 : Int64) (S_2 : pS) (H : Heap) (locs : List Loc) (ls : Array Slot), Wd Z s S_2 H locs → lv_has ls 9 [(5, .long l5_1)] → g104_33 l5_1 S_2 = some (r, S2) → W p l e { frames := 9, cells := 0, slots := 0, locals := 205 } s m args below meth c H locs 0 0 Q (F0 m 104 ls []) := by
        intro l5_1 S_2 H locs ls hw hl hf
        have hf := (congrFun (congrFun ej l5_1) S_2).symm.trans hf
        refine lv_lload hx hb dX11_better_104 (lv_at hl 0 rfl) ?_
        obtain ⟨e1, e2⟩ := Prod.mk.inj (Option.some.inj hf)
        exact hret _ _ _ _ _ dX11_better_106 e1 (by rw [← e2]; exact hw)
      clear ej
      obtain ⟨b33, eb, hf⟩ := bL_e hf
      have RL33 : ∀ (n : Nat) z, (u2 g104_33) z = some (r, S2) → ∀ (l5_3 : Int64) (l7_4 : Int32) (S_5 : pS) (H : Heap) (locs : List Loc) (ls : Array Slot), Wd Z s S_5 H locs → lv_has ls 9 [(0, .ref (za Z 0)), (1, .int a1), (2, .int a2), (3, .int a3), (4, .int a4), (5, .long l5_3), (7, .int l7_4)] → bPn b33 n (l5_3, l7_4, S_5) = some z → W p l e { frames := 9, cells := 0, slots := 0, locals := 205 } s m args below meth c H locs 0 0 Q (F0 m 33 ls []) := by
        intro n
        induction n with
        | zero =>
          intro z hg l5_3 l7_4 S_5 H locs ls hw hl hz
          exact bPn_0 hz
        | succ n ih =>
          intro z hg l5_3 l7_4 S_5 H locs ls hw hl hz
          obtain ⟨q_6, hf, hz⟩ := bPn_e hz
          have hf := u3_e ((congrFun eb _).symm.trans hf)
          refine lv_iload hx hb dX11_better_33 (lv_at hl 6 rfl) ?_
          refine lv_bipush hx hb dX11_better_35 kb_20 ?_
          refine lv_icmp_gt (tgt := 104) hx hb dX11_better_37 (by decide) (fun c_17 => ?_) (fun c_17 => ?_)
          · have hf := (if_pos c_17).symm.trans hf
            obtain rfl := Option.some.inj hf
            obtain rfl := Option.some.inj (hz : some _ = some _)
            exact R104_33 _ _ _ _ _ hw (lv_sub hl [5] rfl) hg
          · have hf := (if_neg c_17).symm.trans hf
            refine lv_aload_n hx hb dX11_better_40 rfl (lv_at hl 0 rfl) ?_
            refine gF G hw h0 KX11 2 (k2 := 59) rfl (by decide) rfl fl_X11_26 dX11_better_41 ?_
            refine lv_aload_n hx hb dX11_better_44 rfl (lv_at hl 0 rfl) ?_
            refine gF G hw h0 KX11 0 (k2 := 1) rfl (by decide) rfl fl_X11_10 dX11_better_45 ?_
            refine lv_iload_n hx hb dX11_better_48 rfl (lv_at hl 1 rfl) ?_
            refine lv_iload_n hx hb dX11_better_49 rfl (lv_at hl 2 rfl) ?_
            refine lv_iload_n hx hb dX11_better_50 rfl (lv_at hl 3 rfl) ?_
            refine lv_iload hx hb dX11_better_51 (lv_at hl 6 rfl) ?_
            obtain ⟨r_7, S_8, hr_7, hf⟩ := bB2_e hf
            refine kVi (rest := []) G hw (wX7_goodFar hZ S_5 59 1 a1 a2 a3 l7_4 r_7 S_8 (sub_PF_thought hZ h0) (sub_PF_now hZ h0) hr_7) cw_X11_381 (sub_PF_thought hZ h0) KX7 ⟨Nat.le_of_ble_eq_true rfl, Nat.le_of_ble_eq_true rfl⟩ rfl hl.1 rfl (Nat.le_of_ble_eq_true rfl) ⟨Nat.le_refl _, Nat.le_refl _⟩ dX11_better_53 (fun H locs hw => ?_)
            refine lv_istore (lv' := [(8, .int r_7), (0, .ref (za Z 0)), (1, .int a1), (2, .int a2), (3, .int a3), (4, .int a4), (5, .long l5_3), (7, .int l7_4)]) hx hb dX11_better_56 hl (by decide) rfl (fun ls hl => ?_)
            refine lv_iload hx hb dX11_better_58 (lv_at hl 0 rfl) ?_
            refine lv_iconst hx hb dX11_better_60 ki_m1 ?_
            obtain ⟨j98, ej, hf⟩ := bL_e hf
            have R98 : ∀ (l5_9 : Int64) (S_10 : pS) (H : Heap) (locs : List Loc) (ls : Array Slot), Wd Z s S_10 H locs → lv_has ls 9 [(0, .ref (za Z 0)), (1, .int a1), (2, .int a2), (3, .int a3), (4, .int a4), (5, .long l5_9), (7, .int l7_4)] → j98 l5_9 S_10 = some q_6 → W p l e { frames := 9, cells := 0, slots := 0, locals := 205 } s m args below meth c H locs 0 0 Q (F0 m 98 ls []) := by
              intro l5_9 S_10 H locs ls hw hl hf
              have hf := (congrFun (congrFun ej l5_9) S_10).symm.trans hf
              obtain ⟨l7_11, el7_11, hf⟩ := bL_e hf
              refine lv_iinc (v := l7_11) (lv' := [(7, .int l7_11), (0, .ref (za Z 0)), (1, .int a1), (2, .int a2), (3, .int a3), (4, .int a4), (5, .long l5_9)]) hx hb dX11_better_98 hl (k := 6) rfl (by rw [el7_11]; rfl) (by decide) rfl (fun ls hl => ?_)
              refine lv_goto (tgt := 33) hx hb dX11_better_101 (by decide) ?_
              obtain rfl := Option.some.inj hf
              exact ih _ hg _ _ _ _ _ _ hw (lv_sub hl [1, 2, 3, 4, 5, 6, 0] rfl) hz
            clear ej
            refine lv_icmp_eq (tgt := 98) hx hb dX11_better_61 (by decide) (fun c_16 => ?_) (fun c_16 => ?_)
            · have hf := (if_pos c_16).symm.trans hf
              exact R98 _ _ _ _ _ hw (lv_sub hl [1, 2, 3, 4, 5, 6, 7] rfl) hf
            · have hf := (if_neg c_16).symm.trans hf
              refine lv_iload hx hb dX11_better_64 (lv_at hl 0 rfl) ?_
              refine lv_aload_n hx hb dX11_better_66 rfl (lv_at hl 1 rfl) ?_
              refine gF G hw h0 KX11 2 (k2 := 59) rfl (by decide) rfl fl_X11_26 dX11_better_67 ?_
              refine lv_aload_n hx hb dX11_better_70 rfl (lv_at hl 1 rfl) ?_
              refine gF G hw h0 KX11 0 (k2 := 1) rfl (by decide) rfl fl_X11_10 dX11_better_71 ?_
              refine lv_iload_n hx hb dX11_better_74 rfl (lv_at hl 2 rfl) ?_
              refine lv_iload_n hx hb dX11_better_75 rfl (lv_at hl 3 rfl) ?_
              refine lv_iload hx hb dX11_better_76 (lv_at hl 5 rfl) ?_
              refine lv_iload hx hb dX11_better_78 (lv_at hl 7 rfl) ?_
              obtain ⟨r_12, S_13, hr_12, hf⟩ := bB2_e hf
              refine kVi (rest := [.int r_7]) G hw (wX7_goodFar hZ S_8 59 1 a1 a2 a4 l7_4 r_12 S_13 (sub_PF_thought hZ h0) (sub_PF_now hZ h0) hr_12) cw_X11_381 (sub_PF_thought hZ h0) KX7 ⟨Nat.le_of_ble_eq_true rfl, Nat.le_of_ble_eq_true rfl⟩ rfl hl.1 rfl (Nat.le_of_ble_eq_true rfl) ⟨Nat.le_refl _, Nat.le_refl _⟩ dX11_better_80 (fun H locs hw => ?_)
              refine lv_icmp_le (tgt := 98) hx hb dX11_better_83 (by decide) (fun c_15 => ?_) (fun c_15 => ?_)
              · have hf := (if_pos c_15).symm.trans hf
                exact R98 _ _ _ _ _ hw (lv_sub hl [1, 2, 3, 4, 5, 6, 7] rfl) hf
              · have hf := (if_neg c_15).symm.trans hf
                refine lv_lload hx hb dX11_better_86 (lv_at hl 6 rfl) ?_
                refine lv_lconst (v := 1) hx hb dX11_better_88 (by decide) ?_
                refine lv_iload hx hb dX11_better_89 (lv_at hl 7 rfl) ?_
                refine lv_bipush hx hb dX11_better_91 kb_20 ?_
                refine lv_iadd hx hb dX11_better_93 ?_
                refine lv_lshl hx hb dX11_better_94 rfl ?_
                refine lv_lor hx hb dX11_better_95 ?_
                obtain ⟨l5_14, el5_14, hf⟩ := bL_e hf
                refine top_l el5_14 ?_
                refine lv_lstore (lv' := [(5, .long l5_14), (8, .int r_7), (0, .ref (za Z 0)), (1, .int a1), (2, .int a2), (3, .int a3), (4, .int a4), (7, .int l7_4)]) hx hb dX11_better_96 hl (by decide) rfl (fun ls hl => ?_)
                exact R98 _ _ _ _ _ hw (lv_sub hl [2, 3, 4, 5, 6, 0, 7] rfl) hf
      clear eb
      obtain ⟨z, hz, hf⟩ := bB_e hf
      obtain ⟨n, hz⟩ := bP_e hz
      exact RL33 n z hf _ _ _ _ _ _ hw (lv_sub hl [2, 3, 4, 5, 6, 1, 0] rfl) hz
    · have hf := (if_pos c_18).symm.trans hf
      refine lv_ldc2 hx hb hown (hts _ cl_X11_358) dX11_better_22 ?_
      obtain ⟨e1, e2⟩ := Prod.mk.inj (Option.some.inj hf)
      exact hret _ _ _ _ _ dX11_better_25 e1 (by rw [← e2]; exact hw)
noncomputable def F11_span (S : pS) (a1 : Int32) (a2 : Int32) : Option (Int32 × pS) :=
  if (F10_hasLine S 1 a1) = 0 then
    some (((-1) : Int32), S)
  else
    if (F11_within a2 0 1) = 0 then
      some (((-1) : Int32), S)
    else
      bL (S 2 3) fun l3_1 =>
      bL (-l3_1) fun l5_2 =>
      bL (fun (l4_3 : Int32) (S_4 : pS) =>
        some (l4_3, S_4)) fun g136_39 =>
      bL (u3 fun (l4_5 : Int32) (l5_6 : Int32) (S_7 : pS) =>
        if l3_1 < l5_6 then
          some (.inr (l4_5, S_7))
        else
          bB (F10_column S_7 1 a1 5) fun r_9 =>
          bL (F11_hold (r_9 + l5_6) 0 90) fun l6_10 =>
          bB (F10_column S_7 1 a1 4) fun r_11 =>
          bB (F10_column S_7 1 a1 3) fun r_12 =>
          bB2 (F7_far S_7 59 1 r_11 l6_10 r_12 0) fun r_13 S_14 =>
          bL (fun (l4_15 : Int32) =>
            bL (l5_6 + 1) fun l5_16 =>
            some (.inl (l4_15, l5_16, S_14))) fun j130 =>
          bL (fun (_ : Unit) =>
            j130 r_13) fun j126 =>
          if l4_5 = (-1) then
            j126 ()
          else
            if a2 = 0 then
              if l4_5 ≤ r_13 then
                j130 l4_5
              else
                j126 ()
            else
              if r_13 ≤ l4_5 then
                j130 l4_5
              else
                j126 ()) fun b39 =>
      bB (bP b39 (((-1) : Int32), l5_2, S)) (u2 g136_39)
set_option maxRecDepth 100000 in
set_option maxHeartbeats 4000000 in
theorem wX11_span {l : Launch} {Z : pZ}  (hZ : CC Z) (S : pS) (a1 : Int32) (a2 : Int32) (r : Int32) (S2 : pS) (h0 : isA Z K_PF 0) (hf : F11_span S a1 a2 = some (r, S2)) : CI l Z yX11_span cX11_span 8 .int 9 205 [.ref (za Z 0), .int a1, .int a2] S r S2 := by
  unfold F11_span at hf
  refine eI (own := RX11) (by decide) rfl (Nat.le_of_ble_eq_true rfl) (fun p e s m args below meth c Q ls G hl hw hret => ?_)
  obtain ⟨hx, hb, hml, hown, hts⟩ := G.1
  have hl : lv_has ls 8 [(0, .ref (za Z 0)), (1, .int a1), (2, .int a2)] := hl
  refine lv_aload_n hx hb dX11_span_0 rfl (lv_at hl 0 rfl) ?_
  refine gF G hw h0 KX11 0 (k2 := 1) rfl (by decide) rfl fl_X11_10 dX11_span_1 ?_
  refine lv_iload_n hx hb dX11_span_4 rfl (lv_at hl 1 rfl) ?_
  refine kVi (rest := []) G hw (wX10_hasLine hZ S 1 a1 (F10_hasLine S 1 a1) (sub_PF_now hZ h0) rfl) cw_X11_310 (sub_PF_now hZ h0) KX10 ⟨Nat.le_of_ble_eq_true rfl, Nat.le_of_ble_eq_true rfl⟩ rfl hl.1 rfl (Nat.le_of_ble_eq_true rfl) ⟨Nat.le_refl _, Nat.le_refl _⟩ dX11_span_5 (fun H locs hw => ?_)
  refine lv_if_eq (tgt := 20) hx hb dX11_span_8 (by decide) (fun c_23 => ?_) (fun c_23 => ?_)
  · have hf := (if_pos c_23).symm.trans hf
    refine lv_iconst hx hb dX11_span_20 ki_m1 ?_
    obtain ⟨e1, e2⟩ := Prod.mk.inj (Option.some.inj hf)
    exact hret _ _ _ _ _ dX11_span_21 e1 (by rw [← e2]; exact hw)
  · have hf := (if_neg c_23).symm.trans hf
    refine lv_iload_n hx hb dX11_span_11 rfl (lv_at hl 2 rfl) ?_
    refine lv_iconst hx hb dX11_span_12 ki_0 ?_
    refine lv_iconst hx hb dX11_span_13 ki_1 ?_
    refine kSi (rest := []) G hw (wX11_within hZ S a2 0 1 (F11_within a2 0 1) rfl) cw_X11_51 ⟨Nat.le_of_ble_eq_true rfl, Nat.le_of_ble_eq_true rfl⟩ rfl hl.1 rfl (Nat.le_of_ble_eq_true rfl) ⟨Nat.le_refl _, Nat.le_refl _⟩ dX11_span_14 (fun H locs hw => ?_)
    refine lv_if_ne (tgt := 22) hx hb dX11_span_17 (by decide) (fun c_22 => ?_) (fun c_22 => ?_)
    · have hf := (if_neg c_22).symm.trans hf
      refine lv_aload_n hx hb dX11_span_22 rfl (lv_at hl 0 rfl) ?_
      refine gF G hw h0 KX11 0 (k2 := 1) rfl (by decide) rfl fl_X11_10 dX11_span_23 ?_
      refine gF G hw (sub_PF_now hZ h0) KX10 8 (k2 := 2) rfl (by decide) rfl fl_X11_222 dX11_span_26 ?_
      refine lv_iconst hx hb dX11_span_29 ki_3 ?_
      refine aI G hw (sub_World_told hZ (sub_PF_now hZ h0)) (vin_e (by decide)) (j := 3) (by decide) dX11_span_30 ?_
      obtain ⟨l3_1, el3_1, hf⟩ := bL_e hf
      refine top_i el3_1 ?_
      refine lv_istore_n (lv' := [(3, .int l3_1), (0, .ref (za Z 0)), (1, .int a1), (2, .int a2)]) hx hb dX11_span_31 rfl hl (by decide) rfl (fun ls hl => ?_)
      refine lv_iconst hx hb dX11_span_32 ki_m1 ?_
      refine lv_istore (lv' := [(4, .int (-1)), (3, .int l3_1), (0, .ref (za Z 0)), (1, .int a1), (2, .int a2)]) hx hb dX11_span_33 hl (by decide) rfl (fun ls hl => ?_)
      refine lv_iload_n hx hb dX11_span_35 rfl (lv_at hl 1 rfl) ?_
      refine lv_ineg hx hb dX11_span_36 ?_
      obtain ⟨l5_2, el5_2, hf⟩ := bL_e hf
      refine top_i el5_2 ?_
      refine lv_istore (lv' := [(5, .int l5_2), (4, .int (-1)), (3, .int l3_1), (0, .ref (za Z 0)), (1, .int a1), (2, .int a2)]) hx hb dX11_span_37 hl (by decide) rfl (fun ls hl => ?_)
      obtain ⟨g136_39, ej, hf⟩ := bL_e hf
      have R136_39 : ∀ (l4_3 : Int32) (S_4 : pS) (H : Heap) (locs : List Loc) (ls : Array Slot), Wd Z s S_4 H locs → lv_has ls 8 [(4, .int l4_3)] → g136_39 l4_3 S_4 = some (r, S2) → W p l e { frames := 9, cells := 0, slots := 0, locals := 205 } s m args below meth c H locs 0 0 Q (F0 m 136 ls []) := by
        intro l4_3 S_4 H locs ls hw hl hf
        have hf := (congrFun (congrFun ej l4_3) S_4).symm.trans hf
        refine lv_iload hx hb dX11_span_136 (lv_at hl 0 rfl) ?_
        obtain ⟨e1, e2⟩ := Prod.mk.inj (Option.some.inj hf)
        exact hret _ _ _ _ _ dX11_span_138 e1 (by rw [← e2]; exact hw)
      clear ej
      obtain ⟨b39, eb, hf⟩ := bL_e hf
      have RL39 : ∀ (n : Nat) z, (u2 g136_39) z = some (r, S2) → ∀ (l4_5 : Int32) (l5_6 : Int32) (S_7 : pS) (H : Heap) (locs : List Loc) (ls : Array Slot), Wd Z s S_7 H locs → lv_has ls 8 [(0, .ref (za Z 0)), (1, .int a1), (2, .int a2), (3, .int l3_1), (4, .int l4_5), (5, .int l5_6)] → bPn b39 n (l4_5, l5_6, S_7) = some z → W p l e { frames := 9, cells := 0, slots := 0, locals := 205 } s m args below meth c H locs 0 0 Q (F0 m 39 ls []) := by
        intro n
        induction n with
        | zero =>
          intro z hg l4_5 l5_6 S_7 H locs ls hw hl hz
          exact bPn_0 hz
        | succ n ih =>
          intro z hg l4_5 l5_6 S_7 H locs ls hw hl hz
          obtain ⟨q_8, hf, hz⟩ := bPn_e hz
          have hf := u3_e ((congrFun eb _).symm.trans hf)
          refine lv_iload hx hb dX11_span_39 (lv_at hl 5 rfl) ?_
          refine lv_iload_n hx hb dX11_span_41 rfl (lv_at hl 3 rfl) ?_
          refine lv_icmp_gt (tgt := 136) hx hb dX11_span_42 (by decide) (fun c_21 => ?_) (fun c_21 => ?_)
          · have hf := (if_pos c_21).symm.trans hf
            obtain rfl := Option.some.inj hf
            obtain rfl := Option.some.inj (hz : some _ = some _)
            exact R136_39 _ _ _ _ _ hw (lv_sub hl [4] rfl) hg
          · have hf := (if_neg c_21).symm.trans hf
            refine lv_aload_n hx hb dX11_span_45 rfl (lv_at hl 0 rfl) ?_
            refine gF G hw h0 KX11 0 (k2 := 1) rfl (by decide) rfl fl_X11_10 dX11_span_46 ?_
            refine lv_iload_n hx hb dX11_span_49 rfl (lv_at hl 1 rfl) ?_
            refine lv_iconst hx hb dX11_span_50 ki_5 ?_
            obtain ⟨r_9, hr_9, hf⟩ := bB_e hf
            refine kVi (rest := []) G hw (wX10_column hZ S_7 1 a1 5 r_9 (sub_PF_now hZ h0) hr_9) cw_X11_313 (sub_PF_now hZ h0) KX10 ⟨Nat.le_of_ble_eq_true rfl, Nat.le_of_ble_eq_true rfl⟩ rfl hl.1 rfl (Nat.le_of_ble_eq_true rfl) ⟨Nat.le_refl _, Nat.le_refl _⟩ dX11_span_51 (fun H locs hw => ?_)
            refine lv_iload hx hb dX11_span_54 (lv_at hl 5 rfl) ?_
            refine lv_iadd hx hb dX11_span_56 ?_
            refine lv_iconst hx hb dX11_span_57 ki_0 ?_
            refine lv_bipush hx hb dX11_span_58 kb_90 ?_
            refine kSi (rest := []) G hw (wX11_hold hZ S_7 (r_9 + l5_6) 0 90 (F11_hold (r_9 + l5_6) 0 90) rfl) cw_X11_228 ⟨Nat.le_of_ble_eq_true rfl, Nat.le_of_ble_eq_true rfl⟩ rfl hl.1 rfl (Nat.le_of_ble_eq_true rfl) ⟨Nat.le_refl _, Nat.le_refl _⟩ dX11_span_60 (fun H locs hw => ?_)
            obtain ⟨l6_10, el6_10, hf⟩ := bL_e hf
            refine top_i el6_10 ?_
            refine lv_istore (lv' := [(6, .int l6_10), (0, .ref (za Z 0)), (1, .int a1), (2, .int a2), (3, .int l3_1), (4, .int l4_5), (5, .int l5_6)]) hx hb dX11_span_63 hl (by decide) rfl (fun ls hl => ?_)
            refine lv_aload_n hx hb dX11_span_65 rfl (lv_at hl 1 rfl) ?_
            refine gF G hw h0 KX11 2 (k2 := 59) rfl (by decide) rfl fl_X11_26 dX11_span_66 ?_
            refine lv_aload_n hx hb dX11_span_69 rfl (lv_at hl 1 rfl) ?_
            refine gF G hw h0 KX11 0 (k2 := 1) rfl (by decide) rfl fl_X11_10 dX11_span_70 ?_
            refine lv_aload_n hx hb dX11_span_73 rfl (lv_at hl 1 rfl) ?_
            refine gF G hw h0 KX11 0 (k2 := 1) rfl (by decide) rfl fl_X11_10 dX11_span_74 ?_
            refine lv_iload_n hx hb dX11_span_77 rfl (lv_at hl 2 rfl) ?_
            refine lv_iconst hx hb dX11_span_78 ki_4 ?_
            obtain ⟨r_11, hr_11, hf⟩ := bB_e hf
            refine kVi (rest := [.ref (za Z 1), .ref (za Z 59)]) G hw (wX10_column hZ S_7 1 a1 4 r_11 (sub_PF_now hZ h0) hr_11) cw_X11_313 (sub_PF_now hZ h0) KX10 ⟨Nat.le_of_ble_eq_true rfl, Nat.le_of_ble_eq_true rfl⟩ rfl hl.1 rfl (Nat.le_of_ble_eq_true rfl) ⟨Nat.le_refl _, Nat.le_refl _⟩ dX11_span_79 (fun H locs hw => ?_)
            refine lv_iload hx hb dX11_span_82 (lv_at hl 0 rfl) ?_
            refine lv_aload_n hx hb dX11_span_84 rfl (lv_at hl 1 rfl) ?_
            refine gF G hw h0 KX11 0 (k2 := 1) rfl (by decide) rfl fl_X11_10 dX11_span_85 ?_
            refine lv_iload_n hx hb dX11_span_88 rfl (lv_at hl 2 rfl) ?_
            refine lv_iconst hx hb dX11_span_89 ki_3 ?_
            obtain ⟨r_12, hr_12, hf⟩ := bB_e hf
            refine kVi (rest := [.int l6_10, .int r_11, .ref (za Z 1), .ref (za Z 59)]) G hw (wX10_column hZ S_7 1 a1 3 r_12 (sub_PF_now hZ h0) hr_12) cw_X11_313 (sub_PF_now hZ h0) KX10 ⟨Nat.le_of_ble_eq_true rfl, Nat.le_of_ble_eq_true rfl⟩ rfl hl.1 rfl (Nat.le_of_ble_eq_true rfl) ⟨Nat.le_refl _, Nat.le_refl _⟩ dX11_span_90 (fun H locs hw => ?_)
            refine lv_iconst hx hb dX11_span_93 ki_0 ?_
            obtain ⟨r_13, S_14, hr_13, hf⟩ := bB2_e hf
            refine kVi (rest := []) G hw (wX7_far hZ S_7 59 1 r_11 l6_10 r_12 0 r_13 S_14 (sub_PF_thought hZ h0) (sub_PF_now hZ h0) hr_13) cw_X11_360 (sub_PF_thought hZ h0) KX7 ⟨Nat.le_of_ble_eq_true rfl, Nat.le_of_ble_eq_true rfl⟩ rfl hl.1 rfl (Nat.le_of_ble_eq_true rfl) ⟨Nat.le_refl _, Nat.le_refl _⟩ dX11_span_94 (fun H locs hw => ?_)
            refine lv_istore (lv' := [(7, .int r_13), (6, .int l6_10), (0, .ref (za Z 0)), (1, .int a1), (2, .int a2), (3, .int l3_1), (4, .int l4_5), (5, .int l5_6)]) hx hb dX11_span_97 hl (by decide) rfl (fun ls hl => ?_)
            refine lv_iload hx hb dX11_span_99 (lv_at hl 6 rfl) ?_
            refine lv_iconst hx hb dX11_span_101 ki_m1 ?_
            obtain ⟨j130, ej, hf⟩ := bL_e hf
            have R130 : ∀ (l4_15 : Int32) (H : Heap) (locs : List Loc) (ls : Array Slot), Wd Z s S_14 H locs → lv_has ls 8 [(0, .ref (za Z 0)), (1, .int a1), (2, .int a2), (3, .int l3_1), (4, .int l4_15), (5, .int l5_6)] → j130 l4_15 = some q_8 → W p l e { frames := 9, cells := 0, slots := 0, locals := 205 } s m args below meth c H locs 0 0 Q (F0 m 130 ls []) := by
              intro l4_15 H locs ls hw hl hf
              have hf := (congrFun ej l4_15).symm.trans hf
              obtain ⟨l5_16, el5_16, hf⟩ := bL_e hf
              refine lv_iinc (v := l5_16) (lv' := [(5, .int l5_16), (0, .ref (za Z 0)), (1, .int a1), (2, .int a2), (3, .int l3_1), (4, .int l4_15)]) hx hb dX11_span_130 hl (k := 5) rfl (by rw [el5_16]; rfl) (by decide) rfl (fun ls hl => ?_)
              refine lv_goto (tgt := 39) hx hb dX11_span_133 (by decide) ?_
              obtain rfl := Option.some.inj hf
              exact ih _ hg _ _ _ _ _ _ hw (lv_sub hl [1, 2, 3, 4, 5, 0] rfl) hz
            clear ej
            obtain ⟨j126, ej, hf⟩ := bL_e hf
            have R126 : ∀ (H : Heap) (locs : List Loc) (ls : Array Slot), Wd Z s S_14 H locs → lv_has ls 8 [(0, .ref (za Z 0)), (1, .int a1), (2, .int a2), (3, .int l3_1), (5, .int l5_6), (7, .int r_13)] → j126 () = some q_8 → W p l e { frames := 9, cells := 0, slots := 0, locals := 205 } s m args below meth c H locs 0 0 Q (F0 m 126 ls []) := by
              intro  H locs ls hw hl hf
              have hf := (congrFun ej ()).symm.trans hf
              refine lv_iload hx hb dX11_span_126 (lv_at hl 5 rfl) ?_
              refine lv_istore (lv' := [(4, .int r_13), (0, .ref (za Z 0)), (1, .int a1), (2, .int a2), (3, .int l3_1), (5, .int l5_6), (7, .int r_13)]) hx hb dX11_span_128 hl (by decide) rfl (fun ls hl => ?_)
              exact R130 _ _ _ _ hw (lv_sub hl [1, 2, 3, 4, 0, 5] rfl) hf
            clear ej
            refine lv_icmp_eq (tgt := 126) hx hb dX11_span_102 (by decide) (fun c_20 => ?_) (fun c_20 => ?_)
            · have hf := (if_pos c_20).symm.trans hf
              exact R126 _ _ _ hw (lv_sub hl [2, 3, 4, 5, 7, 0] rfl) hf
            · have hf := (if_neg c_20).symm.trans hf
              refine lv_iload_n hx hb dX11_span_105 rfl (lv_at hl 4 rfl) ?_
              refine lv_if_ne (tgt := 119) hx hb dX11_span_106 (by decide) (fun c_19 => ?_) (fun c_19 => ?_)
              · have hf := (if_neg c_19).symm.trans hf
                refine lv_iload hx hb dX11_span_119 (lv_at hl 0 rfl) ?_
                refine lv_iload hx hb dX11_span_121 (lv_at hl 6 rfl) ?_
                refine lv_icmp_le (tgt := 130) hx hb dX11_span_123 (by decide) (fun c_17 => ?_) (fun c_17 => ?_)
                · have hf := (if_pos c_17).symm.trans hf
                  exact R130 _ _ _ _ hw (lv_sub hl [2, 3, 4, 5, 6, 7] rfl) hf
                · have hf := (if_neg c_17).symm.trans hf
                  exact R126 _ _ _ hw (lv_sub hl [2, 3, 4, 5, 7, 0] rfl) hf
              · have hf := (if_pos c_19).symm.trans hf
                refine lv_iload hx hb dX11_span_109 (lv_at hl 0 rfl) ?_
                refine lv_iload hx hb dX11_span_111 (lv_at hl 6 rfl) ?_
                refine lv_icmp_ge (tgt := 130) hx hb dX11_span_113 (by decide) (fun c_18 => ?_) (fun c_18 => ?_)
                · have hf := (if_pos c_18).symm.trans hf
                  exact R130 _ _ _ _ hw (lv_sub hl [2, 3, 4, 5, 6, 7] rfl) hf
                · have hf := (if_neg c_18).symm.trans hf
                  refine lv_goto (tgt := 126) hx hb dX11_span_116 (by decide) ?_
                  exact R126 _ _ _ hw (lv_sub hl [2, 3, 4, 5, 7, 0] rfl) hf
      clear eb
      obtain ⟨z, hz, hf⟩ := bB_e hf
      obtain ⟨n, hz⟩ := bP_e hz
      exact RL39 n z hf _ _ _ _ _ _ hw (lv_sub hl [3, 4, 5, 2, 1, 0] rfl) hz
    · have hf := (if_pos c_22).symm.trans hf
      refine lv_iconst hx hb dX11_span_20 ki_m1 ?_
      obtain ⟨e1, e2⟩ := Prod.mk.inj (Option.some.inj hf)
      exact hret _ _ _ _ _ dX11_span_21 e1 (by rw [← e2]; exact hw)
noncomputable def F9_put (S : pS) (k0 : Nat) (n0 : Nat) (a1 : Int32) (a2 : Int32) (a3 : Int32) : Option (pS) :=
  bL ((a1 * 63) + (a2 / 16)) fun l4_1 =>
  if l4_1 < 0 then
    some S
  else
    if (nI n0) ≤ l4_1 then
      some S
    else
      bG (vp_in l4_1 n0) <|
      bG (vp_in l4_1 n0) <|
      bL (sU (sU S k0 (2 * l4_1.toNatClampNeg) (plo ((pjn (S k0 (2 * l4_1.toNatClampNeg)) (S k0 (2 * l4_1.toNatClampNeg + 1))) ||| (((a3 : Int32).toInt64 : Int64) <<< (((a2 - a2 / 16 * 16) * 4 : Int32).toInt64 &&& 63))))) k0 (2 * l4_1.toNatClampNeg + 1) (phi ((pjn (S k0 (2 * l4_1.toNatClampNeg)) (S k0 (2 * l4_1.toNatClampNeg + 1))) ||| (((a3 : Int32).toInt64 : Int64) <<< (((a2 - a2 / 16 * 16) * 4 : Int32).toInt64 &&& 63))))) fun S_4 =>
      some S_4
set_option maxRecDepth 100000 in
set_option maxHeartbeats 4000000 in
theorem wX9_put {l : Launch} {Z : pZ}  (hZ : CC Z) (S : pS) (k0 : Nat) (n0 : Nat) (a1 : Int32) (a2 : Int32) (a3 : Int32) (S2 : pS) (h0 : isA Z (.inl (3, n0)) k0) (hf : F9_put S k0 n0 a1 a2 a3 = some S2) : CV l Z yX9_put cX9_put 5 3 60 [.ref (za Z k0), .int a1, .int a2, .int a3] S S2 := by
  unfold F9_put at hf
  refine eV (own := RX9) (by decide) rfl (Nat.le_of_ble_eq_true rfl) (fun p e s m args below meth c Q ls G hl hw hret => ?_)
  obtain ⟨hx, hb, hml, hown, hts⟩ := G.1
  have hl : lv_has ls 5 [(0, .ref (za Z k0)), (1, .int a1), (2, .int a2), (3, .int a3)] := hl
  refine lv_iload_n hx hb dX9_put_0 rfl (lv_at hl 1 rfl) ?_
  refine lv_bipush hx hb dX9_put_1 kb_63 ?_
  refine lv_imul hx hb dX9_put_3 ?_
  refine lv_iload_n hx hb dX9_put_4 rfl (lv_at hl 2 rfl) ?_
  refine lv_bipush hx hb dX9_put_5 kb_16 ?_
  refine lv_idiv hx hb dX9_put_7 (by decide) ?_
  refine lv_iadd hx hb dX9_put_8 ?_
  obtain ⟨l4_1, el4_1, hf⟩ := bL_e hf
  refine top_i el4_1 ?_
  refine lv_istore (lv' := [(4, .int l4_1), (0, .ref (za Z k0)), (1, .int a1), (2, .int a2), (3, .int a3)]) hx hb dX9_put_9 hl (by decide) rfl (fun ls hl => ?_)
  refine lv_iload hx hb dX9_put_11 (lv_at hl 0 rfl) ?_
  refine lv_if_lt (tgt := 39) hx hb dX9_put_13 (by decide) (fun c_6 => ?_) (fun c_6 => ?_)
  · have hf := (if_pos c_6).symm.trans hf
    exact hret _ _ _ _ dX9_put_39 (by rw [← (Option.some.inj hf)]; exact hw)
  · have hf := (if_neg c_6).symm.trans hf
    refine lv_iload hx hb dX9_put_16 (lv_at hl 0 rfl) ?_
    refine lv_aload_n hx hb dX9_put_18 rfl (lv_at hl 1 rfl) ?_
    refine aL G hw (t := 3) h0 rfl (v := nI n0) rfl dX9_put_19 ?_
    refine lv_icmp_ge (tgt := 39) hx hb dX9_put_20 (by decide) (fun c_5 => ?_) (fun c_5 => ?_)
    · have hf := (if_pos c_5).symm.trans hf
      exact hret _ _ _ _ dX9_put_39 (by rw [← (Option.some.inj hf)]; exact hw)
    · have hf := (if_neg c_5).symm.trans hf
      refine lv_aload_n hx hb dX9_put_23 rfl (lv_at hl 1 rfl) ?_
      refine lv_iload hx hb dX9_put_24 (lv_at hl 0 rfl) ?_
      refine lv_dup2_11 hx hb dX9_put_26 rfl rfl ?_
      obtain ⟨hg_2, hf⟩ := bG_e hf
      refine aJ G hw h0 hg_2 (j := l4_1.toNatClampNeg) rfl dX9_put_27 ?_
      refine lv_iload_n hx hb dX9_put_28 rfl (lv_at hl 4 rfl) ?_
      refine lv_i2l hx hb dX9_put_29 rfl ?_
      refine lv_iload_n hx hb dX9_put_30 rfl (lv_at hl 3 rfl) ?_
      refine lv_bipush hx hb dX9_put_31 kb_16 ?_
      refine lv_irem hx hb dX9_put_33 (by decide) ?_
      refine lv_iconst hx hb dX9_put_34 ki_4 ?_
      refine lv_imul hx hb dX9_put_35 ?_
      refine lv_lshl hx hb dX9_put_36 rfl ?_
      refine lv_lor hx hb dX9_put_37 ?_
      obtain ⟨hg_3, hf⟩ := bG_e hf
      obtain ⟨S_4, eS_4, hf⟩ := bL_e hf
      refine sJ G hw h0 hg_3 (j := l4_1.toNatClampNeg) rfl eS_4 dX9_put_38 (fun H locs hw => ?_)
      exact hret _ _ _ _ dX9_put_39 (by rw [← (Option.some.inj hf)]; exact hw)

noncomputable def F12_slipped (S : pS) (a1 : Int32) (a2 : Int32) : Option (Int32 × pS) :=
  if a2 = 0 then
    some (a1, S)
  else
    bB2 (F12_draw S ((2 * a2) + 1)) fun r_1 S_2 =>
    some ((a1 + r_1) - a2, S_2)
set_option maxRecDepth 100000 in
set_option maxHeartbeats 4000000 in
theorem wX12_slipped {l : Launch} {Z : pZ}  (hZ : CM Z) (S : pS) (a1 : Int32) (a2 : Int32) (r : Int32) (S2 : pS)  (hf : F12_slipped S a1 a2 = some (r, S2)) : CI l Z yX12_slipped cX12_slipped 3 .int 4 81 [.ref (za Z 0), .int a1, .int a2] S r S2 := by
  unfold F12_slipped at hf
  refine eI (own := RX12) (by decide) rfl (Nat.le_of_ble_eq_true rfl) (fun p e s m args below meth c Q ls G hl hw hret => ?_)
  obtain ⟨hx, hb, hml, hown, hts⟩ := G.1
  have hl : lv_has ls 3 [(0, .ref (za Z 0)), (1, .int a1), (2, .int a2)] := hl
  refine lv_iload_n hx hb dX12_slipped_0 rfl (lv_at hl 2 rfl) ?_
  refine lv_if_ne (tgt := 8) hx hb dX12_slipped_1 (by decide) (fun c_3 => ?_) (fun c_3 => ?_)
  · have hf := (if_neg c_3).symm.trans hf
    refine lv_iload_n hx hb dX12_slipped_8 rfl (lv_at hl 1 rfl) ?_
    refine lv_aload_n hx hb dX12_slipped_9 rfl (lv_at hl 0 rfl) ?_
    refine lv_iconst hx hb dX12_slipped_10 ki_2 ?_
    refine lv_iload_n hx hb dX12_slipped_11 rfl (lv_at hl 2 rfl) ?_
    refine lv_imul hx hb dX12_slipped_12 ?_
    refine lv_iconst hx hb dX12_slipped_13 ki_1 ?_
    refine lv_iadd hx hb dX12_slipped_14 ?_
    obtain ⟨r_1, S_2, hr_1, hf⟩ := bB2_e hf
    refine kVi (rest := [.int a1]) G hw (wX12_draw hZ S ((2 * a2) + 1) r_1 S_2 hr_1) cw_X12_373 (m_this hZ) KX12 ⟨Nat.le_of_ble_eq_true rfl, Nat.le_of_ble_eq_true rfl⟩ rfl hl.1 rfl (Nat.le_of_ble_eq_true rfl) ⟨Nat.le_refl _, Nat.le_refl _⟩ dX12_slipped_15 (fun H locs hw => ?_)
    refine lv_iadd hx hb dX12_slipped_18 ?_
    refine lv_iload_n hx hb dX12_slipped_19 rfl (lv_at hl 2 rfl) ?_
    refine lv_isub hx hb dX12_slipped_20 ?_
    obtain ⟨e1, e2⟩ := Prod.mk.inj (Option.some.inj hf)
    exact hret _ _ _ _ _ dX12_slipped_21 e1 (by rw [← e2]; exact hw)
  · have hf := (if_pos c_3).symm.trans hf
    refine lv_iload_n hx hb dX12_slipped_4 rfl (lv_at hl 1 rfl) ?_
    refine lv_goto (tgt := 21) hx hb dX12_slipped_5 (by decide) ?_
    obtain ⟨e1, e2⟩ := Prod.mk.inj (Option.some.inj hf)
    exact hret _ _ _ _ _ dX12_slipped_21 e1 (by rw [← e2]; exact hw)
noncomputable def F12_notes (S : pS) (a1 : Int32) (a2 : Int32) (a3 : Int32) (a4 : Int32) (a5 : Int32) (a6 : Int32) : Option (pS) :=
  if (S 1 2) = 100 then
    some S
  else
    bL (3296 + (10 * (S 1 2))) fun l7_1 =>
    bG (vp_in l7_1 4296) <|
    bL (sU S 1 l7_1.toNatClampNeg (S 1 66)) fun S_2 =>
    bG (vp_in (l7_1 + 1) 4296) <|
    bL (sU S_2 1 ((l7_1 + 1).toNatClampNeg) (S_2 1 0)) fun S_3 =>
    bG (vp_in (l7_1 + 2) 4296) <|
    bL (sU S_3 1 ((l7_1 + 2).toNatClampNeg) a1) fun S_4 =>
    bG (vp_in (l7_1 + 3) 4296) <|
    bL (sU S_4 1 ((l7_1 + 3).toNatClampNeg) a2) fun S_5 =>
    bG (vp_in (l7_1 + 4) 4296) <|
    bL (sU S_5 1 ((l7_1 + 4).toNatClampNeg) a3) fun S_6 =>
    bG (vp_in (l7_1 + 5) 4296) <|
    bL (sU S_6 1 ((l7_1 + 5).toNatClampNeg) a4) fun S_7 =>
    bG (vp_in (l7_1 + 6) 4296) <|
    bL (sU S_7 1 ((l7_1 + 6).toNatClampNeg) a5) fun S_8 =>
    bG (vp_in (l7_1 + 7) 4296) <|
    bL (sU S_8 1 ((l7_1 + 7).toNatClampNeg) (S_8 0 30)) fun S_9 =>
    bG (vp_in (l7_1 + 8) 4296) <|
    bL (sU S_9 1 ((l7_1 + 8).toNatClampNeg) a6) fun S_10 =>
    bL (sU S_10 1 2 ((S_10 1 2) + 1)) fun S_11 =>
    some S_11
set_option maxRecDepth 100000 in
set_option maxHeartbeats 4000000 in
theorem wX12_notes {l : Launch} {Z : pZ}  (hZ : CM Z) (S : pS) (a1 : Int32) (a2 : Int32) (a3 : Int32) (a4 : Int32) (a5 : Int32) (a6 : Int32) (S2 : pS)  (hf : F12_notes S a1 a2 a3 a4 a5 a6 = some S2) : CV l Z yX12_notes cX12_notes 8 3 60 [.ref (za Z 0), .int a1, .int a2, .int a3, .int a4, .int a5, .int a6] S S2 := by
  unfold F12_notes at hf
  refine eV (own := RX12) (by decide) rfl (Nat.le_of_ble_eq_true rfl) (fun p e s m args below meth c Q ls G hl hw hret => ?_)
  obtain ⟨hx, hb, hml, hown, hts⟩ := G.1
  have hl : lv_has ls 8 [(0, .ref (za Z 0)), (1, .int a1), (2, .int a2), (3, .int a3), (4, .int a4), (5, .int a5), (6, .int a6)] := hl
  refine lv_aload_n hx hb dX12_notes_0 rfl (lv_at hl 0 rfl) ?_
  refine gF G hw (m_this hZ) KX12 0 (k2 := 1) rfl (by decide) rfl fl_X12_7 dX12_notes_1 ?_
  refine lv_iconst hx hb dX12_notes_4 ki_2 ?_
  refine aI G hw (m_w hZ) (vin_e (by decide)) (j := 2) (by decide) dX12_notes_5 ?_
  refine lv_bipush hx hb dX12_notes_6 kb_100 ?_
  refine lv_icmp_ne (tgt := 12) hx hb dX12_notes_8 (by decide) (fun c_12 => ?_) (fun c_12 => ?_)
  · have hf := (if_neg c_12).symm.trans hf
    refine lv_sipush hx hb dX12_notes_12 ks_3296 ?_
    refine lv_bipush hx hb dX12_notes_15 kb_10 ?_
    refine lv_aload_n hx hb dX12_notes_17 rfl (lv_at hl 0 rfl) ?_
    refine gF G hw (m_this hZ) KX12 0 (k2 := 1) rfl (by decide) rfl fl_X12_7 dX12_notes_18 ?_
    refine lv_iconst hx hb dX12_notes_21 ki_2 ?_
    refine aI G hw (m_w hZ) (vin_e (by decide)) (j := 2) (by decide) dX12_notes_22 ?_
    refine lv_imul hx hb dX12_notes_23 ?_
    refine lv_iadd hx hb dX12_notes_24 ?_
    obtain ⟨l7_1, el7_1, hf⟩ := bL_e hf
    refine top_i el7_1 ?_
    refine lv_istore (lv' := [(7, .int l7_1), (0, .ref (za Z 0)), (1, .int a1), (2, .int a2), (3, .int a3), (4, .int a4), (5, .int a5), (6, .int a6)]) hx hb dX12_notes_25 hl (by decide) rfl (fun ls hl => ?_)
    refine lv_aload_n hx hb dX12_notes_27 rfl (lv_at hl 1 rfl) ?_
    refine gF G hw (m_this hZ) KX12 0 (k2 := 1) rfl (by decide) rfl fl_X12_7 dX12_notes_28 ?_
    refine lv_iload hx hb dX12_notes_31 (lv_at hl 0 rfl) ?_
    refine lv_aload_n hx hb dX12_notes_33 rfl (lv_at hl 1 rfl) ?_
    refine gF G hw (m_this hZ) KX12 0 (k2 := 1) rfl (by decide) rfl fl_X12_7 dX12_notes_34 ?_
    refine lv_bipush hx hb dX12_notes_37 kb_66 ?_
    refine aI G hw (m_w hZ) (vin_e (by decide)) (j := 66) (by decide) dX12_notes_39 ?_
    obtain ⟨hg1, hf⟩ := bG_e hf
    obtain ⟨S_2, eS_2, hf⟩ := bL_e hf
    refine sI G hw (m_w hZ) hg1 (j := l7_1.toNatClampNeg) rfl eS_2 dX12_notes_40 (fun H locs hw => ?_)
    refine lv_aload_n hx hb dX12_notes_41 rfl (lv_at hl 1 rfl) ?_
    refine gF G hw (m_this hZ) KX12 0 (k2 := 1) rfl (by decide) rfl fl_X12_7 dX12_notes_42 ?_
    refine lv_iload hx hb dX12_notes_45 (lv_at hl 0 rfl) ?_
    refine lv_iconst hx hb dX12_notes_47 ki_1 ?_
    refine lv_iadd hx hb dX12_notes_48 ?_
    refine lv_aload_n hx hb dX12_notes_49 rfl (lv_at hl 1 rfl) ?_
    refine gF G hw (m_this hZ) KX12 0 (k2 := 1) rfl (by decide) rfl fl_X12_7 dX12_notes_50 ?_
    refine lv_iconst hx hb dX12_notes_53 ki_0 ?_
    refine aI G hw (m_w hZ) (vin_e (by decide)) (j := 0) (by decide) dX12_notes_54 ?_
    obtain ⟨hg1, hf⟩ := bG_e hf
    obtain ⟨S_3, eS_3, hf⟩ := bL_e hf
    refine sI G hw (m_w hZ) hg1 (j := (l7_1 + 1).toNatClampNeg) rfl eS_3 dX12_notes_55 (fun H locs hw => ?_)
    refine lv_aload_n hx hb dX12_notes_56 rfl (lv_at hl 1 rfl) ?_
    refine gF G hw (m_this hZ) KX12 0 (k2 := 1) rfl (by decide) rfl fl_X12_7 dX12_notes_57 ?_
    refine lv_iload hx hb dX12_notes_60 (lv_at hl 0 rfl) ?_
    refine lv_iconst hx hb dX12_notes_62 ki_2 ?_
    refine lv_iadd hx hb dX12_notes_63 ?_
    refine lv_iload_n hx hb dX12_notes_64 rfl (lv_at hl 2 rfl) ?_
    obtain ⟨hg1, hf⟩ := bG_e hf
    obtain ⟨S_4, eS_4, hf⟩ := bL_e hf
    refine sI G hw (m_w hZ) hg1 (j := (l7_1 + 2).toNatClampNeg) rfl eS_4 dX12_notes_65 (fun H locs hw => ?_)
    refine lv_aload_n hx hb dX12_notes_66 rfl (lv_at hl 1 rfl) ?_
    refine gF G hw (m_this hZ) KX12 0 (k2 := 1) rfl (by decide) rfl fl_X12_7 dX12_notes_67 ?_
    refine lv_iload hx hb dX12_notes_70 (lv_at hl 0 rfl) ?_
    refine lv_iconst hx hb dX12_notes_72 ki_3 ?_
    refine lv_iadd hx hb dX12_notes_73 ?_
    refine lv_iload_n hx hb dX12_notes_74 rfl (lv_at hl 3 rfl) ?_
    obtain ⟨hg1, hf⟩ := bG_e hf
    obtain ⟨S_5, eS_5, hf⟩ := bL_e hf
    refine sI G hw (m_w hZ) hg1 (j := (l7_1 + 3).toNatClampNeg) rfl eS_5 dX12_notes_75 (fun H locs hw => ?_)
    refine lv_aload_n hx hb dX12_notes_76 rfl (lv_at hl 1 rfl) ?_
    refine gF G hw (m_this hZ) KX12 0 (k2 := 1) rfl (by decide) rfl fl_X12_7 dX12_notes_77 ?_
    refine lv_iload hx hb dX12_notes_80 (lv_at hl 0 rfl) ?_
    refine lv_iconst hx hb dX12_notes_82 ki_4 ?_
    refine lv_iadd hx hb dX12_notes_83 ?_
    refine lv_iload_n hx hb dX12_notes_84 rfl (lv_at hl 4 rfl) ?_
    obtain ⟨hg1, hf⟩ := bG_e hf
    obtain ⟨S_6, eS_6, hf⟩ := bL_e hf
    refine sI G hw (m_w hZ) hg1 (j := (l7_1 + 4).toNatClampNeg) rfl eS_6 dX12_notes_85 (fun H locs hw => ?_)
    refine lv_aload_n hx hb dX12_notes_86 rfl (lv_at hl 1 rfl) ?_
    refine gF G hw (m_this hZ) KX12 0 (k2 := 1) rfl (by decide) rfl fl_X12_7 dX12_notes_87 ?_
    refine lv_iload hx hb dX12_notes_90 (lv_at hl 0 rfl) ?_
    refine lv_iconst hx hb dX12_notes_92 ki_5 ?_
    refine lv_iadd hx hb dX12_notes_93 ?_
    refine lv_iload hx hb dX12_notes_94 (lv_at hl 5 rfl) ?_
    obtain ⟨hg1, hf⟩ := bG_e hf
    obtain ⟨S_7, eS_7, hf⟩ := bL_e hf
    refine sI G hw (m_w hZ) hg1 (j := (l7_1 + 5).toNatClampNeg) rfl eS_7 dX12_notes_96 (fun H locs hw => ?_)
    refine lv_aload_n hx hb dX12_notes_97 rfl (lv_at hl 1 rfl) ?_
    refine gF G hw (m_this hZ) KX12 0 (k2 := 1) rfl (by decide) rfl fl_X12_7 dX12_notes_98 ?_
    refine lv_iload hx hb dX12_notes_101 (lv_at hl 0 rfl) ?_
    refine lv_bipush hx hb dX12_notes_103 kb_6 ?_
    refine lv_iadd hx hb dX12_notes_105 ?_
    refine lv_iload hx hb dX12_notes_106 (lv_at hl 6 rfl) ?_
    obtain ⟨hg1, hf⟩ := bG_e hf
    obtain ⟨S_8, eS_8, hf⟩ := bL_e hf
    refine sI G hw (m_w hZ) hg1 (j := (l7_1 + 6).toNatClampNeg) rfl eS_8 dX12_notes_108 (fun H locs hw => ?_)
    refine lv_aload_n hx hb dX12_notes_109 rfl (lv_at hl 1 rfl) ?_
    refine gF G hw (m_this hZ) KX12 0 (k2 := 1) rfl (by decide) rfl fl_X12_7 dX12_notes_110 ?_
    refine lv_iload hx hb dX12_notes_113 (lv_at hl 0 rfl) ?_
    refine lv_bipush hx hb dX12_notes_115 kb_7 ?_
    refine lv_iadd hx hb dX12_notes_117 ?_
    refine lv_aload_n hx hb dX12_notes_118 rfl (lv_at hl 1 rfl) ?_
    refine gI G hw (m_this hZ) KX12 30 (by decide) rfl fl_X12_341 dX12_notes_119 ?_
    obtain ⟨hg1, hf⟩ := bG_e hf
    obtain ⟨S_9, eS_9, hf⟩ := bL_e hf
    refine sI G hw (m_w hZ) hg1 (j := (l7_1 + 7).toNatClampNeg) rfl eS_9 dX12_notes_122 (fun H locs hw => ?_)
    refine lv_aload_n hx hb dX12_notes_123 rfl (lv_at hl 1 rfl) ?_
    refine gF G hw (m_this hZ) KX12 0 (k2 := 1) rfl (by decide) rfl fl_X12_7 dX12_notes_124 ?_
    refine lv_iload hx hb dX12_notes_127 (lv_at hl 0 rfl) ?_
    refine lv_bipush hx hb dX12_notes_129 kb_8 ?_
    refine lv_iadd hx hb dX12_notes_131 ?_
    refine lv_iload hx hb dX12_notes_132 (lv_at hl 7 rfl) ?_
    obtain ⟨hg1, hf⟩ := bG_e hf
    obtain ⟨S_10, eS_10, hf⟩ := bL_e hf
    refine sI G hw (m_w hZ) hg1 (j := (l7_1 + 8).toNatClampNeg) rfl eS_10 dX12_notes_134 (fun H locs hw => ?_)
    refine lv_aload_n hx hb dX12_notes_135 rfl (lv_at hl 1 rfl) ?_
    refine gF G hw (m_this hZ) KX12 0 (k2 := 1) rfl (by decide) rfl fl_X12_7 dX12_notes_136 ?_
    refine lv_iconst hx hb dX12_notes_139 ki_2 ?_
    refine lv_dup2_11 hx hb dX12_notes_140 rfl rfl ?_
    refine aI G hw (m_w hZ) (vin_e (by decide)) (j := 2) (by decide) dX12_notes_141 ?_
    refine lv_iconst hx hb dX12_notes_142 ki_1 ?_
    refine lv_iadd hx hb dX12_notes_143 ?_
    obtain ⟨S_11, eS_11, hf⟩ := bL_e hf
    refine sI G hw (m_w hZ) (vin_e (by decide)) (j := 2) (by decide) eS_11 dX12_notes_144 (fun H locs hw => ?_)
    exact hret _ _ _ _ dX12_notes_145 (by rw [← (Option.some.inj hf)]; exact hw)
  · have hf := (if_pos c_12).symm.trans hf
    exact hret _ _ _ _ dX12_notes_11 (by rw [← (Option.some.inj hf)]; exact hw)
noncomputable def F12_throwsIt (S : pS) (a1 : Int32) (a2 : Int32) (a3 : Int32) (a4 : Int32) : Option (Int32 × pS) :=
  bL (S 1 1) fun l5_1 =>
  bB (F12_own S l5_1 0) fun r_2 =>
  bL (F12_lesser (a1 + a4) r_2) fun l6_3 =>
  bB (F12_own S l5_1 1) fun r_4 =>
  bB (F12_own S l5_1 3) fun r_5 =>
  bB (F12_armFacts S l5_1 l6_3 a4 a2 r_4 r_5) fun S_6 =>
  bB2 (F12_overOf S_6) fun r_7 S_8 =>
  bB2 (F12_wearOf S_8) fun r_9 S_10 =>
  bL (fun (t_11 : Int32) (S_12 : pS) =>
    bB (F12_weather S_12 3) fun r_13 =>
    bB2 (F12_slipped S_12 a2 r_13) fun r_14 S_15 =>
    bL (F12_held r_14 0 90) fun l10_16 =>
    bB (F12_weather S_15 0) fun r_17 =>
    bB (F12_weather S_15 2) fun r_18 =>
    bB2 (F12_slipped S_15 r_17 r_18) fun r_19 S_20 =>
    bB (F12_weather S_20 1) fun r_21 =>
    bB (F12_flies S_20 l6_3 l10_16 0 a3 r_19 r_21) fun S_22 =>
    bL (fun (t_23 : Int32) =>
      bB (F12_own S_22 l5_1 1) fun r_24 =>
      bB (F12_gives S_22 l5_1 1 (F12_lesser 1000 (r_24 + r_9))) fun S_25 =>
      bB (F12_own S_25 l5_1 3) fun r_26 =>
      bB (F12_gives S_25 l5_1 3 (r_26 + 1)) fun S_27 =>
      bL (fun (S_28 : pS) =>
        bB (F12_notes S_28 l5_1 a3 l6_3 l10_16 r_19 t_23) fun S_29 =>
        bL (F12_nextTurn S_29) fun S_30 =>
        some (t_23, S_30)) fun j242 =>
      if t_23 = 0 then
        bB (F12_own S_27 l5_1 2) fun r_31 =>
        bB (F12_gives S_27 l5_1 2 (F12_greater r_31 (S_27 0 30))) fun S_32 =>
        j242 S_32
      else
        j242 S_27) fun j175 =>
    if t_11 = 0 then
      if (F12_landed S_22) = 0 then
        bB (F12_isInSector S_22) fun r_34 =>
        if r_34 = 0 then
          j175 4
        else
          j175 0
      else
        j175 ((2 + (F12_landed S_22)) - 1)
    else
      j175 1) fun j83 =>
  bL (fun (S_38 : pS) =>
    j83 0 S_38) fun j82 =>
  if r_7 ≤ 0 then
    j82 S_10
  else
    bB2 (F12_draw S_10 1000) fun r_39 S_40 =>
    if r_7 ≤ r_39 then
      j82 S_40
    else
      j83 1 S_40
set_option maxRecDepth 100000 in
set_option maxHeartbeats 4000000 in
theorem wX12_throwsIt {l : Launch} {Z : pZ}  (hZ : CM Z) (S : pS) (a1 : Int32) (a2 : Int32) (a3 : Int32) (a4 : Int32) (r : Int32) (S2 : pS)  (hf : F12_throwsIt S a1 a2 a3 a4 = some (r, S2)) : CI l Z yX12_throwsIt cX12_throwsIt 13 .int 8 183 [.ref (za Z 0), .int a1, .int a2, .int a3, .int a4] S r S2 := by
  unfold F12_throwsIt at hf
  refine eI (own := RX12) (by decide) rfl (Nat.le_of_ble_eq_true rfl) (fun p e s m args below meth c Q ls G hl hw hret => ?_)
  obtain ⟨hx, hb, hml, hown, hts⟩ := G.1
  have hl : lv_has ls 13 [(0, .ref (za Z 0)), (1, .int a1), (2, .int a2), (3, .int a3), (4, .int a4)] := hl
  refine lv_aload_n hx hb dX12_throwsIt_0 rfl (lv_at hl 0 rfl) ?_
  refine gF G hw (m_this hZ) KX12 0 (k2 := 1) rfl (by decide) rfl fl_X12_7 dX12_throwsIt_1 ?_
  refine lv_iconst hx hb dX12_throwsIt_4 ki_1 ?_
  refine aI G hw (m_w hZ) (vin_e (by decide)) (j := 1) (by decide) dX12_throwsIt_5 ?_
  obtain ⟨l5_1, el5_1, hf⟩ := bL_e hf
  refine top_i el5_1 ?_
  refine lv_istore (lv' := [(5, .int l5_1), (0, .ref (za Z 0)), (1, .int a1), (2, .int a2), (3, .int a3), (4, .int a4)]) hx hb dX12_throwsIt_6 hl (by decide) rfl (fun ls hl => ?_)
  refine lv_iload_n hx hb dX12_throwsIt_8 rfl (lv_at hl 2 rfl) ?_
  refine lv_iload hx hb dX12_throwsIt_9 (lv_at hl 5 rfl) ?_
  refine lv_iadd hx hb dX12_throwsIt_11 ?_
  refine lv_aload_n hx hb dX12_throwsIt_12 rfl (lv_at hl 1 rfl) ?_
  refine lv_iload hx hb dX12_throwsIt_13 (lv_at hl 0 rfl) ?_
  refine lv_iconst hx hb dX12_throwsIt_15 ki_0 ?_
  obtain ⟨r_2, hr_2, hf⟩ := bB_e hf
  refine kVi (rest := [.int (a1 + a4)]) G hw (wX12_own hZ S l5_1 0 r_2 hr_2) cw_X12_324 (m_this hZ) KX12 ⟨Nat.le_of_ble_eq_true rfl, Nat.le_of_ble_eq_true rfl⟩ rfl hl.1 rfl (Nat.le_of_ble_eq_true rfl) ⟨Nat.le_refl _, Nat.le_refl _⟩ dX12_throwsIt_16 (fun H locs hw => ?_)
  refine kSi (rest := []) G hw (wX12_lesser hZ S (a1 + a4) r_2 (F12_lesser (a1 + a4) r_2) rfl) cw_X12_64 ⟨Nat.le_of_ble_eq_true rfl, Nat.le_of_ble_eq_true rfl⟩ rfl hl.1 rfl (Nat.le_of_ble_eq_true rfl) ⟨Nat.le_refl _, Nat.le_refl _⟩ dX12_throwsIt_19 (fun H locs hw => ?_)
  obtain ⟨l6_3, el6_3, hf⟩ := bL_e hf
  refine top_i el6_3 ?_
  refine lv_istore (lv' := [(6, .int l6_3), (5, .int l5_1), (0, .ref (za Z 0)), (1, .int a1), (2, .int a2), (3, .int a3), (4, .int a4)]) hx hb dX12_throwsIt_22 hl (by decide) rfl (fun ls hl => ?_)
  refine lv_aload_n hx hb dX12_throwsIt_24 rfl (lv_at hl 2 rfl) ?_
  refine lv_iload hx hb dX12_throwsIt_25 (lv_at hl 1 rfl) ?_
  refine lv_iload hx hb dX12_throwsIt_27 (lv_at hl 0 rfl) ?_
  refine lv_iload hx hb dX12_throwsIt_29 (lv_at hl 6 rfl) ?_
  refine lv_iload_n hx hb dX12_throwsIt_31 rfl (lv_at hl 4 rfl) ?_
  refine lv_aload_n hx hb dX12_throwsIt_32 rfl (lv_at hl 2 rfl) ?_
  refine lv_iload hx hb dX12_throwsIt_33 (lv_at hl 1 rfl) ?_
  refine lv_iconst hx hb dX12_throwsIt_35 ki_1 ?_
  obtain ⟨r_4, hr_4, hf⟩ := bB_e hf
  refine kVi (rest := [.int a2, .int a4, .int l6_3, .int l5_1, .ref (za Z 0)]) G hw (wX12_own hZ S l5_1 1 r_4 hr_4) cw_X12_324 (m_this hZ) KX12 ⟨Nat.le_of_ble_eq_true rfl, Nat.le_of_ble_eq_true rfl⟩ rfl hl.1 rfl (Nat.le_of_ble_eq_true rfl) ⟨Nat.le_refl _, Nat.le_refl _⟩ dX12_throwsIt_36 (fun H locs hw => ?_)
  refine lv_aload_n hx hb dX12_throwsIt_39 rfl (lv_at hl 2 rfl) ?_
  refine lv_iload hx hb dX12_throwsIt_40 (lv_at hl 1 rfl) ?_
  refine lv_iconst hx hb dX12_throwsIt_42 ki_3 ?_
  obtain ⟨r_5, hr_5, hf⟩ := bB_e hf
  refine kVi (rest := [.int r_4, .int a2, .int a4, .int l6_3, .int l5_1, .ref (za Z 0)]) G hw (wX12_own hZ S l5_1 3 r_5 hr_5) cw_X12_324 (m_this hZ) KX12 ⟨Nat.le_of_ble_eq_true rfl, Nat.le_of_ble_eq_true rfl⟩ rfl hl.1 rfl (Nat.le_of_ble_eq_true rfl) ⟨Nat.le_refl _, Nat.le_refl _⟩ dX12_throwsIt_43 (fun H locs hw => ?_)
  obtain ⟨S_6, hS_6, hf⟩ := bB_e hf
  refine kVv (rest := []) G hw (wX12_armFacts hZ S l5_1 l6_3 a4 a2 r_4 r_5 S_6 hS_6) cw_X12_376 (m_this hZ) KX12 ⟨Nat.le_of_ble_eq_true rfl, Nat.le_of_ble_eq_true rfl⟩ rfl hl.1 rfl (Nat.le_of_ble_eq_true rfl) ⟨Nat.le_refl _, Nat.le_refl _⟩ dX12_throwsIt_46 (fun H locs hw => ?_)
  refine lv_aload_n hx hb dX12_throwsIt_49 rfl (lv_at hl 2 rfl) ?_
  obtain ⟨r_7, S_8, hr_7, hf⟩ := bB2_e hf
  refine kVi (rest := []) G hw (wX12_overOf hZ S_6 r_7 S_8 hr_7) cw_X12_380 (m_this hZ) KX12 ⟨Nat.le_of_ble_eq_true rfl, Nat.le_of_ble_eq_true rfl⟩ rfl hl.1 rfl (Nat.le_of_ble_eq_true rfl) ⟨Nat.le_refl _, Nat.le_refl _⟩ dX12_throwsIt_50 (fun H locs hw => ?_)
  refine lv_istore (lv' := [(7, .int r_7), (6, .int l6_3), (5, .int l5_1), (0, .ref (za Z 0)), (1, .int a1), (2, .int a2), (3, .int a3), (4, .int a4)]) hx hb dX12_throwsIt_53 hl (by decide) rfl (fun ls hl => ?_)
  refine lv_aload_n hx hb dX12_throwsIt_55 rfl (lv_at hl 3 rfl) ?_
  obtain ⟨r_9, S_10, hr_9, hf⟩ := bB2_e hf
  refine kVi (rest := []) G hw (wX12_wearOf hZ S_8 r_9 S_10 hr_9) cw_X12_383 (m_this hZ) KX12 ⟨Nat.le_of_ble_eq_true rfl, Nat.le_of_ble_eq_true rfl⟩ rfl hl.1 rfl (Nat.le_of_ble_eq_true rfl) ⟨Nat.le_refl _, Nat.le_refl _⟩ dX12_throwsIt_56 (fun H locs hw => ?_)
  refine lv_istore (lv' := [(8, .int r_9), (7, .int r_7), (6, .int l6_3), (5, .int l5_1), (0, .ref (za Z 0)), (1, .int a1), (2, .int a2), (3, .int a3), (4, .int a4)]) hx hb dX12_throwsIt_59 hl (by decide) rfl (fun ls hl => ?_)
  refine lv_iload hx hb dX12_throwsIt_61 (lv_at hl 1 rfl) ?_
  obtain ⟨j83, ej, hf⟩ := bL_e hf
  have R83 : ∀ (t_11 : Int32) (S_12 : pS) (H : Heap) (locs : List Loc) (ls : Array Slot), Wd Z s S_12 H locs → lv_has ls 13 [(0, .ref (za Z 0)), (2, .int a2), (3, .int a3), (5, .int l5_1), (6, .int l6_3), (8, .int r_9)] → j83 t_11 S_12 = some (r, S2) → W p l e { frames := 8, cells := 0, slots := 0, locals := 183 } s m args below meth c H locs 0 0 Q (F0 m 83 ls [.int t_11]) := by
    intro t_11 S_12 H locs ls hw hl hf
    have hf := (congrFun (congrFun ej t_11) S_12).symm.trans hf
    refine lv_istore (lv' := [(9, .int t_11), (0, .ref (za Z 0)), (2, .int a2), (3, .int a3), (5, .int l5_1), (6, .int l6_3), (8, .int r_9)]) hx hb dX12_throwsIt_83 hl (by decide) rfl (fun ls hl => ?_)
    refine lv_aload_n hx hb dX12_throwsIt_85 rfl (lv_at hl 1 rfl) ?_
    refine lv_iload_n hx hb dX12_throwsIt_86 rfl (lv_at hl 2 rfl) ?_
    refine lv_aload_n hx hb dX12_throwsIt_87 rfl (lv_at hl 1 rfl) ?_
    refine lv_iconst hx hb dX12_throwsIt_88 ki_3 ?_
    obtain ⟨r_13, hr_13, hf⟩ := bB_e hf
    refine kVi (rest := [.int a2, .ref (za Z 0)]) G hw (wX12_weather hZ S_12 3 r_13 hr_13) cw_X12_364 (m_this hZ) KX12 ⟨Nat.le_of_ble_eq_true rfl, Nat.le_of_ble_eq_true rfl⟩ rfl hl.1 rfl (Nat.le_of_ble_eq_true rfl) ⟨Nat.le_refl _, Nat.le_refl _⟩ dX12_throwsIt_89 (fun H locs hw => ?_)
    obtain ⟨r_14, S_15, hr_14, hf⟩ := bB2_e hf
    refine kVi (rest := []) G hw (wX12_slipped hZ S_12 a2 r_13 r_14 S_15 hr_14) cw_X12_386 (m_this hZ) KX12 ⟨Nat.le_of_ble_eq_true rfl, Nat.le_of_ble_eq_true rfl⟩ rfl hl.1 rfl (Nat.le_of_ble_eq_true rfl) ⟨Nat.le_refl _, Nat.le_refl _⟩ dX12_throwsIt_92 (fun H locs hw => ?_)
    refine lv_iconst hx hb dX12_throwsIt_95 ki_0 ?_
    refine lv_bipush hx hb dX12_throwsIt_96 kb_90 ?_
    refine kSi (rest := []) G hw (wX12_held hZ S_15 r_14 0 90 (F12_held r_14 0 90) rfl) cw_X12_321 ⟨Nat.le_of_ble_eq_true rfl, Nat.le_of_ble_eq_true rfl⟩ rfl hl.1 rfl (Nat.le_of_ble_eq_true rfl) ⟨Nat.le_refl _, Nat.le_refl _⟩ dX12_throwsIt_98 (fun H locs hw => ?_)
    obtain ⟨l10_16, el10_16, hf⟩ := bL_e hf
    refine top_i el10_16 ?_
    refine lv_istore (lv' := [(10, .int l10_16), (9, .int t_11), (0, .ref (za Z 0)), (2, .int a2), (3, .int a3), (5, .int l5_1), (6, .int l6_3), (8, .int r_9)]) hx hb dX12_throwsIt_101 hl (by decide) rfl (fun ls hl => ?_)
    refine lv_aload_n hx hb dX12_throwsIt_103 rfl (lv_at hl 2 rfl) ?_
    refine lv_aload_n hx hb dX12_throwsIt_104 rfl (lv_at hl 2 rfl) ?_
    refine lv_iconst hx hb dX12_throwsIt_105 ki_0 ?_
    obtain ⟨r_17, hr_17, hf⟩ := bB_e hf
    refine kVi (rest := [.ref (za Z 0)]) G hw (wX12_weather hZ S_15 0 r_17 hr_17) cw_X12_364 (m_this hZ) KX12 ⟨Nat.le_of_ble_eq_true rfl, Nat.le_of_ble_eq_true rfl⟩ rfl hl.1 rfl (Nat.le_of_ble_eq_true rfl) ⟨Nat.le_refl _, Nat.le_refl _⟩ dX12_throwsIt_106 (fun H locs hw => ?_)
    refine lv_aload_n hx hb dX12_throwsIt_109 rfl (lv_at hl 2 rfl) ?_
    refine lv_iconst hx hb dX12_throwsIt_110 ki_2 ?_
    obtain ⟨r_18, hr_18, hf⟩ := bB_e hf
    refine kVi (rest := [.int r_17, .ref (za Z 0)]) G hw (wX12_weather hZ S_15 2 r_18 hr_18) cw_X12_364 (m_this hZ) KX12 ⟨Nat.le_of_ble_eq_true rfl, Nat.le_of_ble_eq_true rfl⟩ rfl hl.1 rfl (Nat.le_of_ble_eq_true rfl) ⟨Nat.le_refl _, Nat.le_refl _⟩ dX12_throwsIt_111 (fun H locs hw => ?_)
    obtain ⟨r_19, S_20, hr_19, hf⟩ := bB2_e hf
    refine kVi (rest := []) G hw (wX12_slipped hZ S_15 r_17 r_18 r_19 S_20 hr_19) cw_X12_386 (m_this hZ) KX12 ⟨Nat.le_of_ble_eq_true rfl, Nat.le_of_ble_eq_true rfl⟩ rfl hl.1 rfl (Nat.le_of_ble_eq_true rfl) ⟨Nat.le_refl _, Nat.le_refl _⟩ dX12_throwsIt_114 (fun H locs hw => ?_)
    refine lv_istore (lv' := [(11, .int r_19), (10, .int l10_16), (9, .int t_11), (0, .ref (za Z 0)), (2, .int a2), (3, .int a3), (5, .int l5_1), (6, .int l6_3), (8, .int r_9)]) hx hb dX12_throwsIt_117 hl (by decide) rfl (fun ls hl => ?_)
    refine lv_aload_n hx hb dX12_throwsIt_119 rfl (lv_at hl 3 rfl) ?_
    refine lv_iload hx hb dX12_throwsIt_120 (lv_at hl 7 rfl) ?_
    refine lv_iload hx hb dX12_throwsIt_122 (lv_at hl 1 rfl) ?_
    refine lv_iconst hx hb dX12_throwsIt_124 ki_0 ?_
    refine lv_iload_n hx hb dX12_throwsIt_125 rfl (lv_at hl 5 rfl) ?_
    refine lv_iload hx hb dX12_throwsIt_126 (lv_at hl 0 rfl) ?_
    refine lv_aload_n hx hb dX12_throwsIt_128 rfl (lv_at hl 3 rfl) ?_
    refine lv_iconst hx hb dX12_throwsIt_129 ki_1 ?_
    obtain ⟨r_21, hr_21, hf⟩ := bB_e hf
    refine kVi (rest := [.int r_19, .int a3, .int 0, .int l10_16, .int l6_3, .ref (za Z 0)]) G hw (wX12_weather hZ S_20 1 r_21 hr_21) cw_X12_364 (m_this hZ) KX12 ⟨Nat.le_of_ble_eq_true rfl, Nat.le_of_ble_eq_true rfl⟩ rfl hl.1 rfl (Nat.le_of_ble_eq_true rfl) ⟨Nat.le_refl _, Nat.le_refl _⟩ dX12_throwsIt_130 (fun H locs hw => ?_)
    obtain ⟨S_22, hS_22, hf⟩ := bB_e hf
    refine kVv (rest := []) G hw (wX12_flies hZ S_20 l6_3 l10_16 0 a3 r_19 r_21 S_22 hS_22) cw_X12_389 (m_this hZ) KX12 ⟨Nat.le_of_ble_eq_true rfl, Nat.le_of_ble_eq_true rfl⟩ rfl hl.1 rfl (Nat.le_of_ble_eq_true rfl) ⟨Nat.le_refl _, Nat.le_refl _⟩ dX12_throwsIt_133 (fun H locs hw => ?_)
    refine lv_iload hx hb dX12_throwsIt_136 (lv_at hl 2 rfl) ?_
    obtain ⟨j175, ej, hf⟩ := bL_e hf
    have R175 : ∀ (t_23 : Int32) (H : Heap) (locs : List Loc) (ls : Array Slot), Wd Z s S_22 H locs → lv_has ls 13 [(0, .ref (za Z 0)), (3, .int a3), (5, .int l5_1), (6, .int l6_3), (8, .int r_9), (10, .int l10_16), (11, .int r_19)] → j175 t_23 = some (r, S2) → W p l e { frames := 8, cells := 0, slots := 0, locals := 183 } s m args below meth c H locs 0 0 Q (F0 m 175 ls [.int t_23]) := by
      intro t_23 H locs ls hw hl hf
      have hf := (congrFun ej t_23).symm.trans hf
      refine lv_istore (lv' := [(12, .int t_23), (0, .ref (za Z 0)), (3, .int a3), (5, .int l5_1), (6, .int l6_3), (8, .int r_9), (10, .int l10_16), (11, .int r_19)]) hx hb dX12_throwsIt_175 hl (by decide) rfl (fun ls hl => ?_)
      refine lv_aload_n hx hb dX12_throwsIt_177 rfl (lv_at hl 1 rfl) ?_
      refine lv_iload hx hb dX12_throwsIt_178 (lv_at hl 3 rfl) ?_
      refine lv_iconst hx hb dX12_throwsIt_180 ki_1 ?_
      refine lv_sipush hx hb dX12_throwsIt_181 ks_1000 ?_
      refine lv_aload_n hx hb dX12_throwsIt_184 rfl (lv_at hl 1 rfl) ?_
      refine lv_iload hx hb dX12_throwsIt_185 (lv_at hl 3 rfl) ?_
      refine lv_iconst hx hb dX12_throwsIt_187 ki_1 ?_
      obtain ⟨r_24, hr_24, hf⟩ := bB_e hf
      refine kVi (rest := [.int 1000, .int 1, .int l5_1, .ref (za Z 0)]) G hw (wX12_own hZ S_22 l5_1 1 r_24 hr_24) cw_X12_324 (m_this hZ) KX12 ⟨Nat.le_of_ble_eq_true rfl, Nat.le_of_ble_eq_true rfl⟩ rfl hl.1 rfl (Nat.le_of_ble_eq_true rfl) ⟨Nat.le_refl _, Nat.le_refl _⟩ dX12_throwsIt_188 (fun H locs hw => ?_)
      refine lv_iload hx hb dX12_throwsIt_191 (lv_at hl 5 rfl) ?_
      refine lv_iadd hx hb dX12_throwsIt_193 ?_
      refine kSi (rest := [.int 1, .int l5_1, .ref (za Z 0)]) G hw (wX12_lesser hZ S_22 1000 (r_24 + r_9) (F12_lesser 1000 (r_24 + r_9)) rfl) cw_X12_64 ⟨Nat.le_of_ble_eq_true rfl, Nat.le_of_ble_eq_true rfl⟩ rfl hl.1 rfl (Nat.le_of_ble_eq_true rfl) ⟨Nat.le_refl _, Nat.le_refl _⟩ dX12_throwsIt_194 (fun H locs hw => ?_)
      obtain ⟨S_25, hS_25, hf⟩ := bB_e hf
      refine kVv (rest := []) G hw (wX12_gives hZ S_22 l5_1 1 (F12_lesser 1000 (r_24 + r_9)) S_25 hS_25) cw_X12_83 (m_this hZ) KX12 ⟨Nat.le_of_ble_eq_true rfl, Nat.le_of_ble_eq_true rfl⟩ rfl hl.1 rfl (Nat.le_of_ble_eq_true rfl) ⟨Nat.le_refl _, Nat.le_refl _⟩ dX12_throwsIt_197 (fun H locs hw => ?_)
      refine lv_aload_n hx hb dX12_throwsIt_200 rfl (lv_at hl 1 rfl) ?_
      refine lv_iload hx hb dX12_throwsIt_201 (lv_at hl 3 rfl) ?_
      refine lv_iconst hx hb dX12_throwsIt_203 ki_3 ?_
      refine lv_aload_n hx hb dX12_throwsIt_204 rfl (lv_at hl 1 rfl) ?_
      refine lv_iload hx hb dX12_throwsIt_205 (lv_at hl 3 rfl) ?_
      refine lv_iconst hx hb dX12_throwsIt_207 ki_3 ?_
      obtain ⟨r_26, hr_26, hf⟩ := bB_e hf
      refine kVi (rest := [.int 3, .int l5_1, .ref (za Z 0)]) G hw (wX12_own hZ S_25 l5_1 3 r_26 hr_26) cw_X12_324 (m_this hZ) KX12 ⟨Nat.le_of_ble_eq_true rfl, Nat.le_of_ble_eq_true rfl⟩ rfl hl.1 rfl (Nat.le_of_ble_eq_true rfl) ⟨Nat.le_refl _, Nat.le_refl _⟩ dX12_throwsIt_208 (fun H locs hw => ?_)
      refine lv_iconst hx hb dX12_throwsIt_211 ki_1 ?_
      refine lv_iadd hx hb dX12_throwsIt_212 ?_
      obtain ⟨S_27, hS_27, hf⟩ := bB_e hf
      refine kVv (rest := []) G hw (wX12_gives hZ S_25 l5_1 3 (r_26 + 1) S_27 hS_27) cw_X12_83 (m_this hZ) KX12 ⟨Nat.le_of_ble_eq_true rfl, Nat.le_of_ble_eq_true rfl⟩ rfl hl.1 rfl (Nat.le_of_ble_eq_true rfl) ⟨Nat.le_refl _, Nat.le_refl _⟩ dX12_throwsIt_213 (fun H locs hw => ?_)
      refine lv_iload hx hb dX12_throwsIt_216 (lv_at hl 0 rfl) ?_
      obtain ⟨j242, ej, hf⟩ := bL_e hf
      have R242 : ∀ (S_28 : pS) (H : Heap) (locs : List Loc) (ls : Array Slot), Wd Z s S_28 H locs → lv_has ls 13 [(0, .ref (za Z 0)), (3, .int a3), (5, .int l5_1), (6, .int l6_3), (10, .int l10_16), (11, .int r_19), (12, .int t_23)] → j242 S_28 = some (r, S2) → W p l e { frames := 8, cells := 0, slots := 0, locals := 183 } s m args below meth c H locs 0 0 Q (F0 m 242 ls []) := by
        intro S_28 H locs ls hw hl hf
        have hf := (congrFun ej S_28).symm.trans hf
        refine lv_aload_n hx hb dX12_throwsIt_242 rfl (lv_at hl 0 rfl) ?_
        refine lv_iload hx hb dX12_throwsIt_243 (lv_at hl 2 rfl) ?_
        refine lv_iload_n hx hb dX12_throwsIt_245 rfl (lv_at hl 1 rfl) ?_
        refine lv_iload hx hb dX12_throwsIt_246 (lv_at hl 3 rfl) ?_
        refine lv_iload hx hb dX12_throwsIt_248 (lv_at hl 4 rfl) ?_
        refine lv_iload hx hb dX12_throwsIt_250 (lv_at hl 5 rfl) ?_
        refine lv_iload hx hb dX12_throwsIt_252 (lv_at hl 6 rfl) ?_
        obtain ⟨S_29, hS_29, hf⟩ := bB_e hf
        refine kVv (rest := []) G hw (wX12_notes hZ S_28 l5_1 a3 l6_3 l10_16 r_19 t_23 S_29 hS_29) cw_X12_392 (m_this hZ) KX12 ⟨Nat.le_of_ble_eq_true rfl, Nat.le_of_ble_eq_true rfl⟩ rfl hl.1 rfl (Nat.le_of_ble_eq_true rfl) ⟨Nat.le_refl _, Nat.le_refl _⟩ dX12_throwsIt_254 (fun H locs hw => ?_)
        refine lv_aload_n hx hb dX12_throwsIt_257 rfl (lv_at hl 0 rfl) ?_
        obtain ⟨S_30, hS_30, hf⟩ := bL_e hf
        refine kVv (rest := []) G hw (wX12_nextTurn hZ S_29 S_30 hS_30.symm) cw_X12_395 (m_this hZ) KX12 ⟨Nat.le_of_ble_eq_true rfl, Nat.le_of_ble_eq_true rfl⟩ rfl hl.1 rfl (Nat.le_of_ble_eq_true rfl) ⟨Nat.le_refl _, Nat.le_refl _⟩ dX12_throwsIt_258 (fun H locs hw => ?_)
        refine lv_iload hx hb dX12_throwsIt_261 (lv_at hl 6 rfl) ?_
        obtain ⟨e1, e2⟩ := Prod.mk.inj (Option.some.inj hf)
        exact hret _ _ _ _ _ dX12_throwsIt_263 e1 (by rw [← e2]; exact hw)
      clear ej
      refine lv_if_ne (tgt := 242) hx hb dX12_throwsIt_218 (by decide) (fun c_33 => ?_) (fun c_33 => ?_)
      · have hf := (if_neg c_33).symm.trans hf
        exact R242 _ _ _ _ hw (lv_sub hl [1, 2, 3, 4, 6, 7, 0] rfl) hf
      · have hf := (if_pos c_33).symm.trans hf
        refine lv_aload_n hx hb dX12_throwsIt_221 rfl (lv_at hl 1 rfl) ?_
        refine lv_iload hx hb dX12_throwsIt_222 (lv_at hl 3 rfl) ?_
        refine lv_iconst hx hb dX12_throwsIt_224 ki_2 ?_
        refine lv_aload_n hx hb dX12_throwsIt_225 rfl (lv_at hl 1 rfl) ?_
        refine lv_iload hx hb dX12_throwsIt_226 (lv_at hl 3 rfl) ?_
        refine lv_iconst hx hb dX12_throwsIt_228 ki_2 ?_
        obtain ⟨r_31, hr_31, hf⟩ := bB_e hf
        refine kVi (rest := [.int 2, .int l5_1, .ref (za Z 0)]) G hw (wX12_own hZ S_27 l5_1 2 r_31 hr_31) cw_X12_324 (m_this hZ) KX12 ⟨Nat.le_of_ble_eq_true rfl, Nat.le_of_ble_eq_true rfl⟩ rfl hl.1 rfl (Nat.le_of_ble_eq_true rfl) ⟨Nat.le_refl _, Nat.le_refl _⟩ dX12_throwsIt_229 (fun H locs hw => ?_)
        refine lv_aload_n hx hb dX12_throwsIt_232 rfl (lv_at hl 1 rfl) ?_
        refine gI G hw (m_this hZ) KX12 30 (by decide) rfl fl_X12_341 dX12_throwsIt_233 ?_
        refine kSi (rest := [.int 2, .int l5_1, .ref (za Z 0)]) G hw (wX12_greater hZ S_27 r_31 (S_27 0 30) (F12_greater r_31 (S_27 0 30)) rfl) cw_X12_68 ⟨Nat.le_of_ble_eq_true rfl, Nat.le_of_ble_eq_true rfl⟩ rfl hl.1 rfl (Nat.le_of_ble_eq_true rfl) ⟨Nat.le_refl _, Nat.le_refl _⟩ dX12_throwsIt_236 (fun H locs hw => ?_)
        obtain ⟨S_32, hS_32, hf⟩ := bB_e hf
        refine kVv (rest := []) G hw (wX12_gives hZ S_27 l5_1 2 (F12_greater r_31 (S_27 0 30)) S_32 hS_32) cw_X12_83 (m_this hZ) KX12 ⟨Nat.le_of_ble_eq_true rfl, Nat.le_of_ble_eq_true rfl⟩ rfl hl.1 rfl (Nat.le_of_ble_eq_true rfl) ⟨Nat.le_refl _, Nat.le_refl _⟩ dX12_throwsIt_239 (fun H locs hw => ?_)
        exact R242 _ _ _ _ hw (lv_sub hl [1, 2, 3, 4, 6, 7, 0] rfl) hf
    clear ej
    refine lv_if_eq (tgt := 145) hx hb dX12_throwsIt_138 (by decide) (fun c_37 => ?_) (fun c_37 => ?_)
    · have hf := (if_pos c_37).symm.trans hf
      refine lv_aload_n hx hb dX12_throwsIt_145 rfl (lv_at hl 3 rfl) ?_
      refine kVi (rest := []) G hw (wX12_landed hZ S_22 (F12_landed S_22) rfl) cw_X12_367 (m_this hZ) KX12 ⟨Nat.le_of_ble_eq_true rfl, Nat.le_of_ble_eq_true rfl⟩ rfl hl.1 rfl (Nat.le_of_ble_eq_true rfl) ⟨Nat.le_refl _, Nat.le_refl _⟩ dX12_throwsIt_146 (fun H locs hw => ?_)
      refine lv_if_eq (tgt := 163) hx hb dX12_throwsIt_149 (by decide) (fun c_36 => ?_) (fun c_36 => ?_)
      · have hf := (if_pos c_36).symm.trans hf
        refine lv_aload_n hx hb dX12_throwsIt_163 rfl (lv_at hl 3 rfl) ?_
        obtain ⟨r_34, hr_34, hf⟩ := bB_e hf
        refine kVi (rest := []) G hw (wX12_isInSector hZ S_22 r_34 hr_34) cw_X12_370 (m_this hZ) KX12 ⟨Nat.le_of_ble_eq_true rfl, Nat.le_of_ble_eq_true rfl⟩ rfl hl.1 rfl (Nat.le_of_ble_eq_true rfl) ⟨Nat.le_refl _, Nat.le_refl _⟩ dX12_throwsIt_164 (fun H locs hw => ?_)
        refine lv_if_eq (tgt := 174) hx hb dX12_throwsIt_167 (by decide) (fun c_35 => ?_) (fun c_35 => ?_)
        · have hf := (if_pos c_35).symm.trans hf
          refine lv_iconst hx hb dX12_throwsIt_174 ki_4 ?_
          exact R175 _ _ _ _ hw (lv_sub hl [3, 5, 6, 7, 8, 1, 0] rfl) hf
        · have hf := (if_neg c_35).symm.trans hf
          refine lv_iconst hx hb dX12_throwsIt_170 ki_0 ?_
          refine lv_goto (tgt := 175) hx hb dX12_throwsIt_171 (by decide) ?_
          exact R175 _ _ _ _ hw (lv_sub hl [3, 5, 6, 7, 8, 1, 0] rfl) hf
      · have hf := (if_neg c_36).symm.trans hf
        refine lv_iconst hx hb dX12_throwsIt_152 ki_2 ?_
        refine lv_aload_n hx hb dX12_throwsIt_153 rfl (lv_at hl 3 rfl) ?_
        refine kVi (rest := [.int 2]) G hw (wX12_landed hZ S_22 (F12_landed S_22) rfl) cw_X12_367 (m_this hZ) KX12 ⟨Nat.le_of_ble_eq_true rfl, Nat.le_of_ble_eq_true rfl⟩ rfl hl.1 rfl (Nat.le_of_ble_eq_true rfl) ⟨Nat.le_refl _, Nat.le_refl _⟩ dX12_throwsIt_154 (fun H locs hw => ?_)
        refine lv_iadd hx hb dX12_throwsIt_157 ?_
        refine lv_iconst hx hb dX12_throwsIt_158 ki_1 ?_
        refine lv_isub hx hb dX12_throwsIt_159 ?_
        refine lv_goto (tgt := 175) hx hb dX12_throwsIt_160 (by decide) ?_
        exact R175 _ _ _ _ hw (lv_sub hl [3, 5, 6, 7, 8, 1, 0] rfl) hf
    · have hf := (if_neg c_37).symm.trans hf
      refine lv_iconst hx hb dX12_throwsIt_141 ki_1 ?_
      refine lv_goto (tgt := 175) hx hb dX12_throwsIt_142 (by decide) ?_
      exact R175 _ _ _ _ hw (lv_sub hl [3, 5, 6, 7, 8, 1, 0] rfl) hf
  clear ej
  obtain ⟨j82, ej, hf⟩ := bL_e hf
  have R82 : ∀ (S_38 : pS) (H : Heap) (locs : List Loc) (ls : Array Slot), Wd Z s S_38 H locs → lv_has ls 13 [(0, .ref (za Z 0)), (2, .int a2), (3, .int a3), (5, .int l5_1), (6, .int l6_3), (8, .int r_9)] → j82 S_38 = some (r, S2) → W p l e { frames := 8, cells := 0, slots := 0, locals := 183 } s m args below meth c H locs 0 0 Q (F0 m 82 ls []) := by
    intro S_38 H locs ls hw hl hf
    have hf := (congrFun ej S_38).symm.trans hf
    refine lv_iconst hx hb dX12_throwsIt_82 ki_0 ?_
    exact R83 _ _ _ _ _ hw (lv_sub hl [0, 1, 2, 3, 4, 5] rfl) hf
  clear ej
  refine lv_if_le (tgt := 82) hx hb dX12_throwsIt_63 (by decide) (fun c_42 => ?_) (fun c_42 => ?_)
  · have hf := (if_pos c_42).symm.trans hf
    exact R82 _ _ _ _ hw (lv_sub hl [4, 6, 7, 3, 2, 0] rfl) hf
  · have hf := (if_neg c_42).symm.trans hf
    refine lv_aload_n hx hb dX12_throwsIt_66 rfl (lv_at hl 4 rfl) ?_
    refine lv_sipush hx hb dX12_throwsIt_67 ks_1000 ?_
    obtain ⟨r_39, S_40, hr_39, hf⟩ := bB2_e hf
    refine kVi (rest := []) G hw (wX12_draw hZ S_10 1000 r_39 S_40 hr_39) cw_X12_373 (m_this hZ) KX12 ⟨Nat.le_of_ble_eq_true rfl, Nat.le_of_ble_eq_true rfl⟩ rfl hl.1 rfl (Nat.le_of_ble_eq_true rfl) ⟨Nat.le_refl _, Nat.le_refl _⟩ dX12_throwsIt_70 (fun H locs hw => ?_)
    refine lv_iload hx hb dX12_throwsIt_73 (lv_at hl 1 rfl) ?_
    refine lv_icmp_ge (tgt := 82) hx hb dX12_throwsIt_75 (by decide) (fun c_41 => ?_) (fun c_41 => ?_)
    · have hf := (if_pos c_41).symm.trans hf
      exact R82 _ _ _ _ hw (lv_sub hl [4, 6, 7, 3, 2, 0] rfl) hf
    · have hf := (if_neg c_41).symm.trans hf
      refine lv_iconst hx hb dX12_throwsIt_78 ki_1 ?_
      refine lv_goto (tgt := 83) hx hb dX12_throwsIt_79 (by decide) ?_
      exact R83 _ _ _ _ _ hw (lv_sub hl [4, 6, 7, 3, 2, 0] rfl) hf
noncomputable def F12_isOn (S : pS) : Int32 :=
  bL (fun (_ : Unit) =>
    (0 : Int32)) fun j25 =>
  if 6 ≤ (S 1 0) then
    j25 ()
  else
    if (S 1 68) ≤ 0 then
      j25 ()
    else
      (1 : Int32)
set_option maxRecDepth 100000 in
set_option maxHeartbeats 4000000 in
theorem wX12_isOn {l : Launch} {Z : pZ}  (hZ : CM Z) (S : pS)  (r : Int32)  (hf : F12_isOn S = r) : CI l Z yX12_isOn cX12_isOn 1 .boolean 3 60 [.ref (za Z 0)] S r S := by
  unfold F12_isOn at hf
  refine eZ (own := RX12) (by decide) rfl (Nat.le_of_ble_eq_true rfl) (fun p e s m args below meth c Q ls G hl hw hret => ?_)
  obtain ⟨hx, hb, hml, hown, hts⟩ := G.1
  have hl : lv_has ls 1 [(0, .ref (za Z 0))] := hl
  refine lv_aload_n hx hb dX12_isOn_0 rfl (lv_at hl 0 rfl) ?_
  refine gF G hw (m_this hZ) KX12 0 (k2 := 1) rfl (by decide) rfl fl_X12_7 dX12_isOn_1 ?_
  refine lv_iconst hx hb dX12_isOn_4 ki_0 ?_
  refine aI G hw (m_w hZ) (vin_e (by decide)) (j := 0) (by decide) dX12_isOn_5 ?_
  refine lv_bipush hx hb dX12_isOn_6 kb_6 ?_
  obtain ⟨j25, ej, hf⟩ := bL_e hf
  have R25 : ∀ (H : Heap) (locs : List Loc) (ls : Array Slot), Wd Z s S H locs → lv_has ls 1 [] → j25 () = r → W p l e { frames := 3, cells := 0, slots := 0, locals := 60 } s m args below meth c H locs 0 0 Q (F0 m 25 ls []) := by
    intro  H locs ls hw hl hf
    have hf := (congrFun ej ()).symm.trans hf
    refine lv_iconst hx hb dX12_isOn_25 ki_0 ?_
    exact hret _ _ _ _ _ dX12_isOn_26 ((by decide : (0 : Int32) &&& 1 = 0).trans hf) hw
  clear ej
  refine lv_icmp_ge (tgt := 25) hx hb dX12_isOn_8 (by decide) (fun c_2 => ?_) (fun c_2 => ?_)
  · have hf := (if_pos c_2).symm.trans hf
    exact R25 _ _ _ hw (lv_sub hl [] rfl) hf
  · have hf := (if_neg c_2).symm.trans hf
    refine lv_aload_n hx hb dX12_isOn_11 rfl (lv_at hl 0 rfl) ?_
    refine gF G hw (m_this hZ) KX12 0 (k2 := 1) rfl (by decide) rfl fl_X12_7 dX12_isOn_12 ?_
    refine lv_bipush hx hb dX12_isOn_15 kb_68 ?_
    refine aI G hw (m_w hZ) (vin_e (by decide)) (j := 68) (by decide) dX12_isOn_17 ?_
    refine lv_if_le (tgt := 25) hx hb dX12_isOn_18 (by decide) (fun c_1 => ?_) (fun c_1 => ?_)
    · have hf := (if_pos c_1).symm.trans hf
      exact R25 _ _ _ hw (lv_sub hl [] rfl) hf
    · have hf := (if_neg c_1).symm.trans hf
      refine lv_iconst hx hb dX12_isOn_21 ki_1 ?_
      refine lv_goto (tgt := 26) hx hb dX12_isOn_22 (by decide) ?_
      exact hret _ _ _ _ _ dX12_isOn_26 ((by decide : (1 : Int32) &&& 1 = 1).trans hf) hw
noncomputable def F12_throwIt (S : pS) (a1 : Int32) (a2 : Int32) (a3 : Int32) (a4 : Int32) : Option (Int32 × pS) :=
  if (F12_isOn S) = 0 then
    some (((-1) : Int32), S)
  else
    if (F12_isIn a1 0 99) = 0 then
      some (((-1) : Int32), S)
    else
      if (F12_isIn a2 0 60) = 0 then
        some (((-1) : Int32), S)
      else
        if (F12_isSpear S a3) = 0 then
          some (((-1) : Int32), S)
        else
          if (F12_isIn a4 0 9) = 0 then
            some (((-1) : Int32), S)
          else
            bB (F12_own S (S 1 1) 1) fun r_1 =>
            if r_1 = 1000 then
              some (((-1) : Int32), S)
            else
              bB (F12_keeps S) fun S_2 =>
              bB2 (F12_throwsIt S_2 a1 a2 a3 a4) fun r_3 S_4 =>
              some (r_3, S_4)
set_option maxRecDepth 100000 in
set_option maxHeartbeats 4000000 in
theorem wX12_throwIt {l : Launch} {Z : pZ}  (hZ : CM Z) (S : pS) (a1 : Int32) (a2 : Int32) (a3 : Int32) (a4 : Int32) (r : Int32) (S2 : pS)  (hf : F12_throwIt S a1 a2 a3 a4 = some (r, S2)) : CI l Z yX12_throwIt cX12_throwIt 5 .int 9 215 [.ref (za Z 0), .int a1, .int a2, .int a3, .int a4] S r S2 := by
  unfold F12_throwIt at hf
  refine eI (own := RX12) (by decide) rfl (Nat.le_of_ble_eq_true rfl) (fun p e s m args below meth c Q ls G hl hw hret => ?_)
  obtain ⟨hx, hb, hml, hown, hts⟩ := G.1
  have hl : lv_has ls 5 [(0, .ref (za Z 0)), (1, .int a1), (2, .int a2), (3, .int a3), (4, .int a4)] := hl
  refine lv_aload_n hx hb dX12_throwIt_0 rfl (lv_at hl 0 rfl) ?_
  refine kVi (rest := []) G hw (wX12_isOn hZ S (F12_isOn S) rfl) cw_X12_398 (m_this hZ) KX12 ⟨Nat.le_of_ble_eq_true rfl, Nat.le_of_ble_eq_true rfl⟩ rfl hl.1 rfl (Nat.le_of_ble_eq_true rfl) ⟨Nat.le_refl _, Nat.le_refl _⟩ dX12_throwIt_1 (fun H locs hw => ?_)
  refine lv_if_eq (tgt := 63) hx hb dX12_throwIt_4 (by decide) (fun c_10 => ?_) (fun c_10 => ?_)
  · have hf := (if_pos c_10).symm.trans hf
    refine lv_iconst hx hb dX12_throwIt_63 ki_m1 ?_
    obtain ⟨e1, e2⟩ := Prod.mk.inj (Option.some.inj hf)
    exact hret _ _ _ _ _ dX12_throwIt_64 e1 (by rw [← e2]; exact hw)
  · have hf := (if_neg c_10).symm.trans hf
    refine lv_iload_n hx hb dX12_throwIt_7 rfl (lv_at hl 1 rfl) ?_
    refine lv_iconst hx hb dX12_throwIt_8 ki_0 ?_
    refine lv_bipush hx hb dX12_throwIt_9 kb_99 ?_
    refine kSi (rest := []) G hw (wX12_isIn hZ S a1 0 99 (F12_isIn a1 0 99) rfl) cw_X12_71 ⟨Nat.le_of_ble_eq_true rfl, Nat.le_of_ble_eq_true rfl⟩ rfl hl.1 rfl (Nat.le_of_ble_eq_true rfl) ⟨Nat.le_refl _, Nat.le_refl _⟩ dX12_throwIt_11 (fun H locs hw => ?_)
    refine lv_if_eq (tgt := 63) hx hb dX12_throwIt_14 (by decide) (fun c_9 => ?_) (fun c_9 => ?_)
    · have hf := (if_pos c_9).symm.trans hf
      refine lv_iconst hx hb dX12_throwIt_63 ki_m1 ?_
      obtain ⟨e1, e2⟩ := Prod.mk.inj (Option.some.inj hf)
      exact hret _ _ _ _ _ dX12_throwIt_64 e1 (by rw [← e2]; exact hw)
    · have hf := (if_neg c_9).symm.trans hf
      refine lv_iload_n hx hb dX12_throwIt_17 rfl (lv_at hl 2 rfl) ?_
      refine lv_iconst hx hb dX12_throwIt_18 ki_0 ?_
      refine lv_bipush hx hb dX12_throwIt_19 kb_60 ?_
      refine kSi (rest := []) G hw (wX12_isIn hZ S a2 0 60 (F12_isIn a2 0 60) rfl) cw_X12_71 ⟨Nat.le_of_ble_eq_true rfl, Nat.le_of_ble_eq_true rfl⟩ rfl hl.1 rfl (Nat.le_of_ble_eq_true rfl) ⟨Nat.le_refl _, Nat.le_refl _⟩ dX12_throwIt_21 (fun H locs hw => ?_)
      refine lv_if_eq (tgt := 63) hx hb dX12_throwIt_24 (by decide) (fun c_8 => ?_) (fun c_8 => ?_)
      · have hf := (if_pos c_8).symm.trans hf
        refine lv_iconst hx hb dX12_throwIt_63 ki_m1 ?_
        obtain ⟨e1, e2⟩ := Prod.mk.inj (Option.some.inj hf)
        exact hret _ _ _ _ _ dX12_throwIt_64 e1 (by rw [← e2]; exact hw)
      · have hf := (if_neg c_8).symm.trans hf
        refine lv_aload_n hx hb dX12_throwIt_27 rfl (lv_at hl 0 rfl) ?_
        refine lv_iload_n hx hb dX12_throwIt_28 rfl (lv_at hl 3 rfl) ?_
        refine kVi (rest := []) G hw (wX12_isSpear hZ S a3 (F12_isSpear S a3) rfl) cw_X12_401 (m_this hZ) KX12 ⟨Nat.le_of_ble_eq_true rfl, Nat.le_of_ble_eq_true rfl⟩ rfl hl.1 rfl (Nat.le_of_ble_eq_true rfl) ⟨Nat.le_refl _, Nat.le_refl _⟩ dX12_throwIt_29 (fun H locs hw => ?_)
        refine lv_if_eq (tgt := 63) hx hb dX12_throwIt_32 (by decide) (fun c_7 => ?_) (fun c_7 => ?_)
        · have hf := (if_pos c_7).symm.trans hf
          refine lv_iconst hx hb dX12_throwIt_63 ki_m1 ?_
          obtain ⟨e1, e2⟩ := Prod.mk.inj (Option.some.inj hf)
          exact hret _ _ _ _ _ dX12_throwIt_64 e1 (by rw [← e2]; exact hw)
        · have hf := (if_neg c_7).symm.trans hf
          refine lv_iload hx hb dX12_throwIt_35 (lv_at hl 4 rfl) ?_
          refine lv_iconst hx hb dX12_throwIt_37 ki_0 ?_
          refine lv_bipush hx hb dX12_throwIt_38 kb_9 ?_
          refine kSi (rest := []) G hw (wX12_isIn hZ S a4 0 9 (F12_isIn a4 0 9) rfl) cw_X12_71 ⟨Nat.le_of_ble_eq_true rfl, Nat.le_of_ble_eq_true rfl⟩ rfl hl.1 rfl (Nat.le_of_ble_eq_true rfl) ⟨Nat.le_refl _, Nat.le_refl _⟩ dX12_throwIt_40 (fun H locs hw => ?_)
          refine lv_if_eq (tgt := 63) hx hb dX12_throwIt_43 (by decide) (fun c_6 => ?_) (fun c_6 => ?_)
          · have hf := (if_pos c_6).symm.trans hf
            refine lv_iconst hx hb dX12_throwIt_63 ki_m1 ?_
            obtain ⟨e1, e2⟩ := Prod.mk.inj (Option.some.inj hf)
            exact hret _ _ _ _ _ dX12_throwIt_64 e1 (by rw [← e2]; exact hw)
          · have hf := (if_neg c_6).symm.trans hf
            refine lv_aload_n hx hb dX12_throwIt_46 rfl (lv_at hl 0 rfl) ?_
            refine lv_aload_n hx hb dX12_throwIt_47 rfl (lv_at hl 0 rfl) ?_
            refine gF G hw (m_this hZ) KX12 0 (k2 := 1) rfl (by decide) rfl fl_X12_7 dX12_throwIt_48 ?_
            refine lv_iconst hx hb dX12_throwIt_51 ki_1 ?_
            refine aI G hw (m_w hZ) (vin_e (by decide)) (j := 1) (by decide) dX12_throwIt_52 ?_
            refine lv_iconst hx hb dX12_throwIt_53 ki_1 ?_
            obtain ⟨r_1, hr_1, hf⟩ := bB_e hf
            refine kVi (rest := []) G hw (wX12_own hZ S (S 1 1) 1 r_1 hr_1) cw_X12_324 (m_this hZ) KX12 ⟨Nat.le_of_ble_eq_true rfl, Nat.le_of_ble_eq_true rfl⟩ rfl hl.1 rfl (Nat.le_of_ble_eq_true rfl) ⟨Nat.le_refl _, Nat.le_refl _⟩ dX12_throwIt_54 (fun H locs hw => ?_)
            refine lv_sipush hx hb dX12_throwIt_57 ks_1000 ?_
            refine lv_icmp_ne (tgt := 65) hx hb dX12_throwIt_60 (by decide) (fun c_5 => ?_) (fun c_5 => ?_)
            · have hf := (if_neg c_5).symm.trans hf
              refine lv_aload_n hx hb dX12_throwIt_65 rfl (lv_at hl 0 rfl) ?_
              obtain ⟨S_2, hS_2, hf⟩ := bB_e hf
              refine kVv (rest := []) G hw (wX12_keeps hZ S S_2 hS_2) cw_X12_404 (m_this hZ) KX12 ⟨Nat.le_of_ble_eq_true rfl, Nat.le_of_ble_eq_true rfl⟩ rfl hl.1 rfl (Nat.le_of_ble_eq_true rfl) ⟨Nat.le_refl _, Nat.le_refl _⟩ dX12_throwIt_66 (fun H locs hw => ?_)
              refine lv_aload_n hx hb dX12_throwIt_69 rfl (lv_at hl 0 rfl) ?_
              refine lv_iload_n hx hb dX12_throwIt_70 rfl (lv_at hl 1 rfl) ?_
              refine lv_iload_n hx hb dX12_throwIt_71 rfl (lv_at hl 2 rfl) ?_
              refine lv_iload_n hx hb dX12_throwIt_72 rfl (lv_at hl 3 rfl) ?_
              refine lv_iload hx hb dX12_throwIt_73 (lv_at hl 4 rfl) ?_
              obtain ⟨r_3, S_4, hr_3, hf⟩ := bB2_e hf
              refine kVi (rest := []) G hw (wX12_throwsIt hZ S_2 a1 a2 a3 a4 r_3 S_4 hr_3) cw_X12_407 (m_this hZ) KX12 ⟨Nat.le_of_ble_eq_true rfl, Nat.le_of_ble_eq_true rfl⟩ rfl hl.1 rfl (Nat.le_of_ble_eq_true rfl) ⟨Nat.le_refl _, Nat.le_refl _⟩ dX12_throwIt_75 (fun H locs hw => ?_)
              obtain ⟨e1, e2⟩ := Prod.mk.inj (Option.some.inj hf)
              exact hret _ _ _ _ _ dX12_throwIt_78 e1 (by rw [← e2]; exact hw)
            · have hf := (if_pos c_5).symm.trans hf
              refine lv_iconst hx hb dX12_throwIt_63 ki_m1 ?_
              obtain ⟨e1, e2⟩ := Prod.mk.inj (Option.some.inj hf)
              exact hret _ _ _ _ _ dX12_throwIt_64 e1 (by rw [← e2]; exact hw)
noncomputable def F12_pass (S : pS) : Option (Int32 × pS) :=
  if (F12_isOn S) = 0 then
    some ((0 : Int32), S)
  else
    bB (F12_keeps S) fun S_1 =>
    bL (F12_nextTurn S_1) fun S_2 =>
    some ((1 : Int32), S_2)
set_option maxRecDepth 100000 in
set_option maxHeartbeats 4000000 in
theorem wX12_pass {l : Launch} {Z : pZ}  (hZ : CM Z) (S : pS)  (r : Int32) (S2 : pS)  (hf : F12_pass S = some (r, S2)) : CI l Z yX12_pass cX12_pass 1 .boolean 4 81 [.ref (za Z 0)] S r S2 := by
  unfold F12_pass at hf
  refine eZ (own := RX12) (by decide) rfl (Nat.le_of_ble_eq_true rfl) (fun p e s m args below meth c Q ls G hl hw hret => ?_)
  obtain ⟨hx, hb, hml, hown, hts⟩ := G.1
  have hl : lv_has ls 1 [(0, .ref (za Z 0))] := hl
  refine lv_aload_n hx hb dX12_pass_0 rfl (lv_at hl 0 rfl) ?_
  refine kVi (rest := []) G hw (wX12_isOn hZ S (F12_isOn S) rfl) cw_X12_398 (m_this hZ) KX12 ⟨Nat.le_of_ble_eq_true rfl, Nat.le_of_ble_eq_true rfl⟩ rfl hl.1 rfl (Nat.le_of_ble_eq_true rfl) ⟨Nat.le_refl _, Nat.le_refl _⟩ dX12_pass_1 (fun H locs hw => ?_)
  refine lv_if_ne (tgt := 9) hx hb dX12_pass_4 (by decide) (fun c_3 => ?_) (fun c_3 => ?_)
  · have hf := (if_neg c_3).symm.trans hf
    refine lv_aload_n hx hb dX12_pass_9 rfl (lv_at hl 0 rfl) ?_
    obtain ⟨S_1, hS_1, hf⟩ := bB_e hf
    refine kVv (rest := []) G hw (wX12_keeps hZ S S_1 hS_1) cw_X12_404 (m_this hZ) KX12 ⟨Nat.le_of_ble_eq_true rfl, Nat.le_of_ble_eq_true rfl⟩ rfl hl.1 rfl (Nat.le_of_ble_eq_true rfl) ⟨Nat.le_refl _, Nat.le_refl _⟩ dX12_pass_10 (fun H locs hw => ?_)
    refine lv_aload_n hx hb dX12_pass_13 rfl (lv_at hl 0 rfl) ?_
    obtain ⟨S_2, hS_2, hf⟩ := bL_e hf
    refine kVv (rest := []) G hw (wX12_nextTurn hZ S_1 S_2 hS_2.symm) cw_X12_395 (m_this hZ) KX12 ⟨Nat.le_of_ble_eq_true rfl, Nat.le_of_ble_eq_true rfl⟩ rfl hl.1 rfl (Nat.le_of_ble_eq_true rfl) ⟨Nat.le_refl _, Nat.le_refl _⟩ dX12_pass_14 (fun H locs hw => ?_)
    refine lv_iconst hx hb dX12_pass_17 ki_1 ?_
    obtain ⟨e1, e2⟩ := Prod.mk.inj (Option.some.inj hf)
    exact hret _ _ _ _ _ dX12_pass_18 ((by decide : (1 : Int32) &&& 1 = 1).trans e1) (by rw [← e2]; exact hw)
  · have hf := (if_pos c_3).symm.trans hf
    refine lv_iconst hx hb dX12_pass_7 ki_0 ?_
    obtain ⟨e1, e2⟩ := Prod.mk.inj (Option.some.inj hf)
    exact hret _ _ _ _ _ dX12_pass_8 ((by decide : (0 : Int32) &&& 1 = 0).trans e1) (by rw [← e2]; exact hw)
noncomputable def F12_passesBy (S : pS) (a1 : Int32) (a2 : Int32) (a3 : Int32) : Option (Int32) :=
  bG (vp_in (82 + a1) 4296) <|
  bL (fun (_ : Unit) =>
    some (1 : Int32)) fun j67 =>
  if a2 = (S 1 ((82 + a1).toNatClampNeg)) then
    j67 ()
  else
    bG (vp_in a3 4296) <|
    if (S 1 a3.toNatClampNeg) = (-1) then
      j67 ()
    else
      bB (F12_own S a1 1) fun r_1 =>
      if r_1 = 1000 then
        j67 ()
      else
        bG (vp_in (a3 + 4) 4296) <|
        bL (fun (_ : Unit) =>
          some (0 : Int32)) fun j71 =>
        if (S 1 ((a3 + 4).toNatClampNeg)) = (-1) then
          j71 ()
        else
          bB (F12_own S a1 2) fun r_2 =>
          bG (vp_in (a3 + 4) 4296) <|
          if r_2 < (100 * (S 1 ((a3 + 4).toNatClampNeg))) then
            j71 ()
          else
            j67 ()
set_option maxRecDepth 100000 in
set_option maxHeartbeats 4000000 in
theorem wX12_passesBy {l : Launch} {Z : pZ}  (hZ : CM Z) (S : pS) (a1 : Int32) (a2 : Int32) (a3 : Int32) (r : Int32)  (hf : F12_passesBy S a1 a2 a3 = some r) : CI l Z yX12_passesBy cX12_passesBy 4 .boolean 4 82 [.ref (za Z 0), .int a1, .int a2, .int a3] S r S := by
  unfold F12_passesBy at hf
  refine eZ (own := RX12) (by decide) rfl (Nat.le_of_ble_eq_true rfl) (fun p e s m args below meth c Q ls G hl hw hret => ?_)
  obtain ⟨hx, hb, hml, hown, hts⟩ := G.1
  have hl : lv_has ls 4 [(0, .ref (za Z 0)), (1, .int a1), (2, .int a2), (3, .int a3)] := hl
  refine lv_iload_n hx hb dX12_passesBy_0 rfl (lv_at hl 2 rfl) ?_
  refine lv_aload_n hx hb dX12_passesBy_1 rfl (lv_at hl 0 rfl) ?_
  refine gF G hw (m_this hZ) KX12 0 (k2 := 1) rfl (by decide) rfl fl_X12_7 dX12_passesBy_2 ?_
  refine lv_bipush hx hb dX12_passesBy_5 kb_82 ?_
  refine lv_iload_n hx hb dX12_passesBy_7 rfl (lv_at hl 1 rfl) ?_
  refine lv_iadd hx hb dX12_passesBy_8 ?_
  obtain ⟨hg1, hf⟩ := bG_e hf
  refine aI G hw (m_w hZ) hg1 (j := (82 + a1).toNatClampNeg) rfl dX12_passesBy_9 ?_
  obtain ⟨j67, ej, hf⟩ := bL_e hf
  have R67 : ∀ (H : Heap) (locs : List Loc) (ls : Array Slot), Wd Z s S H locs → lv_has ls 4 [] → j67 () = some r → W p l e { frames := 4, cells := 0, slots := 0, locals := 82 } s m args below meth c H locs 0 0 Q (F0 m 67 ls []) := by
    intro  H locs ls hw hl hf
    have hf := (congrFun ej ()).symm.trans hf
    refine lv_iconst hx hb dX12_passesBy_67 ki_1 ?_
    refine lv_goto (tgt := 72) hx hb dX12_passesBy_68 (by decide) ?_
    exact hret _ _ _ _ _ dX12_passesBy_72 ((by decide : (1 : Int32) &&& 1 = 1).trans (Option.some.inj hf)) hw
  clear ej
  refine lv_icmp_eq (tgt := 67) hx hb dX12_passesBy_10 (by decide) (fun c_7 => ?_) (fun c_7 => ?_)
  · have hf := (if_pos c_7).symm.trans hf
    exact R67 _ _ _ hw (lv_sub hl [] rfl) hf
  · have hf := (if_neg c_7).symm.trans hf
    refine lv_aload_n hx hb dX12_passesBy_13 rfl (lv_at hl 0 rfl) ?_
    refine gF G hw (m_this hZ) KX12 0 (k2 := 1) rfl (by decide) rfl fl_X12_7 dX12_passesBy_14 ?_
    refine lv_iload_n hx hb dX12_passesBy_17 rfl (lv_at hl 3 rfl) ?_
    obtain ⟨hg1, hf⟩ := bG_e hf
    refine aI G hw (m_w hZ) hg1 (j := a3.toNatClampNeg) rfl dX12_passesBy_18 ?_
    refine lv_iconst hx hb dX12_passesBy_19 ki_m1 ?_
    refine lv_icmp_eq (tgt := 67) hx hb dX12_passesBy_20 (by decide) (fun c_6 => ?_) (fun c_6 => ?_)
    · have hf := (if_pos c_6).symm.trans hf
      exact R67 _ _ _ hw (lv_sub hl [] rfl) hf
    · have hf := (if_neg c_6).symm.trans hf
      refine lv_aload_n hx hb dX12_passesBy_23 rfl (lv_at hl 0 rfl) ?_
      refine lv_iload_n hx hb dX12_passesBy_24 rfl (lv_at hl 1 rfl) ?_
      refine lv_iconst hx hb dX12_passesBy_25 ki_1 ?_
      obtain ⟨r_1, hr_1, hf⟩ := bB_e hf
      refine kVi (rest := []) G hw (wX12_own hZ S a1 1 r_1 hr_1) cw_X12_324 (m_this hZ) KX12 ⟨Nat.le_of_ble_eq_true rfl, Nat.le_of_ble_eq_true rfl⟩ rfl hl.1 rfl (Nat.le_of_ble_eq_true rfl) ⟨Nat.le_refl _, Nat.le_refl _⟩ dX12_passesBy_26 (fun H locs hw => ?_)
      refine lv_sipush hx hb dX12_passesBy_29 ks_1000 ?_
      refine lv_icmp_eq (tgt := 67) hx hb dX12_passesBy_32 (by decide) (fun c_5 => ?_) (fun c_5 => ?_)
      · have hf := (if_pos c_5).symm.trans hf
        exact R67 _ _ _ hw (lv_sub hl [] rfl) hf
      · have hf := (if_neg c_5).symm.trans hf
        refine lv_aload_n hx hb dX12_passesBy_35 rfl (lv_at hl 0 rfl) ?_
        refine gF G hw (m_this hZ) KX12 0 (k2 := 1) rfl (by decide) rfl fl_X12_7 dX12_passesBy_36 ?_
        refine lv_iload_n hx hb dX12_passesBy_39 rfl (lv_at hl 3 rfl) ?_
        refine lv_iconst hx hb dX12_passesBy_40 ki_4 ?_
        refine lv_iadd hx hb dX12_passesBy_41 ?_
        obtain ⟨hg1, hf⟩ := bG_e hf
        refine aI G hw (m_w hZ) hg1 (j := (a3 + 4).toNatClampNeg) rfl dX12_passesBy_42 ?_
        refine lv_iconst hx hb dX12_passesBy_43 ki_m1 ?_
        obtain ⟨j71, ej, hf⟩ := bL_e hf
        have R71 : ∀ (H : Heap) (locs : List Loc) (ls : Array Slot), Wd Z s S H locs → lv_has ls 4 [] → j71 () = some r → W p l e { frames := 4, cells := 0, slots := 0, locals := 82 } s m args below meth c H locs 0 0 Q (F0 m 71 ls []) := by
          intro  H locs ls hw hl hf
          have hf := (congrFun ej ()).symm.trans hf
          refine lv_iconst hx hb dX12_passesBy_71 ki_0 ?_
          exact hret _ _ _ _ _ dX12_passesBy_72 ((by decide : (0 : Int32) &&& 1 = 0).trans (Option.some.inj hf)) hw
        clear ej
        refine lv_icmp_eq (tgt := 71) hx hb dX12_passesBy_44 (by decide) (fun c_4 => ?_) (fun c_4 => ?_)
        · have hf := (if_pos c_4).symm.trans hf
          exact R71 _ _ _ hw (lv_sub hl [] rfl) hf
        · have hf := (if_neg c_4).symm.trans hf
          refine lv_aload_n hx hb dX12_passesBy_47 rfl (lv_at hl 0 rfl) ?_
          refine lv_iload_n hx hb dX12_passesBy_48 rfl (lv_at hl 1 rfl) ?_
          refine lv_iconst hx hb dX12_passesBy_49 ki_2 ?_
          obtain ⟨r_2, hr_2, hf⟩ := bB_e hf
          refine kVi (rest := []) G hw (wX12_own hZ S a1 2 r_2 hr_2) cw_X12_324 (m_this hZ) KX12 ⟨Nat.le_of_ble_eq_true rfl, Nat.le_of_ble_eq_true rfl⟩ rfl hl.1 rfl (Nat.le_of_ble_eq_true rfl) ⟨Nat.le_refl _, Nat.le_refl _⟩ dX12_passesBy_50 (fun H locs hw => ?_)
          refine lv_bipush hx hb dX12_passesBy_53 kb_100 ?_
          refine lv_aload_n hx hb dX12_passesBy_55 rfl (lv_at hl 0 rfl) ?_
          refine gF G hw (m_this hZ) KX12 0 (k2 := 1) rfl (by decide) rfl fl_X12_7 dX12_passesBy_56 ?_
          refine lv_iload_n hx hb dX12_passesBy_59 rfl (lv_at hl 3 rfl) ?_
          refine lv_iconst hx hb dX12_passesBy_60 ki_4 ?_
          refine lv_iadd hx hb dX12_passesBy_61 ?_
          obtain ⟨hg1, hf⟩ := bG_e hf
          refine aI G hw (m_w hZ) hg1 (j := (a3 + 4).toNatClampNeg) rfl dX12_passesBy_62 ?_
          refine lv_imul hx hb dX12_passesBy_63 ?_
          refine lv_icmp_lt (tgt := 71) hx hb dX12_passesBy_64 (by decide) (fun c_3 => ?_) (fun c_3 => ?_)
          · have hf := (if_pos c_3).symm.trans hf
            exact R71 _ _ _ hw (lv_sub hl [] rfl) hf
          · have hf := (if_neg c_3).symm.trans hf
            exact R67 _ _ _ hw (lv_sub hl [] rfl) hf
noncomputable def F12_goesOn (S : pS) : Option (Int32 × pS) :=
  bL (S 1 1) fun l1_1 =>
  bB (F12_own S l1_1 4) fun r_2 =>
  bL ((150 + (60 * l1_1)) + (5 * r_2)) fun l3_3 =>
  bG (vp_in (82 + l1_1) 4296) <|
  bL (fun (S_4 : pS) =>
    bB (F12_passesBy S_4 l1_1 r_2 l3_3) fun r_5 =>
    bL (fun (S_6 : pS) =>
      if r_5 = 0 then
        some ((1 : Int32), S_6)
      else
        some ((0 : Int32), S_6)) fun j105 =>
    if r_5 = 0 then
      bG (vp_in l3_3 4296) <|
      bG (vp_in (l3_3 + 1) 4296) <|
      bG (vp_in (l3_3 + 2) 4296) <|
      bG (vp_in (l3_3 + 3) 4296) <|
      bB2 (F12_throwsIt S_4 (S_4 1 l3_3.toNatClampNeg) (S_4 1 ((l3_3 + 1).toNatClampNeg)) (S_4 1 ((l3_3 + 2).toNatClampNeg)) (S_4 1 ((l3_3 + 3).toNatClampNeg))) fun r_8 S_9 =>
      j105 S_9
    else
      bL (F12_nextTurn S_4) fun S_10 =>
      j105 S_10) fun j49 =>
  if (S 1 ((82 + l1_1).toNatClampNeg)) ≤ r_2 then
    j49 S
  else
    bB (F12_gives S l1_1 4 (r_2 + 1)) fun S_12 =>
    j49 S_12
set_option maxRecDepth 100000 in
set_option maxHeartbeats 4000000 in
theorem wX12_goesOn {l : Launch} {Z : pZ}  (hZ : CM Z) (S : pS)  (r : Int32) (S2 : pS)  (hf : F12_goesOn S = some (r, S2)) : CI l Z yX12_goesOn cX12_goesOn 5 .boolean 9 215 [.ref (za Z 0)] S r S2 := by
  unfold F12_goesOn at hf
  refine eZ (own := RX12) (by decide) rfl (Nat.le_of_ble_eq_true rfl) (fun p e s m args below meth c Q ls G hl hw hret => ?_)
  obtain ⟨hx, hb, hml, hown, hts⟩ := G.1
  have hl : lv_has ls 5 [(0, .ref (za Z 0))] := hl
  refine lv_aload_n hx hb dX12_goesOn_0 rfl (lv_at hl 0 rfl) ?_
  refine gF G hw (m_this hZ) KX12 0 (k2 := 1) rfl (by decide) rfl fl_X12_7 dX12_goesOn_1 ?_
  refine lv_iconst hx hb dX12_goesOn_4 ki_1 ?_
  refine aI G hw (m_w hZ) (vin_e (by decide)) (j := 1) (by decide) dX12_goesOn_5 ?_
  obtain ⟨l1_1, el1_1, hf⟩ := bL_e hf
  refine top_i el1_1 ?_
  refine lv_istore_n (lv' := [(1, .int l1_1), (0, .ref (za Z 0))]) hx hb dX12_goesOn_6 rfl hl (by decide) rfl (fun ls hl => ?_)
  refine lv_aload_n hx hb dX12_goesOn_7 rfl (lv_at hl 1 rfl) ?_
  refine lv_iload_n hx hb dX12_goesOn_8 rfl (lv_at hl 0 rfl) ?_
  refine lv_iconst hx hb dX12_goesOn_9 ki_4 ?_
  obtain ⟨r_2, hr_2, hf⟩ := bB_e hf
  refine kVi (rest := []) G hw (wX12_own hZ S l1_1 4 r_2 hr_2) cw_X12_324 (m_this hZ) KX12 ⟨Nat.le_of_ble_eq_true rfl, Nat.le_of_ble_eq_true rfl⟩ rfl hl.1 rfl (Nat.le_of_ble_eq_true rfl) ⟨Nat.le_refl _, Nat.le_refl _⟩ dX12_goesOn_10 (fun H locs hw => ?_)
  refine lv_istore_n (lv' := [(2, .int r_2), (1, .int l1_1), (0, .ref (za Z 0))]) hx hb dX12_goesOn_13 rfl hl (by decide) rfl (fun ls hl => ?_)
  refine lv_sipush hx hb dX12_goesOn_14 ks_150 ?_
  refine lv_bipush hx hb dX12_goesOn_17 kb_60 ?_
  refine lv_iload_n hx hb dX12_goesOn_19 rfl (lv_at hl 1 rfl) ?_
  refine lv_imul hx hb dX12_goesOn_20 ?_
  refine lv_iadd hx hb dX12_goesOn_21 ?_
  refine lv_iconst hx hb dX12_goesOn_22 ki_5 ?_
  refine lv_iload_n hx hb dX12_goesOn_23 rfl (lv_at hl 0 rfl) ?_
  refine lv_imul hx hb dX12_goesOn_24 ?_
  refine lv_iadd hx hb dX12_goesOn_25 ?_
  obtain ⟨l3_3, el3_3, hf⟩ := bL_e hf
  refine top_i el3_3 ?_
  refine lv_istore_n (lv' := [(3, .int l3_3), (2, .int r_2), (1, .int l1_1), (0, .ref (za Z 0))]) hx hb dX12_goesOn_26 rfl hl (by decide) rfl (fun ls hl => ?_)
  refine lv_iload_n hx hb dX12_goesOn_27 rfl (lv_at hl 1 rfl) ?_
  refine lv_aload_n hx hb dX12_goesOn_28 rfl (lv_at hl 3 rfl) ?_
  refine gF G hw (m_this hZ) KX12 0 (k2 := 1) rfl (by decide) rfl fl_X12_7 dX12_goesOn_29 ?_
  refine lv_bipush hx hb dX12_goesOn_32 kb_82 ?_
  refine lv_iload_n hx hb dX12_goesOn_34 rfl (lv_at hl 2 rfl) ?_
  refine lv_iadd hx hb dX12_goesOn_35 ?_
  obtain ⟨hg1, hf⟩ := bG_e hf
  refine aI G hw (m_w hZ) hg1 (j := (82 + l1_1).toNatClampNeg) rfl dX12_goesOn_36 ?_
  obtain ⟨j49, ej, hf⟩ := bL_e hf
  have R49 : ∀ (S_4 : pS) (H : Heap) (locs : List Loc) (ls : Array Slot), Wd Z s S_4 H locs → lv_has ls 5 [(0, .ref (za Z 0)), (1, .int l1_1), (2, .int r_2), (3, .int l3_3)] → j49 S_4 = some (r, S2) → W p l e { frames := 9, cells := 0, slots := 0, locals := 215 } s m args below meth c H locs 0 0 Q (F0 m 49 ls []) := by
    intro S_4 H locs ls hw hl hf
    have hf := (congrFun ej S_4).symm.trans hf
    refine lv_aload_n hx hb dX12_goesOn_49 rfl (lv_at hl 0 rfl) ?_
    refine lv_iload_n hx hb dX12_goesOn_50 rfl (lv_at hl 1 rfl) ?_
    refine lv_iload_n hx hb dX12_goesOn_51 rfl (lv_at hl 2 rfl) ?_
    refine lv_iload_n hx hb dX12_goesOn_52 rfl (lv_at hl 3 rfl) ?_
    obtain ⟨r_5, hr_5, hf⟩ := bB_e hf
    refine kVi (rest := []) G hw (wX12_passesBy hZ S_4 l1_1 r_2 l3_3 r_5 hr_5) cw_X12_410 (m_this hZ) KX12 ⟨Nat.le_of_ble_eq_true rfl, Nat.le_of_ble_eq_true rfl⟩ rfl hl.1 rfl (Nat.le_of_ble_eq_true rfl) ⟨Nat.le_refl _, Nat.le_refl _⟩ dX12_goesOn_53 (fun H locs hw => ?_)
    refine lv_istore (lv' := [(4, .int r_5), (0, .ref (za Z 0)), (1, .int l1_1), (2, .int r_2), (3, .int l3_3)]) hx hb dX12_goesOn_56 hl (by decide) rfl (fun ls hl => ?_)
    refine lv_iload hx hb dX12_goesOn_58 (lv_at hl 0 rfl) ?_
    obtain ⟨j105, ej, hf⟩ := bL_e hf
    have R105 : ∀ (S_6 : pS) (H : Heap) (locs : List Loc) (ls : Array Slot), Wd Z s S_6 H locs → lv_has ls 5 [(4, .int r_5)] → j105 S_6 = some (r, S2) → W p l e { frames := 9, cells := 0, slots := 0, locals := 215 } s m args below meth c H locs 0 0 Q (F0 m 105 ls []) := by
      intro S_6 H locs ls hw hl hf
      have hf := (congrFun ej S_6).symm.trans hf
      refine lv_iload hx hb dX12_goesOn_105 (lv_at hl 0 rfl) ?_
      refine lv_if_ne (tgt := 114) hx hb dX12_goesOn_107 (by decide) (fun c_7 => ?_) (fun c_7 => ?_)
      · have hf := (if_neg c_7).symm.trans hf
        refine lv_iconst hx hb dX12_goesOn_114 ki_0 ?_
        obtain ⟨e1, e2⟩ := Prod.mk.inj (Option.some.inj hf)
        exact hret _ _ _ _ _ dX12_goesOn_115 ((by decide : (0 : Int32) &&& 1 = 0).trans e1) (by rw [← e2]; exact hw)
      · have hf := (if_pos c_7).symm.trans hf
        refine lv_iconst hx hb dX12_goesOn_110 ki_1 ?_
        refine lv_goto (tgt := 115) hx hb dX12_goesOn_111 (by decide) ?_
        obtain ⟨e1, e2⟩ := Prod.mk.inj (Option.some.inj hf)
        exact hret _ _ _ _ _ dX12_goesOn_115 ((by decide : (1 : Int32) &&& 1 = 1).trans e1) (by rw [← e2]; exact hw)
    clear ej
    refine lv_if_eq (tgt := 70) hx hb dX12_goesOn_60 (by decide) (fun c_11 => ?_) (fun c_11 => ?_)
    · have hf := (if_pos c_11).symm.trans hf
      refine lv_aload_n hx hb dX12_goesOn_70 rfl (lv_at hl 1 rfl) ?_
      refine lv_aload_n hx hb dX12_goesOn_71 rfl (lv_at hl 1 rfl) ?_
      refine gF G hw (m_this hZ) KX12 0 (k2 := 1) rfl (by decide) rfl fl_X12_7 dX12_goesOn_72 ?_
      refine lv_iload_n hx hb dX12_goesOn_75 rfl (lv_at hl 4 rfl) ?_
      obtain ⟨hg1, hf⟩ := bG_e hf
      refine aI G hw (m_w hZ) hg1 (j := l3_3.toNatClampNeg) rfl dX12_goesOn_76 ?_
      refine lv_aload_n hx hb dX12_goesOn_77 rfl (lv_at hl 1 rfl) ?_
      refine gF G hw (m_this hZ) KX12 0 (k2 := 1) rfl (by decide) rfl fl_X12_7 dX12_goesOn_78 ?_
      refine lv_iload_n hx hb dX12_goesOn_81 rfl (lv_at hl 4 rfl) ?_
      refine lv_iconst hx hb dX12_goesOn_82 ki_1 ?_
      refine lv_iadd hx hb dX12_goesOn_83 ?_
      obtain ⟨hg1, hf⟩ := bG_e hf
      refine aI G hw (m_w hZ) hg1 (j := (l3_3 + 1).toNatClampNeg) rfl dX12_goesOn_84 ?_
      refine lv_aload_n hx hb dX12_goesOn_85 rfl (lv_at hl 1 rfl) ?_
      refine gF G hw (m_this hZ) KX12 0 (k2 := 1) rfl (by decide) rfl fl_X12_7 dX12_goesOn_86 ?_
      refine lv_iload_n hx hb dX12_goesOn_89 rfl (lv_at hl 4 rfl) ?_
      refine lv_iconst hx hb dX12_goesOn_90 ki_2 ?_
      refine lv_iadd hx hb dX12_goesOn_91 ?_
      obtain ⟨hg1, hf⟩ := bG_e hf
      refine aI G hw (m_w hZ) hg1 (j := (l3_3 + 2).toNatClampNeg) rfl dX12_goesOn_92 ?_
      refine lv_aload_n hx hb dX12_goesOn_93 rfl (lv_at hl 1 rfl) ?_
      refine gF G hw (m_this hZ) KX12 0 (k2 := 1) rfl (by decide) rfl fl_X12_7 dX12_goesOn_94 ?_
      refine lv_iload_n hx hb dX12_goesOn_97 rfl (lv_at hl 4 rfl) ?_
      refine lv_iconst hx hb dX12_goesOn_98 ki_3 ?_
      refine lv_iadd hx hb dX12_goesOn_99 ?_
      obtain ⟨hg1, hf⟩ := bG_e hf
      refine aI G hw (m_w hZ) hg1 (j := (l3_3 + 3).toNatClampNeg) rfl dX12_goesOn_100 ?_
      obtain ⟨r_8, S_9, hr_8, hf⟩ := bB2_e hf
      refine kVi (rest := []) G hw (wX12_throwsIt hZ S_4 (S_4 1 l3_3.toNatClampNeg) (S_4 1 ((l3_3 + 1).toNatClampNeg)) (S_4 1 ((l3_3 + 2).toNatClampNeg)) (S_4 1 ((l3_3 + 3).toNatClampNeg)) r_8 S_9 hr_8) cw_X12_407 (m_this hZ) KX12 ⟨Nat.le_of_ble_eq_true rfl, Nat.le_of_ble_eq_true rfl⟩ rfl hl.1 rfl (Nat.le_of_ble_eq_true rfl) ⟨Nat.le_refl _, Nat.le_refl _⟩ dX12_goesOn_101 (fun H locs hw => ?_)
      refine lv_pop hx hb dX12_goesOn_104 rfl ?_
      exact R105 _ _ _ _ hw (lv_sub hl [0] rfl) hf
    · have hf := (if_neg c_11).symm.trans hf
      refine lv_aload_n hx hb dX12_goesOn_63 rfl (lv_at hl 1 rfl) ?_
      obtain ⟨S_10, hS_10, hf⟩ := bL_e hf
      refine kVv (rest := []) G hw (wX12_nextTurn hZ S_4 S_10 hS_10.symm) cw_X12_395 (m_this hZ) KX12 ⟨Nat.le_of_ble_eq_true rfl, Nat.le_of_ble_eq_true rfl⟩ rfl hl.1 rfl (Nat.le_of_ble_eq_true rfl) ⟨Nat.le_refl _, Nat.le_refl _⟩ dX12_goesOn_64 (fun H locs hw => ?_)
      refine lv_goto (tgt := 105) hx hb dX12_goesOn_67 (by decide) ?_
      exact R105 _ _ _ _ hw (lv_sub hl [0] rfl) hf
  clear ej
  refine lv_icmp_ge (tgt := 49) hx hb dX12_goesOn_37 (by decide) (fun c_13 => ?_) (fun c_13 => ?_)
  · have hf := (if_pos c_13).symm.trans hf
    exact R49 _ _ _ _ hw (lv_sub hl [3, 2, 1, 0] rfl) hf
  · have hf := (if_neg c_13).symm.trans hf
    refine lv_aload_n hx hb dX12_goesOn_40 rfl (lv_at hl 3 rfl) ?_
    refine lv_iload_n hx hb dX12_goesOn_41 rfl (lv_at hl 2 rfl) ?_
    refine lv_iconst hx hb dX12_goesOn_42 ki_4 ?_
    refine lv_iload_n hx hb dX12_goesOn_43 rfl (lv_at hl 1 rfl) ?_
    refine lv_iconst hx hb dX12_goesOn_44 ki_1 ?_
    refine lv_iadd hx hb dX12_goesOn_45 ?_
    obtain ⟨S_12, hS_12, hf⟩ := bB_e hf
    refine kVv (rest := []) G hw (wX12_gives hZ S l1_1 4 (r_2 + 1) S_12 hS_12) cw_X12_83 (m_this hZ) KX12 ⟨Nat.le_of_ble_eq_true rfl, Nat.le_of_ble_eq_true rfl⟩ rfl hl.1 rfl (Nat.le_of_ble_eq_true rfl) ⟨Nat.le_refl _, Nat.le_refl _⟩ dX12_goesOn_46 (fun H locs hw => ?_)
    exact R49 _ _ _ _ hw (lv_sub hl [3, 2, 1, 0] rfl) hf
noncomputable def F12_turnsGo (S : pS) (a1 : Int32) : Option (Int32 × pS) :=
  if (F12_isOn S) = 0 then
    some (((-1) : Int32), S)
  else
    if (F12_isIn a1 1 48) = 0 then
      some (((-1) : Int32), S)
    else
      bL (fun (l2_1 : Int32) (S_2 : pS) =>
        some (l2_1, S_2)) fun g60_23 =>
      bL (u3 fun (l2_3 : Int32) (l3_4 : Int32) (S_5 : pS) =>
        if a1 ≤ l3_4 then
          some (.inr (l2_3, S_5))
        else
          if (F12_isOn S_5) = 0 then
            some (.inr (l2_3, S_5))
          else
            bB (F12_keeps S_5) fun S_7 =>
            bB2 (F12_goesOn S_7) fun r_8 S_9 =>
            bL (fun (t_10 : Int32) =>
              bL (l2_3 + t_10) fun l2_11 =>
              bL (l3_4 + 1) fun l3_12 =>
              some (.inl (l2_11, l3_12, S_9))) fun j52 =>
            if r_8 = 0 then
              j52 0
            else
              j52 1) fun b23 =>
      bB (bP b23 ((0 : Int32), (0 : Int32), S)) (u2 g60_23)
set_option maxRecDepth 100000 in
set_option maxHeartbeats 4000000 in
theorem wX12_turnsGo {l : Launch} {Z : pZ}  (hZ : CM Z) (S : pS) (a1 : Int32) (r : Int32) (S2 : pS)  (hf : F12_turnsGo S a1 = some (r, S2)) : CI l Z yX12_turnsGo cX12_turnsGo 4 .int 10 239 [.ref (za Z 0), .int a1] S r S2 := by
  unfold F12_turnsGo at hf
  refine eI (own := RX12) (by decide) rfl (Nat.le_of_ble_eq_true rfl) (fun p e s m args below meth c Q ls G hl hw hret => ?_)
  obtain ⟨hx, hb, hml, hown, hts⟩ := G.1
  have hl : lv_has ls 4 [(0, .ref (za Z 0)), (1, .int a1)] := hl
  refine lv_aload_n hx hb dX12_turnsGo_0 rfl (lv_at hl 0 rfl) ?_
  refine kVi (rest := []) G hw (wX12_isOn hZ S (F12_isOn S) rfl) cw_X12_398 (m_this hZ) KX12 ⟨Nat.le_of_ble_eq_true rfl, Nat.le_of_ble_eq_true rfl⟩ rfl hl.1 rfl (Nat.le_of_ble_eq_true rfl) ⟨Nat.le_refl _, Nat.le_refl _⟩ dX12_turnsGo_1 (fun H locs hw => ?_)
  refine lv_if_eq (tgt := 17) hx hb dX12_turnsGo_4 (by decide) (fun c_17 => ?_) (fun c_17 => ?_)
  · have hf := (if_pos c_17).symm.trans hf
    refine lv_iconst hx hb dX12_turnsGo_17 ki_m1 ?_
    obtain ⟨e1, e2⟩ := Prod.mk.inj (Option.some.inj hf)
    exact hret _ _ _ _ _ dX12_turnsGo_18 e1 (by rw [← e2]; exact hw)
  · have hf := (if_neg c_17).symm.trans hf
    refine lv_iload_n hx hb dX12_turnsGo_7 rfl (lv_at hl 1 rfl) ?_
    refine lv_iconst hx hb dX12_turnsGo_8 ki_1 ?_
    refine lv_bipush hx hb dX12_turnsGo_9 kb_48 ?_
    refine kSi (rest := []) G hw (wX12_isIn hZ S a1 1 48 (F12_isIn a1 1 48) rfl) cw_X12_71 ⟨Nat.le_of_ble_eq_true rfl, Nat.le_of_ble_eq_true rfl⟩ rfl hl.1 rfl (Nat.le_of_ble_eq_true rfl) ⟨Nat.le_refl _, Nat.le_refl _⟩ dX12_turnsGo_11 (fun H locs hw => ?_)
    refine lv_if_ne (tgt := 19) hx hb dX12_turnsGo_14 (by decide) (fun c_16 => ?_) (fun c_16 => ?_)
    · have hf := (if_neg c_16).symm.trans hf
      refine lv_iconst hx hb dX12_turnsGo_19 ki_0 ?_
      refine lv_istore_n (lv' := [(2, .int 0), (0, .ref (za Z 0)), (1, .int a1)]) hx hb dX12_turnsGo_20 rfl hl (by decide) rfl (fun ls hl => ?_)
      refine lv_iconst hx hb dX12_turnsGo_21 ki_0 ?_
      refine lv_istore_n (lv' := [(3, .int 0), (2, .int 0), (0, .ref (za Z 0)), (1, .int a1)]) hx hb dX12_turnsGo_22 rfl hl (by decide) rfl (fun ls hl => ?_)
      obtain ⟨g60_23, ej, hf⟩ := bL_e hf
      have R60_23 : ∀ (l2_1 : Int32) (S_2 : pS) (H : Heap) (locs : List Loc) (ls : Array Slot), Wd Z s S_2 H locs → lv_has ls 4 [(2, .int l2_1)] → g60_23 l2_1 S_2 = some (r, S2) → W p l e { frames := 10, cells := 0, slots := 0, locals := 239 } s m args below meth c H locs 0 0 Q (F0 m 60 ls []) := by
        intro l2_1 S_2 H locs ls hw hl hf
        have hf := (congrFun (congrFun ej l2_1) S_2).symm.trans hf
        refine lv_iload_n hx hb dX12_turnsGo_60 rfl (lv_at hl 0 rfl) ?_
        obtain ⟨e1, e2⟩ := Prod.mk.inj (Option.some.inj hf)
        exact hret _ _ _ _ _ dX12_turnsGo_61 e1 (by rw [← e2]; exact hw)
      clear ej
      obtain ⟨b23, eb, hf⟩ := bL_e hf
      have RL23 : ∀ (n : Nat) z, (u2 g60_23) z = some (r, S2) → ∀ (l2_3 : Int32) (l3_4 : Int32) (S_5 : pS) (H : Heap) (locs : List Loc) (ls : Array Slot), Wd Z s S_5 H locs → lv_has ls 4 [(0, .ref (za Z 0)), (1, .int a1), (2, .int l2_3), (3, .int l3_4)] → bPn b23 n (l2_3, l3_4, S_5) = some z → W p l e { frames := 10, cells := 0, slots := 0, locals := 239 } s m args below meth c H locs 0 0 Q (F0 m 23 ls []) := by
        intro n
        induction n with
        | zero =>
          intro z hg l2_3 l3_4 S_5 H locs ls hw hl hz
          exact bPn_0 hz
        | succ n ih =>
          intro z hg l2_3 l3_4 S_5 H locs ls hw hl hz
          obtain ⟨q_6, hf, hz⟩ := bPn_e hz
          have hf := u3_e ((congrFun eb _).symm.trans hf)
          refine lv_iload_n hx hb dX12_turnsGo_23 rfl (lv_at hl 3 rfl) ?_
          refine lv_iload_n hx hb dX12_turnsGo_24 rfl (lv_at hl 1 rfl) ?_
          refine lv_icmp_ge (tgt := 60) hx hb dX12_turnsGo_25 (by decide) (fun c_15 => ?_) (fun c_15 => ?_)
          · have hf := (if_pos c_15).symm.trans hf
            obtain rfl := Option.some.inj hf
            obtain rfl := Option.some.inj (hz : some _ = some _)
            exact R60_23 _ _ _ _ _ hw (lv_sub hl [2] rfl) hg
          · have hf := (if_neg c_15).symm.trans hf
            refine lv_aload_n hx hb dX12_turnsGo_28 rfl (lv_at hl 0 rfl) ?_
            refine kVi (rest := []) G hw (wX12_isOn hZ S_5 (F12_isOn S_5) rfl) cw_X12_398 (m_this hZ) KX12 ⟨Nat.le_of_ble_eq_true rfl, Nat.le_of_ble_eq_true rfl⟩ rfl hl.1 rfl (Nat.le_of_ble_eq_true rfl) ⟨Nat.le_refl _, Nat.le_refl _⟩ dX12_turnsGo_29 (fun H locs hw => ?_)
            refine lv_if_eq (tgt := 60) hx hb dX12_turnsGo_32 (by decide) (fun c_14 => ?_) (fun c_14 => ?_)
            · have hf := (if_pos c_14).symm.trans hf
              obtain rfl := Option.some.inj hf
              obtain rfl := Option.some.inj (hz : some _ = some _)
              exact R60_23 _ _ _ _ _ hw (lv_sub hl [2] rfl) hg
            · have hf := (if_neg c_14).symm.trans hf
              refine lv_aload_n hx hb dX12_turnsGo_35 rfl (lv_at hl 0 rfl) ?_
              obtain ⟨S_7, hS_7, hf⟩ := bB_e hf
              refine kVv (rest := []) G hw (wX12_keeps hZ S_5 S_7 hS_7) cw_X12_404 (m_this hZ) KX12 ⟨Nat.le_of_ble_eq_true rfl, Nat.le_of_ble_eq_true rfl⟩ rfl hl.1 rfl (Nat.le_of_ble_eq_true rfl) ⟨Nat.le_refl _, Nat.le_refl _⟩ dX12_turnsGo_36 (fun H locs hw => ?_)
              refine lv_iload_n hx hb dX12_turnsGo_39 rfl (lv_at hl 2 rfl) ?_
              refine lv_aload_n hx hb dX12_turnsGo_40 rfl (lv_at hl 0 rfl) ?_
              obtain ⟨r_8, S_9, hr_8, hf⟩ := bB2_e hf
              refine kVi (rest := [.int l2_3]) G hw (wX12_goesOn hZ S_7 r_8 S_9 hr_8) cw_X12_413 (m_this hZ) KX12 ⟨Nat.le_of_ble_eq_true rfl, Nat.le_of_ble_eq_true rfl⟩ rfl hl.1 rfl (Nat.le_of_ble_eq_true rfl) ⟨Nat.le_refl _, Nat.le_refl _⟩ dX12_turnsGo_41 (fun H locs hw => ?_)
              obtain ⟨j52, ej, hf⟩ := bL_e hf
              have R52 : ∀ (t_10 : Int32) (H : Heap) (locs : List Loc) (ls : Array Slot), Wd Z s S_9 H locs → lv_has ls 4 [(0, .ref (za Z 0)), (1, .int a1), (3, .int l3_4)] → j52 t_10 = some q_6 → W p l e { frames := 10, cells := 0, slots := 0, locals := 239 } s m args below meth c H locs 0 0 Q (F0 m 52 ls [.int t_10, .int l2_3]) := by
                intro t_10 H locs ls hw hl hf
                have hf := (congrFun ej t_10).symm.trans hf
                refine lv_iadd hx hb dX12_turnsGo_52 ?_
                obtain ⟨l2_11, el2_11, hf⟩ := bL_e hf
                refine top_i el2_11 ?_
                refine lv_istore_n (lv' := [(2, .int l2_11), (0, .ref (za Z 0)), (1, .int a1), (3, .int l3_4)]) hx hb dX12_turnsGo_53 rfl hl (by decide) rfl (fun ls hl => ?_)
                obtain ⟨l3_12, el3_12, hf⟩ := bL_e hf
                refine lv_iinc (v := l3_12) (lv' := [(3, .int l3_12), (2, .int l2_11), (0, .ref (za Z 0)), (1, .int a1)]) hx hb dX12_turnsGo_54 hl (k := 3) rfl (by rw [el3_12]; rfl) (by decide) rfl (fun ls hl => ?_)
                refine lv_goto (tgt := 23) hx hb dX12_turnsGo_57 (by decide) ?_
                obtain rfl := Option.some.inj hf
                exact ih _ hg _ _ _ _ _ _ hw (lv_sub hl [2, 3, 1, 0] rfl) hz
              clear ej
              refine lv_if_eq (tgt := 51) hx hb dX12_turnsGo_44 (by decide) (fun c_13 => ?_) (fun c_13 => ?_)
              · have hf := (if_pos c_13).symm.trans hf
                refine lv_iconst hx hb dX12_turnsGo_51 ki_0 ?_
                exact R52 _ _ _ _ hw (lv_sub hl [0, 1, 3] rfl) hf
              · have hf := (if_neg c_13).symm.trans hf
                refine lv_iconst hx hb dX12_turnsGo_47 ki_1 ?_
                refine lv_goto (tgt := 52) hx hb dX12_turnsGo_48 (by decide) ?_
                exact R52 _ _ _ _ hw (lv_sub hl [0, 1, 3] rfl) hf
      clear eb
      obtain ⟨z, hz, hf⟩ := bB_e hf
      obtain ⟨n, hz⟩ := bP_e hz
      exact RL23 n z hf _ _ _ _ _ _ hw (lv_sub hl [2, 3, 1, 0] rfl) hz
    · have hf := (if_pos c_16).symm.trans hf
      refine lv_iconst hx hb dX12_turnsGo_17 ki_m1 ?_
      obtain ⟨e1, e2⟩ := Prod.mk.inj (Option.some.inj hf)
      exact hret _ _ _ _ _ dX12_turnsGo_18 e1 (by rw [← e2]; exact hw)
noncomputable def F12_meet (S : pS) : Option (pS) :=
  bL (sU S 1 0 0) fun S_1 =>
  bL (sU S_1 1 1 0) fun S_2 =>
  bL (fun (S_3 : pS) =>
    bL (F12_forgets S_3) fun S_4 =>
    some S_4) fun g54_16 =>
  bL (u2 fun (l1_5 : Int32) (S_6 : pS) =>
    if (S_6 1 68) ≤ l1_5 then
      some (.inr S_6)
    else
      bB (F12_gives S_6 l1_5 3 0) fun S_8 =>
      bB (F12_gives S_8 l1_5 2 0) fun S_9 =>
      bB (F12_gives S_9 l1_5 4 0) fun S_10 =>
      bL (l1_5 + 1) fun l1_11 =>
      some (.inl (l1_11, S_10))) fun b16 =>
  bB (bP b16 ((0 : Int32), S_2)) (u1 g54_16)
set_option maxRecDepth 100000 in
set_option maxHeartbeats 4000000 in
theorem wX12_meet {l : Launch} {Z : pZ}  (hZ : CM Z) (S : pS)  (S2 : pS)  (hf : F12_meet S = some S2) : CV l Z yX12_meet cX12_meet 2 4 83 [.ref (za Z 0)] S S2 := by
  unfold F12_meet at hf
  refine eV (own := RX12) (by decide) rfl (Nat.le_of_ble_eq_true rfl) (fun p e s m args below meth c Q ls G hl hw hret => ?_)
  obtain ⟨hx, hb, hml, hown, hts⟩ := G.1
  have hl : lv_has ls 2 [(0, .ref (za Z 0))] := hl
  refine lv_aload_n hx hb dX12_meet_0 rfl (lv_at hl 0 rfl) ?_
  refine gF G hw (m_this hZ) KX12 0 (k2 := 1) rfl (by decide) rfl fl_X12_7 dX12_meet_1 ?_
  refine lv_iconst hx hb dX12_meet_4 ki_0 ?_
  refine lv_iconst hx hb dX12_meet_5 ki_0 ?_
  obtain ⟨S_1, eS_1, hf⟩ := bL_e hf
  refine sI G hw (m_w hZ) (vin_e (by decide)) (j := 0) (by decide) eS_1 dX12_meet_6 (fun H locs hw => ?_)
  refine lv_aload_n hx hb dX12_meet_7 rfl (lv_at hl 0 rfl) ?_
  refine gF G hw (m_this hZ) KX12 0 (k2 := 1) rfl (by decide) rfl fl_X12_7 dX12_meet_8 ?_
  refine lv_iconst hx hb dX12_meet_11 ki_1 ?_
  refine lv_iconst hx hb dX12_meet_12 ki_0 ?_
  obtain ⟨S_2, eS_2, hf⟩ := bL_e hf
  refine sI G hw (m_w hZ) (vin_e (by decide)) (j := 1) (by decide) eS_2 dX12_meet_13 (fun H locs hw => ?_)
  refine lv_iconst hx hb dX12_meet_14 ki_0 ?_
  refine lv_istore_n (lv' := [(1, .int 0), (0, .ref (za Z 0))]) hx hb dX12_meet_15 rfl hl (by decide) rfl (fun ls hl => ?_)
  obtain ⟨g54_16, ej, hf⟩ := bL_e hf
  have R54_16 : ∀ (S_3 : pS) (H : Heap) (locs : List Loc) (ls : Array Slot), Wd Z s S_3 H locs → lv_has ls 2 [(0, .ref (za Z 0))] → g54_16 S_3 = some S2 → W p l e { frames := 4, cells := 0, slots := 0, locals := 83 } s m args below meth c H locs 0 0 Q (F0 m 54 ls []) := by
    intro S_3 H locs ls hw hl hf
    have hf := (congrFun ej S_3).symm.trans hf
    refine lv_aload_n hx hb dX12_meet_54 rfl (lv_at hl 0 rfl) ?_
    obtain ⟨S_4, hS_4, hf⟩ := bL_e hf
    refine kVv (rest := []) G hw (wX12_forgets hZ S_3 S_4 hS_4.symm) cw_X12_78 (m_this hZ) KX12 ⟨Nat.le_of_ble_eq_true rfl, Nat.le_of_ble_eq_true rfl⟩ rfl hl.1 rfl (Nat.le_of_ble_eq_true rfl) ⟨Nat.le_refl _, Nat.le_refl _⟩ dX12_meet_55 (fun H locs hw => ?_)
    exact hret _ _ _ _ dX12_meet_58 (by rw [← (Option.some.inj hf)]; exact hw)
  clear ej
  obtain ⟨b16, eb, hf⟩ := bL_e hf
  have RL16 : ∀ (n : Nat) z, (u1 g54_16) z = some S2 → ∀ (l1_5 : Int32) (S_6 : pS) (H : Heap) (locs : List Loc) (ls : Array Slot), Wd Z s S_6 H locs → lv_has ls 2 [(0, .ref (za Z 0)), (1, .int l1_5)] → bPn b16 n (l1_5, S_6) = some z → W p l e { frames := 4, cells := 0, slots := 0, locals := 83 } s m args below meth c H locs 0 0 Q (F0 m 16 ls []) := by
    intro n
    induction n with
    | zero =>
      intro z hg l1_5 S_6 H locs ls hw hl hz
      exact bPn_0 hz
    | succ n ih =>
      intro z hg l1_5 S_6 H locs ls hw hl hz
      obtain ⟨q_7, hf, hz⟩ := bPn_e hz
      have hf := u2_e ((congrFun eb _).symm.trans hf)
      refine lv_iload_n hx hb dX12_meet_16 rfl (lv_at hl 1 rfl) ?_
      refine lv_aload_n hx hb dX12_meet_17 rfl (lv_at hl 0 rfl) ?_
      refine gF G hw (m_this hZ) KX12 0 (k2 := 1) rfl (by decide) rfl fl_X12_7 dX12_meet_18 ?_
      refine lv_bipush hx hb dX12_meet_21 kb_68 ?_
      refine aI G hw (m_w hZ) (vin_e (by decide)) (j := 68) (by decide) dX12_meet_23 ?_
      refine lv_icmp_ge (tgt := 54) hx hb dX12_meet_24 (by decide) (fun c_12 => ?_) (fun c_12 => ?_)
      · have hf := (if_pos c_12).symm.trans hf
        obtain rfl := Option.some.inj hf
        obtain rfl := Option.some.inj (hz : some _ = some _)
        exact R54_16 _ _ _ _ hw (lv_sub hl [0] rfl) hg
      · have hf := (if_neg c_12).symm.trans hf
        refine lv_aload_n hx hb dX12_meet_27 rfl (lv_at hl 0 rfl) ?_
        refine lv_iload_n hx hb dX12_meet_28 rfl (lv_at hl 1 rfl) ?_
        refine lv_iconst hx hb dX12_meet_29 ki_3 ?_
        refine lv_iconst hx hb dX12_meet_30 ki_0 ?_
        obtain ⟨S_8, hS_8, hf⟩ := bB_e hf
        refine kVv (rest := []) G hw (wX12_gives hZ S_6 l1_5 3 0 S_8 hS_8) cw_X12_83 (m_this hZ) KX12 ⟨Nat.le_of_ble_eq_true rfl, Nat.le_of_ble_eq_true rfl⟩ rfl hl.1 rfl (Nat.le_of_ble_eq_true rfl) ⟨Nat.le_refl _, Nat.le_refl _⟩ dX12_meet_31 (fun H locs hw => ?_)
        refine lv_aload_n hx hb dX12_meet_34 rfl (lv_at hl 0 rfl) ?_
        refine lv_iload_n hx hb dX12_meet_35 rfl (lv_at hl 1 rfl) ?_
        refine lv_iconst hx hb dX12_meet_36 ki_2 ?_
        refine lv_iconst hx hb dX12_meet_37 ki_0 ?_
        obtain ⟨S_9, hS_9, hf⟩ := bB_e hf
        refine kVv (rest := []) G hw (wX12_gives hZ S_8 l1_5 2 0 S_9 hS_9) cw_X12_83 (m_this hZ) KX12 ⟨Nat.le_of_ble_eq_true rfl, Nat.le_of_ble_eq_true rfl⟩ rfl hl.1 rfl (Nat.le_of_ble_eq_true rfl) ⟨Nat.le_refl _, Nat.le_refl _⟩ dX12_meet_38 (fun H locs hw => ?_)
        refine lv_aload_n hx hb dX12_meet_41 rfl (lv_at hl 0 rfl) ?_
        refine lv_iload_n hx hb dX12_meet_42 rfl (lv_at hl 1 rfl) ?_
        refine lv_iconst hx hb dX12_meet_43 ki_4 ?_
        refine lv_iconst hx hb dX12_meet_44 ki_0 ?_
        obtain ⟨S_10, hS_10, hf⟩ := bB_e hf
        refine kVv (rest := []) G hw (wX12_gives hZ S_9 l1_5 4 0 S_10 hS_10) cw_X12_83 (m_this hZ) KX12 ⟨Nat.le_of_ble_eq_true rfl, Nat.le_of_ble_eq_true rfl⟩ rfl hl.1 rfl (Nat.le_of_ble_eq_true rfl) ⟨Nat.le_refl _, Nat.le_refl _⟩ dX12_meet_45 (fun H locs hw => ?_)
        obtain ⟨l1_11, el1_11, hf⟩ := bL_e hf
        refine lv_iinc (v := l1_11) (lv' := [(1, .int l1_11), (0, .ref (za Z 0))]) hx hb dX12_meet_48 hl (k := 1) rfl (by rw [el1_11]; rfl) (by decide) rfl (fun ls hl => ?_)
        refine lv_goto (tgt := 16) hx hb dX12_meet_51 (by decide) ?_
        obtain rfl := Option.some.inj hf
        exact ih _ hg _ _ _ _ _ hw (lv_sub hl [1, 0] rfl) hz
  clear eb
  obtain ⟨z, hz, hf⟩ := bB_e hf
  obtain ⟨n, hz⟩ := bP_e hz
  exact RL16 n z hf _ _ _ _ _ hw (lv_sub hl [1, 0] rfl) hz
noncomputable def F12_days (S : pS) (a1 : Int32) : Option (Int32 × pS) :=
  if (F12_isIn a1 1 100) = 0 then
    some ((0 : Int32), S)
  else
    if ((S 1 66) + a1) ≤ 9999 then
      bL (fun (S_1 : pS) =>
        bL (F12_forgets S_1) fun S_2 =>
        some ((1 : Int32), S_2)) fun g118_29 =>
      bL (u2 fun (l2_3 : Int32) (S_4 : pS) =>
        if a1 ≤ l2_3 then
          some (.inr S_4)
        else
          bL (fun (S_6 : pS) =>
            bL (sU S_6 1 66 ((S_6 1 66) + 1)) fun S_7 =>
            bL (l2_3 + 1) fun l2_8 =>
            some (.inl (l2_8, S_7))) fun g101_36 =>
          bL (u2 fun (l3_9 : Int32) (S_10 : pS) =>
            if (S_10 1 68) ≤ l3_9 then
              some (.inr S_10)
            else
              bB (F12_own S_10 l3_9 1) fun r_12 =>
              bB (F12_own S_10 l3_9 3) fun r_13 =>
              bB (F12_armFacts S_10 l3_9 0 0 0 r_12 r_13) fun S_14 =>
              bB (F12_own S_14 l3_9 1) fun r_15 =>
              bB2 (F12_lawSays S_14 1 26 0 1000) fun r_16 S_17 =>
              bB (F12_gives S_17 l3_9 1 (F12_greater 0 (r_15 - r_16))) fun S_18 =>
              bL (l3_9 + 1) fun l3_19 =>
              some (.inl (l3_19, S_18))) fun b36 =>
          bB (bP b36 ((0 : Int32), S_4)) (u1 g101_36)) fun b29 =>
      bB (bP b29 ((0 : Int32), S)) (u1 g118_29)
    else
      some ((0 : Int32), S)
set_option maxRecDepth 100000 in
set_option maxHeartbeats 4000000 in
theorem wX12_days {l : Launch} {Z : pZ}  (hZ : CM Z) (S : pS) (a1 : Int32) (r : Int32) (S2 : pS)  (hf : F12_days S a1 = some (r, S2)) : CI l Z yX12_days cX12_days 4 .boolean 6 134 [.ref (za Z 0), .int a1] S r S2 := by
  unfold F12_days at hf
  refine eZ (own := RX12) (by decide) rfl (Nat.le_of_ble_eq_true rfl) (fun p e s m args below meth c Q ls G hl hw hret => ?_)
  obtain ⟨hx, hb, hml, hown, hts⟩ := G.1
  have hl : lv_has ls 4 [(0, .ref (za Z 0)), (1, .int a1)] := hl
  refine lv_iload_n hx hb dX12_days_0 rfl (lv_at hl 1 rfl) ?_
  refine lv_iconst hx hb dX12_days_1 ki_1 ?_
  refine lv_bipush hx hb dX12_days_2 kb_100 ?_
  refine kSi (rest := []) G hw (wX12_isIn hZ S a1 1 100 (F12_isIn a1 1 100) rfl) cw_X12_71 ⟨Nat.le_of_ble_eq_true rfl, Nat.le_of_ble_eq_true rfl⟩ rfl hl.1 rfl (Nat.le_of_ble_eq_true rfl) ⟨Nat.le_refl _, Nat.le_refl _⟩ dX12_days_4 (fun H locs hw => ?_)
  refine lv_if_eq (tgt := 25) hx hb dX12_days_7 (by decide) (fun c_23 => ?_) (fun c_23 => ?_)
  · have hf := (if_pos c_23).symm.trans hf
    refine lv_iconst hx hb dX12_days_25 ki_0 ?_
    obtain ⟨e1, e2⟩ := Prod.mk.inj (Option.some.inj hf)
    exact hret _ _ _ _ _ dX12_days_26 ((by decide : (0 : Int32) &&& 1 = 0).trans e1) (by rw [← e2]; exact hw)
  · have hf := (if_neg c_23).symm.trans hf
    refine lv_aload_n hx hb dX12_days_10 rfl (lv_at hl 0 rfl) ?_
    refine gF G hw (m_this hZ) KX12 0 (k2 := 1) rfl (by decide) rfl fl_X12_7 dX12_days_11 ?_
    refine lv_bipush hx hb dX12_days_14 kb_66 ?_
    refine aI G hw (m_w hZ) (vin_e (by decide)) (j := 66) (by decide) dX12_days_16 ?_
    refine lv_iload_n hx hb dX12_days_17 rfl (lv_at hl 1 rfl) ?_
    refine lv_iadd hx hb dX12_days_18 ?_
    refine lv_sipush hx hb dX12_days_19 ks_9999 ?_
    refine lv_icmp_le (tgt := 27) hx hb dX12_days_22 (by decide) (fun c_22 => ?_) (fun c_22 => ?_)
    · have hf := (if_pos c_22).symm.trans hf
      refine lv_iconst hx hb dX12_days_27 ki_0 ?_
      refine lv_istore_n (lv' := [(2, .int 0), (0, .ref (za Z 0)), (1, .int a1)]) hx hb dX12_days_28 rfl hl (by decide) rfl (fun ls hl => ?_)
      obtain ⟨g118_29, ej, hf⟩ := bL_e hf
      have R118_29 : ∀ (S_1 : pS) (H : Heap) (locs : List Loc) (ls : Array Slot), Wd Z s S_1 H locs → lv_has ls 4 [(0, .ref (za Z 0))] → g118_29 S_1 = some (r, S2) → W p l e { frames := 6, cells := 0, slots := 0, locals := 134 } s m args below meth c H locs 0 0 Q (F0 m 118 ls []) := by
        intro S_1 H locs ls hw hl hf
        have hf := (congrFun ej S_1).symm.trans hf
        refine lv_aload_n hx hb dX12_days_118 rfl (lv_at hl 0 rfl) ?_
        obtain ⟨S_2, hS_2, hf⟩ := bL_e hf
        refine kVv (rest := []) G hw (wX12_forgets hZ S_1 S_2 hS_2.symm) cw_X12_78 (m_this hZ) KX12 ⟨Nat.le_of_ble_eq_true rfl, Nat.le_of_ble_eq_true rfl⟩ rfl hl.1 rfl (Nat.le_of_ble_eq_true rfl) ⟨Nat.le_refl _, Nat.le_refl _⟩ dX12_days_119 (fun H locs hw => ?_)
        refine lv_iconst hx hb dX12_days_122 ki_1 ?_
        obtain ⟨e1, e2⟩ := Prod.mk.inj (Option.some.inj hf)
        exact hret _ _ _ _ _ dX12_days_123 ((by decide : (1 : Int32) &&& 1 = 1).trans e1) (by rw [← e2]; exact hw)
      clear ej
      obtain ⟨b29, eb, hf⟩ := bL_e hf
      have RL29 : ∀ (n : Nat) z, (u1 g118_29) z = some (r, S2) → ∀ (l2_3 : Int32) (S_4 : pS) (H : Heap) (locs : List Loc) (ls : Array Slot), Wd Z s S_4 H locs → lv_has ls 4 [(0, .ref (za Z 0)), (1, .int a1), (2, .int l2_3)] → bPn b29 n (l2_3, S_4) = some z → W p l e { frames := 6, cells := 0, slots := 0, locals := 134 } s m args below meth c H locs 0 0 Q (F0 m 29 ls []) := by
        intro n
        induction n with
        | zero =>
          intro z hg l2_3 S_4 H locs ls hw hl hz
          exact bPn_0 hz
        | succ n ih =>
          intro z hg l2_3 S_4 H locs ls hw hl hz
          obtain ⟨q_5, hf, hz⟩ := bPn_e hz
          have hf := u2_e ((congrFun eb _).symm.trans hf)
          refine lv_iload_n hx hb dX12_days_29 rfl (lv_at hl 2 rfl) ?_
          refine lv_iload_n hx hb dX12_days_30 rfl (lv_at hl 1 rfl) ?_
          refine lv_icmp_ge (tgt := 118) hx hb dX12_days_31 (by decide) (fun c_21 => ?_) (fun c_21 => ?_)
          · have hf := (if_pos c_21).symm.trans hf
            obtain rfl := Option.some.inj hf
            obtain rfl := Option.some.inj (hz : some _ = some _)
            exact R118_29 _ _ _ _ hw (lv_sub hl [0] rfl) hg
          · have hf := (if_neg c_21).symm.trans hf
            refine lv_iconst hx hb dX12_days_34 ki_0 ?_
            refine lv_istore_n (lv' := [(3, .int 0), (0, .ref (za Z 0)), (1, .int a1), (2, .int l2_3)]) hx hb dX12_days_35 rfl hl (by decide) rfl (fun ls hl => ?_)
            obtain ⟨g101_36, ej, hf⟩ := bL_e hf
            have R101_36 : ∀ (S_6 : pS) (H : Heap) (locs : List Loc) (ls : Array Slot), Wd Z s S_6 H locs → lv_has ls 4 [(0, .ref (za Z 0)), (1, .int a1), (2, .int l2_3)] → g101_36 S_6 = some q_5 → W p l e { frames := 6, cells := 0, slots := 0, locals := 134 } s m args below meth c H locs 0 0 Q (F0 m 101 ls []) := by
              intro S_6 H locs ls hw hl hf
              have hf := (congrFun ej S_6).symm.trans hf
              refine lv_aload_n hx hb dX12_days_101 rfl (lv_at hl 0 rfl) ?_
              refine gF G hw (m_this hZ) KX12 0 (k2 := 1) rfl (by decide) rfl fl_X12_7 dX12_days_102 ?_
              refine lv_bipush hx hb dX12_days_105 kb_66 ?_
              refine lv_dup2_11 hx hb dX12_days_107 rfl rfl ?_
              refine aI G hw (m_w hZ) (vin_e (by decide)) (j := 66) (by decide) dX12_days_108 ?_
              refine lv_iconst hx hb dX12_days_109 ki_1 ?_
              refine lv_iadd hx hb dX12_days_110 ?_
              obtain ⟨S_7, eS_7, hf⟩ := bL_e hf
              refine sI G hw (m_w hZ) (vin_e (by decide)) (j := 66) (by decide) eS_7 dX12_days_111 (fun H locs hw => ?_)
              obtain ⟨l2_8, el2_8, hf⟩ := bL_e hf
              refine lv_iinc (v := l2_8) (lv' := [(2, .int l2_8), (0, .ref (za Z 0)), (1, .int a1)]) hx hb dX12_days_112 hl (k := 2) rfl (by rw [el2_8]; rfl) (by decide) rfl (fun ls hl => ?_)
              refine lv_goto (tgt := 29) hx hb dX12_days_115 (by decide) ?_
              obtain rfl := Option.some.inj hf
              exact ih _ hg _ _ _ _ _ hw (lv_sub hl [1, 2, 0] rfl) hz
            clear ej
            obtain ⟨b36, eb, hf⟩ := bL_e hf
            have RL36 : ∀ (n : Nat) z, (u1 g101_36) z = some q_5 → ∀ (l3_9 : Int32) (S_10 : pS) (H : Heap) (locs : List Loc) (ls : Array Slot), Wd Z s S_10 H locs → lv_has ls 4 [(0, .ref (za Z 0)), (1, .int a1), (2, .int l2_3), (3, .int l3_9)] → bPn b36 n (l3_9, S_10) = some z → W p l e { frames := 6, cells := 0, slots := 0, locals := 134 } s m args below meth c H locs 0 0 Q (F0 m 36 ls []) := by
              intro n
              induction n with
              | zero =>
                intro z hg l3_9 S_10 H locs ls hw hl hz
                exact bPn_0 hz
              | succ n ih =>
                intro z hg l3_9 S_10 H locs ls hw hl hz
                obtain ⟨q_11, hf, hz⟩ := bPn_e hz
                have hf := u2_e ((congrFun eb _).symm.trans hf)
                refine lv_iload_n hx hb dX12_days_36 rfl (lv_at hl 3 rfl) ?_
                refine lv_aload_n hx hb dX12_days_37 rfl (lv_at hl 0 rfl) ?_
                refine gF G hw (m_this hZ) KX12 0 (k2 := 1) rfl (by decide) rfl fl_X12_7 dX12_days_38 ?_
                refine lv_bipush hx hb dX12_days_41 kb_68 ?_
                refine aI G hw (m_w hZ) (vin_e (by decide)) (j := 68) (by decide) dX12_days_43 ?_
                refine lv_icmp_ge (tgt := 101) hx hb dX12_days_44 (by decide) (fun c_20 => ?_) (fun c_20 => ?_)
                · have hf := (if_pos c_20).symm.trans hf
                  obtain rfl := Option.some.inj hf
                  obtain rfl := Option.some.inj (hz : some _ = some _)
                  exact R101_36 _ _ _ _ hw (lv_sub hl [0, 1, 2] rfl) hg
                · have hf := (if_neg c_20).symm.trans hf
                  refine lv_aload_n hx hb dX12_days_47 rfl (lv_at hl 0 rfl) ?_
                  refine lv_iload_n hx hb dX12_days_48 rfl (lv_at hl 3 rfl) ?_
                  refine lv_iconst hx hb dX12_days_49 ki_0 ?_
                  refine lv_iconst hx hb dX12_days_50 ki_0 ?_
                  refine lv_iconst hx hb dX12_days_51 ki_0 ?_
                  refine lv_aload_n hx hb dX12_days_52 rfl (lv_at hl 0 rfl) ?_
                  refine lv_iload_n hx hb dX12_days_53 rfl (lv_at hl 3 rfl) ?_
                  refine lv_iconst hx hb dX12_days_54 ki_1 ?_
                  obtain ⟨r_12, hr_12, hf⟩ := bB_e hf
                  refine kVi (rest := [.int 0, .int 0, .int 0, .int l3_9, .ref (za Z 0)]) G hw (wX12_own hZ S_10 l3_9 1 r_12 hr_12) cw_X12_324 (m_this hZ) KX12 ⟨Nat.le_of_ble_eq_true rfl, Nat.le_of_ble_eq_true rfl⟩ rfl hl.1 rfl (Nat.le_of_ble_eq_true rfl) ⟨Nat.le_refl _, Nat.le_refl _⟩ dX12_days_55 (fun H locs hw => ?_)
                  refine lv_aload_n hx hb dX12_days_58 rfl (lv_at hl 0 rfl) ?_
                  refine lv_iload_n hx hb dX12_days_59 rfl (lv_at hl 3 rfl) ?_
                  refine lv_iconst hx hb dX12_days_60 ki_3 ?_
                  obtain ⟨r_13, hr_13, hf⟩ := bB_e hf
                  refine kVi (rest := [.int r_12, .int 0, .int 0, .int 0, .int l3_9, .ref (za Z 0)]) G hw (wX12_own hZ S_10 l3_9 3 r_13 hr_13) cw_X12_324 (m_this hZ) KX12 ⟨Nat.le_of_ble_eq_true rfl, Nat.le_of_ble_eq_true rfl⟩ rfl hl.1 rfl (Nat.le_of_ble_eq_true rfl) ⟨Nat.le_refl _, Nat.le_refl _⟩ dX12_days_61 (fun H locs hw => ?_)
                  obtain ⟨S_14, hS_14, hf⟩ := bB_e hf
                  refine kVv (rest := []) G hw (wX12_armFacts hZ S_10 l3_9 0 0 0 r_12 r_13 S_14 hS_14) cw_X12_376 (m_this hZ) KX12 ⟨Nat.le_of_ble_eq_true rfl, Nat.le_of_ble_eq_true rfl⟩ rfl hl.1 rfl (Nat.le_of_ble_eq_true rfl) ⟨Nat.le_refl _, Nat.le_refl _⟩ dX12_days_64 (fun H locs hw => ?_)
                  refine lv_aload_n hx hb dX12_days_67 rfl (lv_at hl 0 rfl) ?_
                  refine lv_iload_n hx hb dX12_days_68 rfl (lv_at hl 3 rfl) ?_
                  refine lv_iconst hx hb dX12_days_69 ki_1 ?_
                  refine lv_iconst hx hb dX12_days_70 ki_0 ?_
                  refine lv_aload_n hx hb dX12_days_71 rfl (lv_at hl 0 rfl) ?_
                  refine lv_iload_n hx hb dX12_days_72 rfl (lv_at hl 3 rfl) ?_
                  refine lv_iconst hx hb dX12_days_73 ki_1 ?_
                  obtain ⟨r_15, hr_15, hf⟩ := bB_e hf
                  refine kVi (rest := [.int 0, .int 1, .int l3_9, .ref (za Z 0)]) G hw (wX12_own hZ S_14 l3_9 1 r_15 hr_15) cw_X12_324 (m_this hZ) KX12 ⟨Nat.le_of_ble_eq_true rfl, Nat.le_of_ble_eq_true rfl⟩ rfl hl.1 rfl (Nat.le_of_ble_eq_true rfl) ⟨Nat.le_refl _, Nat.le_refl _⟩ dX12_days_74 (fun H locs hw => ?_)
                  refine lv_aload_n hx hb dX12_days_77 rfl (lv_at hl 0 rfl) ?_
                  refine lv_iconst hx hb dX12_days_78 ki_1 ?_
                  refine lv_bipush hx hb dX12_days_79 kb_26 ?_
                  refine lv_iconst hx hb dX12_days_81 ki_0 ?_
                  refine lv_sipush hx hb dX12_days_82 ks_1000 ?_
                  obtain ⟨r_16, S_17, hr_16, hf⟩ := bB2_e hf
                  refine kVi (rest := [.int r_15, .int 0, .int 1, .int l3_9, .ref (za Z 0)]) G hw (wX12_lawSays hZ S_14 1 26 0 1000 r_16 S_17 hr_16) cw_X12_327 (m_this hZ) KX12 ⟨Nat.le_of_ble_eq_true rfl, Nat.le_of_ble_eq_true rfl⟩ rfl hl.1 rfl (Nat.le_of_ble_eq_true rfl) ⟨Nat.le_refl _, Nat.le_refl _⟩ dX12_days_85 (fun H locs hw => ?_)
                  refine lv_isub hx hb dX12_days_88 ?_
                  refine kSi (rest := [.int 1, .int l3_9, .ref (za Z 0)]) G hw (wX12_greater hZ S_17 0 (r_15 - r_16) (F12_greater 0 (r_15 - r_16)) rfl) cw_X12_68 ⟨Nat.le_of_ble_eq_true rfl, Nat.le_of_ble_eq_true rfl⟩ rfl hl.1 rfl (Nat.le_of_ble_eq_true rfl) ⟨Nat.le_refl _, Nat.le_refl _⟩ dX12_days_89 (fun H locs hw => ?_)
                  obtain ⟨S_18, hS_18, hf⟩ := bB_e hf
                  refine kVv (rest := []) G hw (wX12_gives hZ S_17 l3_9 1 (F12_greater 0 (r_15 - r_16)) S_18 hS_18) cw_X12_83 (m_this hZ) KX12 ⟨Nat.le_of_ble_eq_true rfl, Nat.le_of_ble_eq_true rfl⟩ rfl hl.1 rfl (Nat.le_of_ble_eq_true rfl) ⟨Nat.le_refl _, Nat.le_refl _⟩ dX12_days_92 (fun H locs hw => ?_)
                  obtain ⟨l3_19, el3_19, hf⟩ := bL_e hf
                  refine lv_iinc (v := l3_19) (lv' := [(3, .int l3_19), (0, .ref (za Z 0)), (1, .int a1), (2, .int l2_3)]) hx hb dX12_days_95 hl (k := 3) rfl (by rw [el3_19]; rfl) (by decide) rfl (fun ls hl => ?_)
                  refine lv_goto (tgt := 36) hx hb dX12_days_98 (by decide) ?_
                  obtain rfl := Option.some.inj hf
                  exact ih _ hg _ _ _ _ _ hw (lv_sub hl [1, 2, 3, 0] rfl) hz
            clear eb
            obtain ⟨z, hz, hf⟩ := bB_e hf
            obtain ⟨n, hz⟩ := bP_e hz
            exact RL36 n z hf _ _ _ _ _ hw (lv_sub hl [1, 2, 3, 0] rfl) hz
      clear eb
      obtain ⟨z, hz, hf⟩ := bB_e hf
      obtain ⟨n, hz⟩ := bP_e hz
      exact RL29 n z hf _ _ _ _ _ hw (lv_sub hl [1, 2, 0] rfl) hz
    · have hf := (if_neg c_22).symm.trans hf
      refine lv_iconst hx hb dX12_days_25 ki_0 ?_
      obtain ⟨e1, e2⟩ := Prod.mk.inj (Option.some.inj hf)
      exact hret _ _ _ _ _ dX12_days_26 ((by decide : (0 : Int32) &&& 1 = 0).trans e1) (by rw [← e2]; exact hw)

noncomputable def F12_aLine (S : pS) : Option (Int32 × pS) :=
  if (F12_isIn (S 0 18) 20 28) = 0 then
    bT2 (F12_bad S 1) fun r_21 S_22 =>
    some ((r_21 &&& 1), S_22)
  else
    if (S 0 13) = 16 then
      bT2 (F12_bad S 3) fun r_18 S_19 =>
      some ((r_18 &&& 1), S_19)
    else
      bL (sU S 0 24 0) fun S_1 =>
      bG (vp_in ((4 * (S_1 0 13)) + 3) 64) <|
      bL (sU S_1 4 (((4 * (S_1 0 13)) + 3).toNatClampNeg) (S_1 0 18)) fun S_2 =>
      bB (F12_next0 S_2) fun S_3 =>
      bG (vp_in (4 * (S_3 0 13)) 64) <|
      bL (sU S_3 4 ((4 * (S_3 0 13)).toNatClampNeg) (S_3 0 14)) fun S_4 =>
      bB2 (F12_sumUp S_4) fun r_5 S_6 =>
      if r_5 = 0 then
        some ((0 : Int32), S_6)
      else
        bG (vp_in ((4 * (S_6 0 13)) + 1) 64) <|
        bL (sU S_6 4 (((4 * (S_6 0 13)) + 1).toNatClampNeg) (S_6 0 14)) fun S_7 =>
        bL (fun (S_8 : pS) =>
          bG (vp_in ((4 * (S_8 0 13)) + 2) 64) <|
          bL (sU S_8 4 (((4 * (S_8 0 13)) + 2).toNatClampNeg) (S_8 0 14)) fun S_9 =>
          bB2 (F12_need S_9 159) fun r_10 S_11 =>
          some ((r_10 &&& 1), S_11)) fun j123 =>
        if (S_7 0 18) = 3 then
          bB (F12_next0 S_7) fun S_12 =>
          bB2 (F12_any S_12) fun r_13 S_14 =>
          if r_13 = 0 then
            some ((0 : Int32), S_14)
          else
            j123 S_14
        else
          j123 S_7
set_option maxRecDepth 100000 in
set_option maxHeartbeats 4000000 in
theorem wX12_aLine {l : Launch} {Z : pZ}  (hZ : CM Z) (S : pS)  (r : Int32) (S2 : pS)  (hf : F12_aLine S = some (r, S2)) : CI l Z yX12_aLine cX12_aLine 1 .boolean 55 2729 [.ref (za Z 0)] S r S2 := by
  unfold F12_aLine at hf
  refine eZ (own := RX12) (by decide) rfl (Nat.le_of_ble_eq_true rfl) (fun p e s m args below meth c Q ls G hl hw hret => ?_)
  obtain ⟨hx, hb, hml, hown, hts⟩ := G.1
  have hl : lv_has ls 1 [(0, .ref (za Z 0))] := hl
  refine lv_aload_n hx hb dX12_aLine_0 rfl (lv_at hl 0 rfl) ?_
  refine gI G hw (m_this hZ) KX12 18 (by decide) rfl fl_X12_212 dX12_aLine_1 ?_
  refine lv_bipush hx hb dX12_aLine_4 kb_20 ?_
  refine lv_bipush hx hb dX12_aLine_6 kb_28 ?_
  refine kSi (rest := []) G hw (wX12_isIn hZ S (S 0 18) 20 28 (F12_isIn (S 0 18) 20 28) rfl) cw_X12_71 ⟨Nat.le_of_ble_eq_true rfl, Nat.le_of_ble_eq_true rfl⟩ rfl hl.1 rfl (Nat.le_of_ble_eq_true rfl) ⟨Nat.le_refl _, Nat.le_refl _⟩ dX12_aLine_8 (fun H locs hw => ?_)
  refine lv_if_ne (tgt := 20) hx hb dX12_aLine_11 (by decide) (fun c_23 => ?_) (fun c_23 => ?_)
  · have hf := (if_neg c_23).symm.trans hf
    refine lv_aload_n hx hb dX12_aLine_20 rfl (lv_at hl 0 rfl) ?_
    refine gI G hw (m_this hZ) KX12 13 (by decide) rfl fl_X12_274 dX12_aLine_21 ?_
    refine lv_bipush hx hb dX12_aLine_24 kb_16 ?_
    refine lv_icmp_ne (tgt := 35) hx hb dX12_aLine_26 (by decide) (fun c_20 => ?_) (fun c_20 => ?_)
    · have hf := (if_neg c_20).symm.trans hf
      refine lv_aload_n hx hb dX12_aLine_35 rfl (lv_at hl 0 rfl) ?_
      refine lv_iconst hx hb dX12_aLine_36 ki_0 ?_
      obtain ⟨S_1, eS_1, hf⟩ := bL_e hf
      refine pI G hw (m_this hZ) KX12 24 (by decide) rfl rfl rfl eS_1 fl_X12_242 dX12_aLine_37 (fun H locs hw => ?_)
      refine lv_aload_n hx hb dX12_aLine_40 rfl (lv_at hl 0 rfl) ?_
      refine gF G hw (m_this hZ) KX12 5 (k2 := 4) rfl (by decide) rfl fl_X12_19 dX12_aLine_41 ?_
      refine lv_iconst hx hb dX12_aLine_44 ki_4 ?_
      refine lv_aload_n hx hb dX12_aLine_45 rfl (lv_at hl 0 rfl) ?_
      refine gI G hw (m_this hZ) KX12 13 (by decide) rfl fl_X12_274 dX12_aLine_46 ?_
      refine lv_imul hx hb dX12_aLine_49 ?_
      refine lv_iconst hx hb dX12_aLine_50 ki_3 ?_
      refine lv_iadd hx hb dX12_aLine_51 ?_
      refine lv_aload_n hx hb dX12_aLine_52 rfl (lv_at hl 0 rfl) ?_
      refine gI G hw (m_this hZ) KX12 18 (by decide) rfl fl_X12_212 dX12_aLine_53 ?_
      obtain ⟨hg1, hf⟩ := bG_e hf
      obtain ⟨S_2, eS_2, hf⟩ := bL_e hf
      refine sI G hw (m_freshLine hZ) hg1 (j := ((4 * (S_1 0 13)) + 3).toNatClampNeg) rfl eS_2 dX12_aLine_56 (fun H locs hw => ?_)
      refine lv_aload_n hx hb dX12_aLine_57 rfl (lv_at hl 0 rfl) ?_
      obtain ⟨S_3, hS_3, hf⟩ := bB_e hf
      refine kVv (rest := []) G hw (wX12_next0 hZ S_2 S_3 hS_3) cw_X12_236 (m_this hZ) KX12 ⟨Nat.le_of_ble_eq_true rfl, Nat.le_of_ble_eq_true rfl⟩ rfl hl.1 rfl (Nat.le_of_ble_eq_true rfl) ⟨Nat.le_refl _, Nat.le_refl _⟩ dX12_aLine_58 (fun H locs hw => ?_)
      refine lv_aload_n hx hb dX12_aLine_61 rfl (lv_at hl 0 rfl) ?_
      refine gF G hw (m_this hZ) KX12 5 (k2 := 4) rfl (by decide) rfl fl_X12_19 dX12_aLine_62 ?_
      refine lv_iconst hx hb dX12_aLine_65 ki_4 ?_
      refine lv_aload_n hx hb dX12_aLine_66 rfl (lv_at hl 0 rfl) ?_
      refine gI G hw (m_this hZ) KX12 13 (by decide) rfl fl_X12_274 dX12_aLine_67 ?_
      refine lv_imul hx hb dX12_aLine_70 ?_
      refine lv_aload_n hx hb dX12_aLine_71 rfl (lv_at hl 0 rfl) ?_
      refine gI G hw (m_this hZ) KX12 14 (by decide) rfl fl_X12_239 dX12_aLine_72 ?_
      obtain ⟨hg1, hf⟩ := bG_e hf
      obtain ⟨S_4, eS_4, hf⟩ := bL_e hf
      refine sI G hw (m_freshLine hZ) hg1 (j := (4 * (S_3 0 13)).toNatClampNeg) rfl eS_4 dX12_aLine_75 (fun H locs hw => ?_)
      refine lv_aload_n hx hb dX12_aLine_76 rfl (lv_at hl 0 rfl) ?_
      obtain ⟨r_5, S_6, hr_5, hf⟩ := bB2_e hf
      refine kVi (rest := []) G hw (wX12_sumUp hZ S_4 r_5 S_6 hr_5) cw_X12_271 (m_this hZ) KX12 ⟨Nat.le_of_ble_eq_true rfl, Nat.le_of_ble_eq_true rfl⟩ rfl hl.1 rfl (Nat.le_of_ble_eq_true rfl) ⟨Nat.le_refl _, Nat.le_refl _⟩ dX12_aLine_77 (fun H locs hw => ?_)
      refine lv_if_ne (tgt := 85) hx hb dX12_aLine_80 (by decide) (fun c_17 => ?_) (fun c_17 => ?_)
      · have hf := (if_neg c_17).symm.trans hf
        refine lv_aload_n hx hb dX12_aLine_85 rfl (lv_at hl 0 rfl) ?_
        refine gF G hw (m_this hZ) KX12 5 (k2 := 4) rfl (by decide) rfl fl_X12_19 dX12_aLine_86 ?_
        refine lv_iconst hx hb dX12_aLine_89 ki_4 ?_
        refine lv_aload_n hx hb dX12_aLine_90 rfl (lv_at hl 0 rfl) ?_
        refine gI G hw (m_this hZ) KX12 13 (by decide) rfl fl_X12_274 dX12_aLine_91 ?_
        refine lv_imul hx hb dX12_aLine_94 ?_
        refine lv_iconst hx hb dX12_aLine_95 ki_1 ?_
        refine lv_iadd hx hb dX12_aLine_96 ?_
        refine lv_aload_n hx hb dX12_aLine_97 rfl (lv_at hl 0 rfl) ?_
        refine gI G hw (m_this hZ) KX12 14 (by decide) rfl fl_X12_239 dX12_aLine_98 ?_
        obtain ⟨hg1, hf⟩ := bG_e hf
        obtain ⟨S_7, eS_7, hf⟩ := bL_e hf
        refine sI G hw (m_freshLine hZ) hg1 (j := ((4 * (S_6 0 13)) + 1).toNatClampNeg) rfl eS_7 dX12_aLine_101 (fun H locs hw => ?_)
        refine lv_aload_n hx hb dX12_aLine_102 rfl (lv_at hl 0 rfl) ?_
        refine gI G hw (m_this hZ) KX12 18 (by decide) rfl fl_X12_212 dX12_aLine_103 ?_
        refine lv_iconst hx hb dX12_aLine_106 ki_3 ?_
        obtain ⟨j123, ej, hf⟩ := bL_e hf
        have R123 : ∀ (S_8 : pS) (H : Heap) (locs : List Loc) (ls : Array Slot), Wd Z s S_8 H locs → lv_has ls 1 [(0, .ref (za Z 0))] → j123 S_8 = some (r, S2) → W p l e { frames := 55, cells := 0, slots := 0, locals := 2729 } s m args below meth c H locs 0 0 Q (F0 m 123 ls []) := by
          intro S_8 H locs ls hw hl hf
          have hf := (congrFun ej S_8).symm.trans hf
          refine lv_aload_n hx hb dX12_aLine_123 rfl (lv_at hl 0 rfl) ?_
          refine gF G hw (m_this hZ) KX12 5 (k2 := 4) rfl (by decide) rfl fl_X12_19 dX12_aLine_124 ?_
          refine lv_iconst hx hb dX12_aLine_127 ki_4 ?_
          refine lv_aload_n hx hb dX12_aLine_128 rfl (lv_at hl 0 rfl) ?_
          refine gI G hw (m_this hZ) KX12 13 (by decide) rfl fl_X12_274 dX12_aLine_129 ?_
          refine lv_imul hx hb dX12_aLine_132 ?_
          refine lv_iconst hx hb dX12_aLine_133 ki_2 ?_
          refine lv_iadd hx hb dX12_aLine_134 ?_
          refine lv_aload_n hx hb dX12_aLine_135 rfl (lv_at hl 0 rfl) ?_
          refine gI G hw (m_this hZ) KX12 14 (by decide) rfl fl_X12_239 dX12_aLine_136 ?_
          obtain ⟨hg1, hf⟩ := bG_e hf
          obtain ⟨S_9, eS_9, hf⟩ := bL_e hf
          refine sI G hw (m_freshLine hZ) hg1 (j := ((4 * (S_8 0 13)) + 2).toNatClampNeg) rfl eS_9 dX12_aLine_139 (fun H locs hw => ?_)
          refine lv_aload_n hx hb dX12_aLine_140 rfl (lv_at hl 0 rfl) ?_
          refine lv_sipush hx hb dX12_aLine_141 ks_159 ?_
          obtain ⟨r_10, S_11, hr_10, hf⟩ := bB2_e hf
          refine kVi (rest := []) G hw (wX12_need hZ S_9 159 r_10 S_11 hr_10) cw_X12_268 (m_this hZ) KX12 ⟨Nat.le_of_ble_eq_true rfl, Nat.le_of_ble_eq_true rfl⟩ rfl hl.1 rfl (Nat.le_of_ble_eq_true rfl) ⟨Nat.le_refl _, Nat.le_refl _⟩ dX12_aLine_144 (fun H locs hw => ?_)
          obtain ⟨e1, e2⟩ := Prod.mk.inj (Option.some.inj hf)
          exact hret _ _ _ _ _ dX12_aLine_147 e1 (by rw [← e2]; exact hw)
        clear ej
        refine lv_icmp_ne (tgt := 123) hx hb dX12_aLine_107 (by decide) (fun c_16 => ?_) (fun c_16 => ?_)
        · have hf := (if_neg c_16).symm.trans hf
          exact R123 _ _ _ _ hw (lv_sub hl [0] rfl) hf
        · have hf := (if_pos c_16).symm.trans hf
          refine lv_aload_n hx hb dX12_aLine_110 rfl (lv_at hl 0 rfl) ?_
          obtain ⟨S_12, hS_12, hf⟩ := bB_e hf
          refine kVv (rest := []) G hw (wX12_next0 hZ S_7 S_12 hS_12) cw_X12_236 (m_this hZ) KX12 ⟨Nat.le_of_ble_eq_true rfl, Nat.le_of_ble_eq_true rfl⟩ rfl hl.1 rfl (Nat.le_of_ble_eq_true rfl) ⟨Nat.le_refl _, Nat.le_refl _⟩ dX12_aLine_111 (fun H locs hw => ?_)
          refine lv_aload_n hx hb dX12_aLine_114 rfl (lv_at hl 0 rfl) ?_
          obtain ⟨r_13, S_14, hr_13, hf⟩ := bB2_e hf
          refine kVi (rest := []) G hw (wX12_any hZ S_12 r_13 S_14 hr_13) cw_X12_265 (m_this hZ) KX12 ⟨Nat.le_of_ble_eq_true rfl, Nat.le_of_ble_eq_true rfl⟩ rfl hl.1 rfl (Nat.le_of_ble_eq_true rfl) ⟨Nat.le_refl _, Nat.le_refl _⟩ dX12_aLine_115 (fun H locs hw => ?_)
          refine lv_if_ne (tgt := 123) hx hb dX12_aLine_118 (by decide) (fun c_15 => ?_) (fun c_15 => ?_)
          · have hf := (if_neg c_15).symm.trans hf
            exact R123 _ _ _ _ hw (lv_sub hl [0] rfl) hf
          · have hf := (if_pos c_15).symm.trans hf
            refine lv_iconst hx hb dX12_aLine_121 ki_0 ?_
            obtain ⟨e1, e2⟩ := Prod.mk.inj (Option.some.inj hf)
            exact hret _ _ _ _ _ dX12_aLine_122 ((by decide : (0 : Int32) &&& 1 = 0).trans e1) (by rw [← e2]; exact hw)
      · have hf := (if_pos c_17).symm.trans hf
        refine lv_iconst hx hb dX12_aLine_83 ki_0 ?_
        obtain ⟨e1, e2⟩ := Prod.mk.inj (Option.some.inj hf)
        exact hret _ _ _ _ _ dX12_aLine_84 ((by decide : (0 : Int32) &&& 1 = 0).trans e1) (by rw [← e2]; exact hw)
    · have hf := (if_pos c_20).symm.trans hf
      refine lv_aload_n hx hb dX12_aLine_29 rfl (lv_at hl 0 rfl) ?_
      refine lv_iconst hx hb dX12_aLine_30 ki_3 ?_
      obtain ⟨r_18, S_19, hr_18, hf⟩ := bT2_e hf
      refine kVi (rest := []) G hw (wX12_bad hZ S 3 r_18 S_19 hr_18) cw_X12_233 (m_this hZ) KX12 ⟨Nat.le_of_ble_eq_true rfl, Nat.le_of_ble_eq_true rfl⟩ rfl hl.1 rfl (Nat.le_of_ble_eq_true rfl) ⟨Nat.le_refl _, Nat.le_refl _⟩ dX12_aLine_31 (fun H locs hw => ?_)
      obtain ⟨e1, e2⟩ := Prod.mk.inj (Option.some.inj hf)
      exact hret _ _ _ _ _ dX12_aLine_34 e1 (by rw [← e2]; exact hw)
  · have hf := (if_pos c_23).symm.trans hf
    refine lv_aload_n hx hb dX12_aLine_14 rfl (lv_at hl 0 rfl) ?_
    refine lv_iconst hx hb dX12_aLine_15 ki_1 ?_
    obtain ⟨r_21, S_22, hr_21, hf⟩ := bT2_e hf
    refine kVi (rest := []) G hw (wX12_bad hZ S 1 r_21 S_22 hr_21) cw_X12_233 (m_this hZ) KX12 ⟨Nat.le_of_ble_eq_true rfl, Nat.le_of_ble_eq_true rfl⟩ rfl hl.1 rfl (Nat.le_of_ble_eq_true rfl) ⟨Nat.le_refl _, Nat.le_refl _⟩ dX12_aLine_16 (fun H locs hw => ?_)
    obtain ⟨e1, e2⟩ := Prod.mk.inj (Option.some.inj hf)
    exact hret _ _ _ _ _ dX12_aLine_19 e1 (by rw [← e2]; exact hw)
noncomputable def F12_readsLaw (S : pS) : Option (Int32 × pS) :=
  bL (sU S 0 13 0) fun S_1 =>
  bL (sU S_1 0 14 0) fun S_2 =>
  bL (fun (l1_3 : Int32) (S_4 : pS) =>
    some ((l1_3 &&& 1), S_4)) fun g49_12 =>
  bL (u2 fun (l1_5 : Int32) (S_6 : pS) =>
    if l1_5 = 0 then
      some (.inr (l1_5, S_6))
    else
      if (S_6 0 18) = 0 then
        some (.inr (l1_5, S_6))
      else
        bB2 (F12_aLine S_6) fun r_8 S_9 =>
        bL (fun (t_10 : Int32) =>
          bL (sU S_9 0 13 ((S_9 0 13) + t_10)) fun S_11 =>
          some (.inl (r_8, S_11))) fun j42 =>
        if r_8 = 0 then
          j42 0
        else
          j42 1) fun b12 =>
  bB (bP b12 ((1 : Int32), S_2)) (u2 g49_12)
set_option maxRecDepth 100000 in
set_option maxHeartbeats 4000000 in
theorem wX12_readsLaw {l : Launch} {Z : pZ}  (hZ : CM Z) (S : pS)  (r : Int32) (S2 : pS)  (hf : F12_readsLaw S = some (r, S2)) : CI l Z yX12_readsLaw cX12_readsLaw 2 .boolean 56 2749 [.ref (za Z 0)] S r S2 := by
  unfold F12_readsLaw at hf
  refine eZ (own := RX12) (by decide) rfl (Nat.le_of_ble_eq_true rfl) (fun p e s m args below meth c Q ls G hl hw hret => ?_)
  obtain ⟨hx, hb, hml, hown, hts⟩ := G.1
  have hl : lv_has ls 2 [(0, .ref (za Z 0))] := hl
  refine lv_aload_n hx hb dX12_readsLaw_0 rfl (lv_at hl 0 rfl) ?_
  refine lv_iconst hx hb dX12_readsLaw_1 ki_0 ?_
  obtain ⟨S_1, eS_1, hf⟩ := bL_e hf
  refine pI G hw (m_this hZ) KX12 13 (by decide) rfl rfl rfl eS_1 fl_X12_274 dX12_readsLaw_2 (fun H locs hw => ?_)
  refine lv_aload_n hx hb dX12_readsLaw_5 rfl (lv_at hl 0 rfl) ?_
  refine lv_iconst hx hb dX12_readsLaw_6 ki_0 ?_
  obtain ⟨S_2, eS_2, hf⟩ := bL_e hf
  refine pI G hw (m_this hZ) KX12 14 (by decide) rfl rfl rfl eS_2 fl_X12_239 dX12_readsLaw_7 (fun H locs hw => ?_)
  refine lv_iconst hx hb dX12_readsLaw_10 ki_1 ?_
  refine lv_istore_n (lv' := [(1, .int 1), (0, .ref (za Z 0))]) hx hb dX12_readsLaw_11 rfl hl (by decide) rfl (fun ls hl => ?_)
  obtain ⟨g49_12, ej, hf⟩ := bL_e hf
  have R49_12 : ∀ (l1_3 : Int32) (S_4 : pS) (H : Heap) (locs : List Loc) (ls : Array Slot), Wd Z s S_4 H locs → lv_has ls 2 [(1, .int l1_3)] → g49_12 l1_3 S_4 = some (r, S2) → W p l e { frames := 56, cells := 0, slots := 0, locals := 2749 } s m args below meth c H locs 0 0 Q (F0 m 49 ls []) := by
    intro l1_3 S_4 H locs ls hw hl hf
    have hf := (congrFun (congrFun ej l1_3) S_4).symm.trans hf
    refine lv_iload_n hx hb dX12_readsLaw_49 rfl (lv_at hl 0 rfl) ?_
    obtain ⟨e1, e2⟩ := Prod.mk.inj (Option.some.inj hf)
    exact hret _ _ _ _ _ dX12_readsLaw_50 e1 (by rw [← e2]; exact hw)
  clear ej
  obtain ⟨b12, eb, hf⟩ := bL_e hf
  have RL12 : ∀ (n : Nat) z, (u2 g49_12) z = some (r, S2) → ∀ (l1_5 : Int32) (S_6 : pS) (H : Heap) (locs : List Loc) (ls : Array Slot), Wd Z s S_6 H locs → lv_has ls 2 [(0, .ref (za Z 0)), (1, .int l1_5)] → bPn b12 n (l1_5, S_6) = some z → W p l e { frames := 56, cells := 0, slots := 0, locals := 2749 } s m args below meth c H locs 0 0 Q (F0 m 12 ls []) := by
    intro n
    induction n with
    | zero =>
      intro z hg l1_5 S_6 H locs ls hw hl hz
      exact bPn_0 hz
    | succ n ih =>
      intro z hg l1_5 S_6 H locs ls hw hl hz
      obtain ⟨q_7, hf, hz⟩ := bPn_e hz
      have hf := u2_e ((congrFun eb _).symm.trans hf)
      refine lv_iload_n hx hb dX12_readsLaw_12 rfl (lv_at hl 1 rfl) ?_
      refine lv_if_eq (tgt := 49) hx hb dX12_readsLaw_13 (by decide) (fun c_14 => ?_) (fun c_14 => ?_)
      · have hf := (if_pos c_14).symm.trans hf
        obtain rfl := Option.some.inj hf
        obtain rfl := Option.some.inj (hz : some _ = some _)
        exact R49_12 _ _ _ _ _ hw (lv_sub hl [1] rfl) hg
      · have hf := (if_neg c_14).symm.trans hf
        refine lv_aload_n hx hb dX12_readsLaw_16 rfl (lv_at hl 0 rfl) ?_
        refine gI G hw (m_this hZ) KX12 18 (by decide) rfl fl_X12_212 dX12_readsLaw_17 ?_
        refine lv_if_eq (tgt := 49) hx hb dX12_readsLaw_20 (by decide) (fun c_13 => ?_) (fun c_13 => ?_)
        · have hf := (if_pos c_13).symm.trans hf
          obtain rfl := Option.some.inj hf
          obtain rfl := Option.some.inj (hz : some _ = some _)
          exact R49_12 _ _ _ _ _ hw (lv_sub hl [1] rfl) hg
        · have hf := (if_neg c_13).symm.trans hf
          refine lv_aload_n hx hb dX12_readsLaw_23 rfl (lv_at hl 0 rfl) ?_
          obtain ⟨r_8, S_9, hr_8, hf⟩ := bB2_e hf
          refine kVi (rest := []) G hw (wX12_aLine hZ S_6 r_8 S_9 hr_8) cw_X12_277 (m_this hZ) KX12 ⟨Nat.le_of_ble_eq_true rfl, Nat.le_of_ble_eq_true rfl⟩ rfl hl.1 rfl (Nat.le_of_ble_eq_true rfl) ⟨Nat.le_refl _, Nat.le_refl _⟩ dX12_readsLaw_24 (fun H locs hw => ?_)
          refine lv_istore_n (lv' := [(1, .int r_8), (0, .ref (za Z 0))]) hx hb dX12_readsLaw_27 rfl hl (by decide) rfl (fun ls hl => ?_)
          refine lv_aload_n hx hb dX12_readsLaw_28 rfl (lv_at hl 1 rfl) ?_
          refine lv_dup hx hb dX12_readsLaw_29 rfl ?_
          refine gI G hw (m_this hZ) KX12 13 (by decide) rfl fl_X12_274 dX12_readsLaw_30 ?_
          refine lv_iload_n hx hb dX12_readsLaw_33 rfl (lv_at hl 0 rfl) ?_
          obtain ⟨j42, ej, hf⟩ := bL_e hf
          have R42 : ∀ (t_10 : Int32) (H : Heap) (locs : List Loc) (ls : Array Slot), Wd Z s S_9 H locs → lv_has ls 2 [(0, .ref (za Z 0)), (1, .int r_8)] → j42 t_10 = some q_7 → W p l e { frames := 56, cells := 0, slots := 0, locals := 2749 } s m args below meth c H locs 0 0 Q (F0 m 42 ls [.int t_10, .int (S_9 0 13), .ref (za Z 0)]) := by
            intro t_10 H locs ls hw hl hf
            have hf := (congrFun ej t_10).symm.trans hf
            refine lv_iadd hx hb dX12_readsLaw_42 ?_
            obtain ⟨S_11, eS_11, hf⟩ := bL_e hf
            refine pI G hw (m_this hZ) KX12 13 (by decide) rfl rfl rfl eS_11 fl_X12_274 dX12_readsLaw_43 (fun H locs hw => ?_)
            refine lv_goto (tgt := 12) hx hb dX12_readsLaw_46 (by decide) ?_
            obtain rfl := Option.some.inj hf
            exact ih _ hg _ _ _ _ _ hw (lv_sub hl [0, 1] rfl) hz
          clear ej
          refine lv_if_eq (tgt := 41) hx hb dX12_readsLaw_34 (by decide) (fun c_12 => ?_) (fun c_12 => ?_)
          · have hf := (if_pos c_12).symm.trans hf
            refine lv_iconst hx hb dX12_readsLaw_41 ki_0 ?_
            exact R42 _ _ _ _ hw (lv_sub hl [1, 0] rfl) hf
          · have hf := (if_neg c_12).symm.trans hf
            refine lv_iconst hx hb dX12_readsLaw_37 ki_1 ?_
            refine lv_goto (tgt := 42) hx hb dX12_readsLaw_38 (by decide) ?_
            exact R42 _ _ _ _ hw (lv_sub hl [1, 0] rfl) hf
  clear eb
  obtain ⟨z, hz, hf⟩ := bB_e hf
  obtain ⟨n, hz⟩ := bP_e hz
  exact RL12 n z hf _ _ _ _ _ hw (lv_sub hl [1, 0] rfl) hz
noncomputable def F12_number (S : pS) (a1 : Int32) (a2 : Int32) : Option (Int32 × pS) :=
  if (S 0 18) = 2 then
    if (F12_isIn (S 0 20) a1 a2) = 0 then
      bT2 (F12_bad S 2) fun r_3 S_4 =>
      some ((r_3 &&& 1), S_4)
    else
      bL (sU S 0 26 (S 0 20)) fun S_1 =>
      bB (F12_next0 S_1) fun S_2 =>
      some ((1 : Int32), S_2)
  else
    bT2 (F12_bad S 1) fun r_6 S_7 =>
    some ((r_6 &&& 1), S_7)
set_option maxRecDepth 100000 in
set_option maxHeartbeats 4000000 in
theorem wX12_number {l : Launch} {Z : pZ}  (hZ : CM Z) (S : pS) (a1 : Int32) (a2 : Int32) (r : Int32) (S2 : pS)  (hf : F12_number S a1 a2 = some (r, S2)) : CI l Z yX12_number cX12_number 3 .boolean 11 245 [.ref (za Z 0), .int a1, .int a2] S r S2 := by
  unfold F12_number at hf
  refine eZ (own := RX12) (by decide) rfl (Nat.le_of_ble_eq_true rfl) (fun p e s m args below meth c Q ls G hl hw hret => ?_)
  obtain ⟨hx, hb, hml, hown, hts⟩ := G.1
  have hl : lv_has ls 3 [(0, .ref (za Z 0)), (1, .int a1), (2, .int a2)] := hl
  refine lv_aload_n hx hb dX12_number_0 rfl (lv_at hl 0 rfl) ?_
  refine gI G hw (m_this hZ) KX12 18 (by decide) rfl fl_X12_212 dX12_number_1 ?_
  refine lv_iconst hx hb dX12_number_4 ki_2 ?_
  refine lv_icmp_eq (tgt := 14) hx hb dX12_number_5 (by decide) (fun c_8 => ?_) (fun c_8 => ?_)
  · have hf := (if_pos c_8).symm.trans hf
    refine lv_aload_n hx hb dX12_number_14 rfl (lv_at hl 0 rfl) ?_
    refine gI G hw (m_this hZ) KX12 20 (by decide) rfl fl_X12_224 dX12_number_15 ?_
    refine lv_iload_n hx hb dX12_number_18 rfl (lv_at hl 1 rfl) ?_
    refine lv_iload_n hx hb dX12_number_19 rfl (lv_at hl 2 rfl) ?_
    refine kSi (rest := []) G hw (wX12_isIn hZ S (S 0 20) a1 a2 (F12_isIn (S 0 20) a1 a2) rfl) cw_X12_71 ⟨Nat.le_of_ble_eq_true rfl, Nat.le_of_ble_eq_true rfl⟩ rfl hl.1 rfl (Nat.le_of_ble_eq_true rfl) ⟨Nat.le_refl _, Nat.le_refl _⟩ dX12_number_20 (fun H locs hw => ?_)
    refine lv_if_ne (tgt := 32) hx hb dX12_number_23 (by decide) (fun c_5 => ?_) (fun c_5 => ?_)
    · have hf := (if_neg c_5).symm.trans hf
      refine lv_aload_n hx hb dX12_number_32 rfl (lv_at hl 0 rfl) ?_
      refine lv_aload_n hx hb dX12_number_33 rfl (lv_at hl 0 rfl) ?_
      refine gI G hw (m_this hZ) KX12 20 (by decide) rfl fl_X12_224 dX12_number_34 ?_
      obtain ⟨S_1, eS_1, hf⟩ := bL_e hf
      refine pI G hw (m_this hZ) KX12 26 (by decide) rfl rfl rfl eS_1 fl_X12_280 dX12_number_37 (fun H locs hw => ?_)
      refine lv_aload_n hx hb dX12_number_40 rfl (lv_at hl 0 rfl) ?_
      obtain ⟨S_2, hS_2, hf⟩ := bB_e hf
      refine kVv (rest := []) G hw (wX12_next0 hZ S_1 S_2 hS_2) cw_X12_236 (m_this hZ) KX12 ⟨Nat.le_of_ble_eq_true rfl, Nat.le_of_ble_eq_true rfl⟩ rfl hl.1 rfl (Nat.le_of_ble_eq_true rfl) ⟨Nat.le_refl _, Nat.le_refl _⟩ dX12_number_41 (fun H locs hw => ?_)
      refine lv_iconst hx hb dX12_number_44 ki_1 ?_
      obtain ⟨e1, e2⟩ := Prod.mk.inj (Option.some.inj hf)
      exact hret _ _ _ _ _ dX12_number_45 ((by decide : (1 : Int32) &&& 1 = 1).trans e1) (by rw [← e2]; exact hw)
    · have hf := (if_pos c_5).symm.trans hf
      refine lv_aload_n hx hb dX12_number_26 rfl (lv_at hl 0 rfl) ?_
      refine lv_iconst hx hb dX12_number_27 ki_2 ?_
      obtain ⟨r_3, S_4, hr_3, hf⟩ := bT2_e hf
      refine kVi (rest := []) G hw (wX12_bad hZ S 2 r_3 S_4 hr_3) cw_X12_233 (m_this hZ) KX12 ⟨Nat.le_of_ble_eq_true rfl, Nat.le_of_ble_eq_true rfl⟩ rfl hl.1 rfl (Nat.le_of_ble_eq_true rfl) ⟨Nat.le_refl _, Nat.le_refl _⟩ dX12_number_28 (fun H locs hw => ?_)
      obtain ⟨e1, e2⟩ := Prod.mk.inj (Option.some.inj hf)
      exact hret _ _ _ _ _ dX12_number_31 e1 (by rw [← e2]; exact hw)
  · have hf := (if_neg c_8).symm.trans hf
    refine lv_aload_n hx hb dX12_number_8 rfl (lv_at hl 0 rfl) ?_
    refine lv_iconst hx hb dX12_number_9 ki_1 ?_
    obtain ⟨r_6, S_7, hr_6, hf⟩ := bT2_e hf
    refine kVi (rest := []) G hw (wX12_bad hZ S 1 r_6 S_7 hr_6) cw_X12_233 (m_this hZ) KX12 ⟨Nat.le_of_ble_eq_true rfl, Nat.le_of_ble_eq_true rfl⟩ rfl hl.1 rfl (Nat.le_of_ble_eq_true rfl) ⟨Nat.le_refl _, Nat.le_refl _⟩ dX12_number_10 (fun H locs hw => ?_)
    obtain ⟨e1, e2⟩ := Prod.mk.inj (Option.some.inj hf)
    exact hret _ _ _ _ _ dX12_number_13 e1 (by rw [← e2]; exact hw)
noncomputable def F12_told (S : pS) (a1 : Int32) (a2 : Int32) (a3 : Int32) : Option (Int32 × pS) :=
  bB2 (F12_need S a2) fun r_1 S_2 =>
  if r_1 = 0 then
    some ((0 : Int32), S_2)
  else
    bB2 (F12_number S_2 0 a3) fun r_3 S_4 =>
    if r_3 = 0 then
      some ((0 : Int32), S_4)
    else
      bG (vp_in ((5 * (S_4 0 15)) + a1) 60) <|
      bL (sU S_4 6 (((5 * (S_4 0 15)) + a1).toNatClampNeg) (S_4 0 26)) fun S_5 =>
      some ((1 : Int32), S_5)
set_option maxRecDepth 100000 in
set_option maxHeartbeats 4000000 in
theorem wX12_told {l : Launch} {Z : pZ}  (hZ : CM Z) (S : pS) (a1 : Int32) (a2 : Int32) (a3 : Int32) (r : Int32) (S2 : pS)  (hf : F12_told S a1 a2 a3 = some (r, S2)) : CI l Z yX12_told cX12_told 4 .boolean 12 267 [.ref (za Z 0), .int a1, .int a2, .int a3] S r S2 := by
  unfold F12_told at hf
  refine eZ (own := RX12) (by decide) rfl (Nat.le_of_ble_eq_true rfl) (fun p e s m args below meth c Q ls G hl hw hret => ?_)
  obtain ⟨hx, hb, hml, hown, hts⟩ := G.1
  have hl : lv_has ls 4 [(0, .ref (za Z 0)), (1, .int a1), (2, .int a2), (3, .int a3)] := hl
  refine lv_aload_n hx hb dX12_told_0 rfl (lv_at hl 0 rfl) ?_
  refine lv_iload_n hx hb dX12_told_1 rfl (lv_at hl 2 rfl) ?_
  obtain ⟨r_1, S_2, hr_1, hf⟩ := bB2_e hf
  refine kVi (rest := []) G hw (wX12_need hZ S a2 r_1 S_2 hr_1) cw_X12_268 (m_this hZ) KX12 ⟨Nat.le_of_ble_eq_true rfl, Nat.le_of_ble_eq_true rfl⟩ rfl hl.1 rfl (Nat.le_of_ble_eq_true rfl) ⟨Nat.le_refl _, Nat.le_refl _⟩ dX12_told_2 (fun H locs hw => ?_)
  refine lv_if_eq (tgt := 17) hx hb dX12_told_5 (by decide) (fun c_7 => ?_) (fun c_7 => ?_)
  · have hf := (if_pos c_7).symm.trans hf
    refine lv_iconst hx hb dX12_told_17 ki_0 ?_
    obtain ⟨e1, e2⟩ := Prod.mk.inj (Option.some.inj hf)
    exact hret _ _ _ _ _ dX12_told_18 ((by decide : (0 : Int32) &&& 1 = 0).trans e1) (by rw [← e2]; exact hw)
  · have hf := (if_neg c_7).symm.trans hf
    refine lv_aload_n hx hb dX12_told_8 rfl (lv_at hl 0 rfl) ?_
    refine lv_iconst hx hb dX12_told_9 ki_0 ?_
    refine lv_iload_n hx hb dX12_told_10 rfl (lv_at hl 3 rfl) ?_
    obtain ⟨r_3, S_4, hr_3, hf⟩ := bB2_e hf
    refine kVi (rest := []) G hw (wX12_number hZ S_2 0 a3 r_3 S_4 hr_3) cw_X12_283 (m_this hZ) KX12 ⟨Nat.le_of_ble_eq_true rfl, Nat.le_of_ble_eq_true rfl⟩ rfl hl.1 rfl (Nat.le_of_ble_eq_true rfl) ⟨Nat.le_refl _, Nat.le_refl _⟩ dX12_told_11 (fun H locs hw => ?_)
    refine lv_if_ne (tgt := 19) hx hb dX12_told_14 (by decide) (fun c_6 => ?_) (fun c_6 => ?_)
    · have hf := (if_neg c_6).symm.trans hf
      refine lv_aload_n hx hb dX12_told_19 rfl (lv_at hl 0 rfl) ?_
      refine gF G hw (m_this hZ) KX12 7 (k2 := 6) rfl (by decide) rfl fl_X12_25 dX12_told_20 ?_
      refine lv_iconst hx hb dX12_told_23 ki_5 ?_
      refine lv_aload_n hx hb dX12_told_24 rfl (lv_at hl 0 rfl) ?_
      refine gI G hw (m_this hZ) KX12 15 (by decide) rfl fl_X12_287 dX12_told_25 ?_
      refine lv_imul hx hb dX12_told_28 ?_
      refine lv_iload_n hx hb dX12_told_29 rfl (lv_at hl 1 rfl) ?_
      refine lv_iadd hx hb dX12_told_30 ?_
      refine lv_aload_n hx hb dX12_told_31 rfl (lv_at hl 0 rfl) ?_
      refine gI G hw (m_this hZ) KX12 26 (by decide) rfl fl_X12_280 dX12_told_32 ?_
      obtain ⟨hg1, hf⟩ := bG_e hf
      obtain ⟨S_5, eS_5, hf⟩ := bL_e hf
      refine sI G hw (m_freshOrder hZ) hg1 (j := ((5 * (S_4 0 15)) + a1).toNatClampNeg) rfl eS_5 dX12_told_35 (fun H locs hw => ?_)
      refine lv_iconst hx hb dX12_told_36 ki_1 ?_
      obtain ⟨e1, e2⟩ := Prod.mk.inj (Option.some.inj hf)
      exact hret _ _ _ _ _ dX12_told_37 ((by decide : (1 : Int32) &&& 1 = 1).trans e1) (by rw [← e2]; exact hw)
    · have hf := (if_pos c_6).symm.trans hf
      refine lv_iconst hx hb dX12_told_17 ki_0 ?_
      obtain ⟨e1, e2⟩ := Prod.mk.inj (Option.some.inj hf)
      exact hret _ _ _ _ _ dX12_told_18 ((by decide : (0 : Int32) &&& 1 = 0).trans e1) (by rw [← e2]; exact hw)
noncomputable def F12_aThrow (S : pS) : Option (Int32 × pS) :=
  bB2 (F12_told S 0 7 99) fun r_1 S_2 =>
  if r_1 = 0 then
    some ((0 : Int32), S_2)
  else
    bB2 (F12_told S_2 1 9 60) fun r_3 S_4 =>
    if r_3 = 0 then
      some ((0 : Int32), S_4)
    else
      bB2 (F12_told S_4 2 10 ((S_4 1 67) - 1)) fun r_5 S_6 =>
      if r_5 = 0 then
        some ((0 : Int32), S_6)
      else
        bL (fun (S_7 : pS) =>
          bL (fun (S_8 : pS) =>
            some ((1 : Int32), S_8)) fun j90 =>
          if (S_7 0 18) = 12 then
            bB2 (F12_told S_7 4 12 9999) fun r_9 S_10 =>
            if r_9 = 0 then
              some ((0 : Int32), S_10)
            else
              j90 S_10
          else
            j90 S_7) fun j68 =>
        if (S_6 0 18) = 11 then
          bB2 (F12_told S_6 3 11 9) fun r_13 S_14 =>
          if r_13 = 0 then
            some ((0 : Int32), S_14)
          else
            j68 S_14
        else
          j68 S_6
set_option maxRecDepth 100000 in
set_option maxHeartbeats 4000000 in
theorem wX12_aThrow {l : Launch} {Z : pZ}  (hZ : CM Z) (S : pS)  (r : Int32) (S2 : pS)  (hf : F12_aThrow S = some (r, S2)) : CI l Z yX12_aThrow cX12_aThrow 1 .boolean 13 290 [.ref (za Z 0)] S r S2 := by
  unfold F12_aThrow at hf
  refine eZ (own := RX12) (by decide) rfl (Nat.le_of_ble_eq_true rfl) (fun p e s m args below meth c Q ls G hl hw hret => ?_)
  obtain ⟨hx, hb, hml, hown, hts⟩ := G.1
  have hl : lv_has ls 1 [(0, .ref (za Z 0))] := hl
  refine lv_aload_n hx hb dX12_aThrow_0 rfl (lv_at hl 0 rfl) ?_
  refine lv_iconst hx hb dX12_aThrow_1 ki_0 ?_
  refine lv_bipush hx hb dX12_aThrow_2 kb_7 ?_
  refine lv_bipush hx hb dX12_aThrow_4 kb_99 ?_
  obtain ⟨r_1, S_2, hr_1, hf⟩ := bB2_e hf
  refine kVi (rest := []) G hw (wX12_told hZ S 0 7 99 r_1 S_2 hr_1) cw_X12_290 (m_this hZ) KX12 ⟨Nat.le_of_ble_eq_true rfl, Nat.le_of_ble_eq_true rfl⟩ rfl hl.1 rfl (Nat.le_of_ble_eq_true rfl) ⟨Nat.le_refl _, Nat.le_refl _⟩ dX12_aThrow_6 (fun H locs hw => ?_)
  refine lv_if_eq (tgt := 43) hx hb dX12_aThrow_9 (by decide) (fun c_19 => ?_) (fun c_19 => ?_)
  · have hf := (if_pos c_19).symm.trans hf
    refine lv_iconst hx hb dX12_aThrow_43 ki_0 ?_
    obtain ⟨e1, e2⟩ := Prod.mk.inj (Option.some.inj hf)
    exact hret _ _ _ _ _ dX12_aThrow_44 ((by decide : (0 : Int32) &&& 1 = 0).trans e1) (by rw [← e2]; exact hw)
  · have hf := (if_neg c_19).symm.trans hf
    refine lv_aload_n hx hb dX12_aThrow_12 rfl (lv_at hl 0 rfl) ?_
    refine lv_iconst hx hb dX12_aThrow_13 ki_1 ?_
    refine lv_bipush hx hb dX12_aThrow_14 kb_9 ?_
    refine lv_bipush hx hb dX12_aThrow_16 kb_60 ?_
    obtain ⟨r_3, S_4, hr_3, hf⟩ := bB2_e hf
    refine kVi (rest := []) G hw (wX12_told hZ S_2 1 9 60 r_3 S_4 hr_3) cw_X12_290 (m_this hZ) KX12 ⟨Nat.le_of_ble_eq_true rfl, Nat.le_of_ble_eq_true rfl⟩ rfl hl.1 rfl (Nat.le_of_ble_eq_true rfl) ⟨Nat.le_refl _, Nat.le_refl _⟩ dX12_aThrow_18 (fun H locs hw => ?_)
    refine lv_if_eq (tgt := 43) hx hb dX12_aThrow_21 (by decide) (fun c_18 => ?_) (fun c_18 => ?_)
    · have hf := (if_pos c_18).symm.trans hf
      refine lv_iconst hx hb dX12_aThrow_43 ki_0 ?_
      obtain ⟨e1, e2⟩ := Prod.mk.inj (Option.some.inj hf)
      exact hret _ _ _ _ _ dX12_aThrow_44 ((by decide : (0 : Int32) &&& 1 = 0).trans e1) (by rw [← e2]; exact hw)
    · have hf := (if_neg c_18).symm.trans hf
      refine lv_aload_n hx hb dX12_aThrow_24 rfl (lv_at hl 0 rfl) ?_
      refine lv_iconst hx hb dX12_aThrow_25 ki_2 ?_
      refine lv_bipush hx hb dX12_aThrow_26 kb_10 ?_
      refine lv_aload_n hx hb dX12_aThrow_28 rfl (lv_at hl 0 rfl) ?_
      refine gF G hw (m_this hZ) KX12 0 (k2 := 1) rfl (by decide) rfl fl_X12_7 dX12_aThrow_29 ?_
      refine lv_bipush hx hb dX12_aThrow_32 kb_67 ?_
      refine aI G hw (m_w hZ) (vin_e (by decide)) (j := 67) (by decide) dX12_aThrow_34 ?_
      refine lv_iconst hx hb dX12_aThrow_35 ki_1 ?_
      refine lv_isub hx hb dX12_aThrow_36 ?_
      obtain ⟨r_5, S_6, hr_5, hf⟩ := bB2_e hf
      refine kVi (rest := []) G hw (wX12_told hZ S_4 2 10 ((S_4 1 67) - 1) r_5 S_6 hr_5) cw_X12_290 (m_this hZ) KX12 ⟨Nat.le_of_ble_eq_true rfl, Nat.le_of_ble_eq_true rfl⟩ rfl hl.1 rfl (Nat.le_of_ble_eq_true rfl) ⟨Nat.le_refl _, Nat.le_refl _⟩ dX12_aThrow_37 (fun H locs hw => ?_)
      refine lv_if_ne (tgt := 45) hx hb dX12_aThrow_40 (by decide) (fun c_17 => ?_) (fun c_17 => ?_)
      · have hf := (if_neg c_17).symm.trans hf
        refine lv_aload_n hx hb dX12_aThrow_45 rfl (lv_at hl 0 rfl) ?_
        refine gI G hw (m_this hZ) KX12 18 (by decide) rfl fl_X12_212 dX12_aThrow_46 ?_
        refine lv_bipush hx hb dX12_aThrow_49 kb_11 ?_
        obtain ⟨j68, ej, hf⟩ := bL_e hf
        have R68 : ∀ (S_7 : pS) (H : Heap) (locs : List Loc) (ls : Array Slot), Wd Z s S_7 H locs → lv_has ls 1 [(0, .ref (za Z 0))] → j68 S_7 = some (r, S2) → W p l e { frames := 13, cells := 0, slots := 0, locals := 290 } s m args below meth c H locs 0 0 Q (F0 m 68 ls []) := by
          intro S_7 H locs ls hw hl hf
          have hf := (congrFun ej S_7).symm.trans hf
          refine lv_aload_n hx hb dX12_aThrow_68 rfl (lv_at hl 0 rfl) ?_
          refine gI G hw (m_this hZ) KX12 18 (by decide) rfl fl_X12_212 dX12_aThrow_69 ?_
          refine lv_bipush hx hb dX12_aThrow_72 kb_12 ?_
          obtain ⟨j90, ej, hf⟩ := bL_e hf
          have R90 : ∀ (S_8 : pS) (H : Heap) (locs : List Loc) (ls : Array Slot), Wd Z s S_8 H locs → lv_has ls 1 [] → j90 S_8 = some (r, S2) → W p l e { frames := 13, cells := 0, slots := 0, locals := 290 } s m args below meth c H locs 0 0 Q (F0 m 90 ls []) := by
            intro S_8 H locs ls hw hl hf
            have hf := (congrFun ej S_8).symm.trans hf
            refine lv_iconst hx hb dX12_aThrow_90 ki_1 ?_
            refine lv_goto (tgt := 95) hx hb dX12_aThrow_91 (by decide) ?_
            obtain ⟨e1, e2⟩ := Prod.mk.inj (Option.some.inj hf)
            exact hret _ _ _ _ _ dX12_aThrow_95 ((by decide : (1 : Int32) &&& 1 = 1).trans e1) (by rw [← e2]; exact hw)
          clear ej
          refine lv_icmp_ne (tgt := 90) hx hb dX12_aThrow_74 (by decide) (fun c_12 => ?_) (fun c_12 => ?_)
          · have hf := (if_neg c_12).symm.trans hf
            exact R90 _ _ _ _ hw (lv_sub hl [] rfl) hf
          · have hf := (if_pos c_12).symm.trans hf
            refine lv_aload_n hx hb dX12_aThrow_77 rfl (lv_at hl 0 rfl) ?_
            refine lv_iconst hx hb dX12_aThrow_78 ki_4 ?_
            refine lv_bipush hx hb dX12_aThrow_79 kb_12 ?_
            refine lv_sipush hx hb dX12_aThrow_81 ks_9999 ?_
            obtain ⟨r_9, S_10, hr_9, hf⟩ := bB2_e hf
            refine kVi (rest := []) G hw (wX12_told hZ S_7 4 12 9999 r_9 S_10 hr_9) cw_X12_290 (m_this hZ) KX12 ⟨Nat.le_of_ble_eq_true rfl, Nat.le_of_ble_eq_true rfl⟩ rfl hl.1 rfl (Nat.le_of_ble_eq_true rfl) ⟨Nat.le_refl _, Nat.le_refl _⟩ dX12_aThrow_84 (fun H locs hw => ?_)
            refine lv_if_eq (tgt := 94) hx hb dX12_aThrow_87 (by decide) (fun c_11 => ?_) (fun c_11 => ?_)
            · have hf := (if_pos c_11).symm.trans hf
              refine lv_iconst hx hb dX12_aThrow_94 ki_0 ?_
              obtain ⟨e1, e2⟩ := Prod.mk.inj (Option.some.inj hf)
              exact hret _ _ _ _ _ dX12_aThrow_95 ((by decide : (0 : Int32) &&& 1 = 0).trans e1) (by rw [← e2]; exact hw)
            · have hf := (if_neg c_11).symm.trans hf
              exact R90 _ _ _ _ hw (lv_sub hl [] rfl) hf
        clear ej
        refine lv_icmp_ne (tgt := 68) hx hb dX12_aThrow_51 (by decide) (fun c_16 => ?_) (fun c_16 => ?_)
        · have hf := (if_neg c_16).symm.trans hf
          exact R68 _ _ _ _ hw (lv_sub hl [0] rfl) hf
        · have hf := (if_pos c_16).symm.trans hf
          refine lv_aload_n hx hb dX12_aThrow_54 rfl (lv_at hl 0 rfl) ?_
          refine lv_iconst hx hb dX12_aThrow_55 ki_3 ?_
          refine lv_bipush hx hb dX12_aThrow_56 kb_11 ?_
          refine lv_bipush hx hb dX12_aThrow_58 kb_9 ?_
          obtain ⟨r_13, S_14, hr_13, hf⟩ := bB2_e hf
          refine kVi (rest := []) G hw (wX12_told hZ S_6 3 11 9 r_13 S_14 hr_13) cw_X12_290 (m_this hZ) KX12 ⟨Nat.le_of_ble_eq_true rfl, Nat.le_of_ble_eq_true rfl⟩ rfl hl.1 rfl (Nat.le_of_ble_eq_true rfl) ⟨Nat.le_refl _, Nat.le_refl _⟩ dX12_aThrow_60 (fun H locs hw => ?_)
          refine lv_if_ne (tgt := 68) hx hb dX12_aThrow_63 (by decide) (fun c_15 => ?_) (fun c_15 => ?_)
          · have hf := (if_neg c_15).symm.trans hf
            exact R68 _ _ _ _ hw (lv_sub hl [0] rfl) hf
          · have hf := (if_pos c_15).symm.trans hf
            refine lv_iconst hx hb dX12_aThrow_66 ki_0 ?_
            obtain ⟨e1, e2⟩ := Prod.mk.inj (Option.some.inj hf)
            exact hret _ _ _ _ _ dX12_aThrow_67 ((by decide : (0 : Int32) &&& 1 = 0).trans e1) (by rw [← e2]; exact hw)
      · have hf := (if_pos c_17).symm.trans hf
        refine lv_iconst hx hb dX12_aThrow_43 ki_0 ?_
        obtain ⟨e1, e2⟩ := Prod.mk.inj (Option.some.inj hf)
        exact hret _ _ _ _ _ dX12_aThrow_44 ((by decide : (0 : Int32) &&& 1 = 0).trans e1) (by rw [← e2]; exact hw)
noncomputable def F12_anOrder (S : pS) : Option (Int32 × pS) :=
  bL (fun (_ : Unit) =>
    if (S 0 15) = 12 then
      bT2 (F12_bad S 3) fun r_15 S_16 =>
      some ((r_15 &&& 1), S_16)
    else
      bL (5 * (S 0 15)) fun l1_1 =>
      bG (vp_in l1_1 60) <|
      bL (sU S 6 l1_1.toNatClampNeg (-1)) fun S_2 =>
      bG (vp_in (l1_1 + 3) 60) <|
      bL (sU S_2 6 ((l1_1 + 3).toNatClampNeg) 0) fun S_3 =>
      bG (vp_in (l1_1 + 4) 60) <|
      bL (sU S_3 6 ((l1_1 + 4).toNatClampNeg) (-1)) fun S_4 =>
      bL (fun (S_5 : pS) =>
        bB2 (F12_need S_5 159) fun r_6 S_7 =>
        if r_6 = 0 then
          some ((0 : Int32), S_7)
        else
          bL (sU S_7 0 15 ((S_7 0 15) + 1)) fun S_8 =>
          some ((1 : Int32), S_8)) fun j96 =>
      if (S_4 0 18) = 8 then
        bB (F12_next0 S_4) fun S_13 =>
        j96 S_13
      else
        bB2 (F12_aThrow S_4) fun r_10 S_11 =>
        if r_10 = 0 then
          some ((0 : Int32), S_11)
        else
          j96 S_11) fun j24 =>
  if (S 0 18) = 7 then
    j24 ()
  else
    if (S 0 18) = 8 then
      j24 ()
    else
      bT2 (F12_bad S 1) fun r_18 S_19 =>
      some ((r_18 &&& 1), S_19)
set_option maxRecDepth 100000 in
set_option maxHeartbeats 4000000 in
theorem wX12_anOrder {l : Launch} {Z : pZ}  (hZ : CM Z) (S : pS)  (r : Int32) (S2 : pS)  (hf : F12_anOrder S = some (r, S2)) : CI l Z yX12_anOrder cX12_anOrder 2 .boolean 14 310 [.ref (za Z 0)] S r S2 := by
  unfold F12_anOrder at hf
  refine eZ (own := RX12) (by decide) rfl (Nat.le_of_ble_eq_true rfl) (fun p e s m args below meth c Q ls G hl hw hret => ?_)
  obtain ⟨hx, hb, hml, hown, hts⟩ := G.1
  have hl : lv_has ls 2 [(0, .ref (za Z 0))] := hl
  refine lv_aload_n hx hb dX12_anOrder_0 rfl (lv_at hl 0 rfl) ?_
  refine gI G hw (m_this hZ) KX12 18 (by decide) rfl fl_X12_212 dX12_anOrder_1 ?_
  refine lv_bipush hx hb dX12_anOrder_4 kb_7 ?_
  obtain ⟨j24, ej, hf⟩ := bL_e hf
  have R24 : ∀ (H : Heap) (locs : List Loc) (ls : Array Slot), Wd Z s S H locs → lv_has ls 2 [(0, .ref (za Z 0))] → j24 () = some (r, S2) → W p l e { frames := 14, cells := 0, slots := 0, locals := 310 } s m args below meth c H locs 0 0 Q (F0 m 24 ls []) := by
    intro  H locs ls hw hl hf
    have hf := (congrFun ej ()).symm.trans hf
    refine lv_aload_n hx hb dX12_anOrder_24 rfl (lv_at hl 0 rfl) ?_
    refine gI G hw (m_this hZ) KX12 15 (by decide) rfl fl_X12_287 dX12_anOrder_25 ?_
    refine lv_bipush hx hb dX12_anOrder_28 kb_12 ?_
    refine lv_icmp_ne (tgt := 39) hx hb dX12_anOrder_30 (by decide) (fun c_17 => ?_) (fun c_17 => ?_)
    · have hf := (if_neg c_17).symm.trans hf
      refine lv_iconst hx hb dX12_anOrder_39 ki_5 ?_
      refine lv_aload_n hx hb dX12_anOrder_40 rfl (lv_at hl 0 rfl) ?_
      refine gI G hw (m_this hZ) KX12 15 (by decide) rfl fl_X12_287 dX12_anOrder_41 ?_
      refine lv_imul hx hb dX12_anOrder_44 ?_
      obtain ⟨l1_1, el1_1, hf⟩ := bL_e hf
      refine top_i el1_1 ?_
      refine lv_istore_n (lv' := [(1, .int l1_1), (0, .ref (za Z 0))]) hx hb dX12_anOrder_45 rfl hl (by decide) rfl (fun ls hl => ?_)
      refine lv_aload_n hx hb dX12_anOrder_46 rfl (lv_at hl 1 rfl) ?_
      refine gF G hw (m_this hZ) KX12 7 (k2 := 6) rfl (by decide) rfl fl_X12_25 dX12_anOrder_47 ?_
      refine lv_iload_n hx hb dX12_anOrder_50 rfl (lv_at hl 0 rfl) ?_
      refine lv_iconst hx hb dX12_anOrder_51 ki_m1 ?_
      obtain ⟨hg1, hf⟩ := bG_e hf
      obtain ⟨S_2, eS_2, hf⟩ := bL_e hf
      refine sI G hw (m_freshOrder hZ) hg1 (j := l1_1.toNatClampNeg) rfl eS_2 dX12_anOrder_52 (fun H locs hw => ?_)
      refine lv_aload_n hx hb dX12_anOrder_53 rfl (lv_at hl 1 rfl) ?_
      refine gF G hw (m_this hZ) KX12 7 (k2 := 6) rfl (by decide) rfl fl_X12_25 dX12_anOrder_54 ?_
      refine lv_iload_n hx hb dX12_anOrder_57 rfl (lv_at hl 0 rfl) ?_
      refine lv_iconst hx hb dX12_anOrder_58 ki_3 ?_
      refine lv_iadd hx hb dX12_anOrder_59 ?_
      refine lv_iconst hx hb dX12_anOrder_60 ki_0 ?_
      obtain ⟨hg1, hf⟩ := bG_e hf
      obtain ⟨S_3, eS_3, hf⟩ := bL_e hf
      refine sI G hw (m_freshOrder hZ) hg1 (j := (l1_1 + 3).toNatClampNeg) rfl eS_3 dX12_anOrder_61 (fun H locs hw => ?_)
      refine lv_aload_n hx hb dX12_anOrder_62 rfl (lv_at hl 1 rfl) ?_
      refine gF G hw (m_this hZ) KX12 7 (k2 := 6) rfl (by decide) rfl fl_X12_25 dX12_anOrder_63 ?_
      refine lv_iload_n hx hb dX12_anOrder_66 rfl (lv_at hl 0 rfl) ?_
      refine lv_iconst hx hb dX12_anOrder_67 ki_4 ?_
      refine lv_iadd hx hb dX12_anOrder_68 ?_
      refine lv_iconst hx hb dX12_anOrder_69 ki_m1 ?_
      obtain ⟨hg1, hf⟩ := bG_e hf
      obtain ⟨S_4, eS_4, hf⟩ := bL_e hf
      refine sI G hw (m_freshOrder hZ) hg1 (j := (l1_1 + 4).toNatClampNeg) rfl eS_4 dX12_anOrder_70 (fun H locs hw => ?_)
      refine lv_aload_n hx hb dX12_anOrder_71 rfl (lv_at hl 1 rfl) ?_
      refine gI G hw (m_this hZ) KX12 18 (by decide) rfl fl_X12_212 dX12_anOrder_72 ?_
      refine lv_bipush hx hb dX12_anOrder_75 kb_8 ?_
      obtain ⟨j96, ej, hf⟩ := bL_e hf
      have R96 : ∀ (S_5 : pS) (H : Heap) (locs : List Loc) (ls : Array Slot), Wd Z s S_5 H locs → lv_has ls 2 [(0, .ref (za Z 0))] → j96 S_5 = some (r, S2) → W p l e { frames := 14, cells := 0, slots := 0, locals := 310 } s m args below meth c H locs 0 0 Q (F0 m 96 ls []) := by
        intro S_5 H locs ls hw hl hf
        have hf := (congrFun ej S_5).symm.trans hf
        refine lv_aload_n hx hb dX12_anOrder_96 rfl (lv_at hl 0 rfl) ?_
        refine lv_sipush hx hb dX12_anOrder_97 ks_159 ?_
        obtain ⟨r_6, S_7, hr_6, hf⟩ := bB2_e hf
        refine kVi (rest := []) G hw (wX12_need hZ S_5 159 r_6 S_7 hr_6) cw_X12_268 (m_this hZ) KX12 ⟨Nat.le_of_ble_eq_true rfl, Nat.le_of_ble_eq_true rfl⟩ rfl hl.1 rfl (Nat.le_of_ble_eq_true rfl) ⟨Nat.le_refl _, Nat.le_refl _⟩ dX12_anOrder_100 (fun H locs hw => ?_)
        refine lv_if_ne (tgt := 108) hx hb dX12_anOrder_103 (by decide) (fun c_9 => ?_) (fun c_9 => ?_)
        · have hf := (if_neg c_9).symm.trans hf
          refine lv_aload_n hx hb dX12_anOrder_108 rfl (lv_at hl 0 rfl) ?_
          refine lv_dup hx hb dX12_anOrder_109 rfl ?_
          refine gI G hw (m_this hZ) KX12 15 (by decide) rfl fl_X12_287 dX12_anOrder_110 ?_
          refine lv_iconst hx hb dX12_anOrder_113 ki_1 ?_
          refine lv_iadd hx hb dX12_anOrder_114 ?_
          obtain ⟨S_8, eS_8, hf⟩ := bL_e hf
          refine pI G hw (m_this hZ) KX12 15 (by decide) rfl rfl rfl eS_8 fl_X12_287 dX12_anOrder_115 (fun H locs hw => ?_)
          refine lv_iconst hx hb dX12_anOrder_118 ki_1 ?_
          obtain ⟨e1, e2⟩ := Prod.mk.inj (Option.some.inj hf)
          exact hret _ _ _ _ _ dX12_anOrder_119 ((by decide : (1 : Int32) &&& 1 = 1).trans e1) (by rw [← e2]; exact hw)
        · have hf := (if_pos c_9).symm.trans hf
          refine lv_iconst hx hb dX12_anOrder_106 ki_0 ?_
          obtain ⟨e1, e2⟩ := Prod.mk.inj (Option.some.inj hf)
          exact hret _ _ _ _ _ dX12_anOrder_107 ((by decide : (0 : Int32) &&& 1 = 0).trans e1) (by rw [← e2]; exact hw)
      clear ej
      refine lv_icmp_ne (tgt := 87) hx hb dX12_anOrder_77 (by decide) (fun c_14 => ?_) (fun c_14 => ?_)
      · have hf := (if_neg c_14).symm.trans hf
        refine lv_aload_n hx hb dX12_anOrder_87 rfl (lv_at hl 1 rfl) ?_
        obtain ⟨r_10, S_11, hr_10, hf⟩ := bB2_e hf
        refine kVi (rest := []) G hw (wX12_aThrow hZ S_4 r_10 S_11 hr_10) cw_X12_293 (m_this hZ) KX12 ⟨Nat.le_of_ble_eq_true rfl, Nat.le_of_ble_eq_true rfl⟩ rfl hl.1 rfl (Nat.le_of_ble_eq_true rfl) ⟨Nat.le_refl _, Nat.le_refl _⟩ dX12_anOrder_88 (fun H locs hw => ?_)
        refine lv_if_ne (tgt := 96) hx hb dX12_anOrder_91 (by decide) (fun c_12 => ?_) (fun c_12 => ?_)
        · have hf := (if_neg c_12).symm.trans hf
          exact R96 _ _ _ _ hw (lv_sub hl [1] rfl) hf
        · have hf := (if_pos c_12).symm.trans hf
          refine lv_iconst hx hb dX12_anOrder_94 ki_0 ?_
          obtain ⟨e1, e2⟩ := Prod.mk.inj (Option.some.inj hf)
          exact hret _ _ _ _ _ dX12_anOrder_95 ((by decide : (0 : Int32) &&& 1 = 0).trans e1) (by rw [← e2]; exact hw)
      · have hf := (if_pos c_14).symm.trans hf
        refine lv_aload_n hx hb dX12_anOrder_80 rfl (lv_at hl 1 rfl) ?_
        obtain ⟨S_13, hS_13, hf⟩ := bB_e hf
        refine kVv (rest := []) G hw (wX12_next0 hZ S_4 S_13 hS_13) cw_X12_236 (m_this hZ) KX12 ⟨Nat.le_of_ble_eq_true rfl, Nat.le_of_ble_eq_true rfl⟩ rfl hl.1 rfl (Nat.le_of_ble_eq_true rfl) ⟨Nat.le_refl _, Nat.le_refl _⟩ dX12_anOrder_81 (fun H locs hw => ?_)
        refine lv_goto (tgt := 96) hx hb dX12_anOrder_84 (by decide) ?_
        exact R96 _ _ _ _ hw (lv_sub hl [1] rfl) hf
    · have hf := (if_pos c_17).symm.trans hf
      refine lv_aload_n hx hb dX12_anOrder_33 rfl (lv_at hl 0 rfl) ?_
      refine lv_iconst hx hb dX12_anOrder_34 ki_3 ?_
      obtain ⟨r_15, S_16, hr_15, hf⟩ := bT2_e hf
      refine kVi (rest := []) G hw (wX12_bad hZ S 3 r_15 S_16 hr_15) cw_X12_233 (m_this hZ) KX12 ⟨Nat.le_of_ble_eq_true rfl, Nat.le_of_ble_eq_true rfl⟩ rfl hl.1 rfl (Nat.le_of_ble_eq_true rfl) ⟨Nat.le_refl _, Nat.le_refl _⟩ dX12_anOrder_35 (fun H locs hw => ?_)
      obtain ⟨e1, e2⟩ := Prod.mk.inj (Option.some.inj hf)
      exact hret _ _ _ _ _ dX12_anOrder_38 e1 (by rw [← e2]; exact hw)
  clear ej
  refine lv_icmp_eq (tgt := 24) hx hb dX12_anOrder_6 (by decide) (fun c_21 => ?_) (fun c_21 => ?_)
  · have hf := (if_pos c_21).symm.trans hf
    exact R24 _ _ _ hw (lv_sub hl [0] rfl) hf
  · have hf := (if_neg c_21).symm.trans hf
    refine lv_aload_n hx hb dX12_anOrder_9 rfl (lv_at hl 0 rfl) ?_
    refine gI G hw (m_this hZ) KX12 18 (by decide) rfl fl_X12_212 dX12_anOrder_10 ?_
    refine lv_bipush hx hb dX12_anOrder_13 kb_8 ?_
    refine lv_icmp_eq (tgt := 24) hx hb dX12_anOrder_15 (by decide) (fun c_20 => ?_) (fun c_20 => ?_)
    · have hf := (if_pos c_20).symm.trans hf
      exact R24 _ _ _ hw (lv_sub hl [0] rfl) hf
    · have hf := (if_neg c_20).symm.trans hf
      refine lv_aload_n hx hb dX12_anOrder_18 rfl (lv_at hl 0 rfl) ?_
      refine lv_iconst hx hb dX12_anOrder_19 ki_1 ?_
      obtain ⟨r_18, S_19, hr_18, hf⟩ := bT2_e hf
      refine kVi (rest := []) G hw (wX12_bad hZ S 1 r_18 S_19 hr_18) cw_X12_233 (m_this hZ) KX12 ⟨Nat.le_of_ble_eq_true rfl, Nat.le_of_ble_eq_true rfl⟩ rfl hl.1 rfl (Nat.le_of_ble_eq_true rfl) ⟨Nat.le_refl _, Nat.le_refl _⟩ dX12_anOrder_20 (fun H locs hw => ?_)
      obtain ⟨e1, e2⟩ := Prod.mk.inj (Option.some.inj hf)
      exact hret _ _ _ _ _ dX12_anOrder_23 e1 (by rw [← e2]; exact hw)
noncomputable def F12_readsPlan (S : pS) : Option (Int32 × pS) :=
  bL (sU S 0 15 0) fun S_1 =>
  bL (fun (l1_2 : Int32) (S_3 : pS) =>
    some ((l1_2 &&& 1), S_3)) fun g26_7 =>
  bL (u2 fun (l1_4 : Int32) (S_5 : pS) =>
    if l1_4 = 0 then
      some (.inr (l1_4, S_5))
    else
      if (S_5 0 18) = 0 then
        some (.inr (l1_4, S_5))
      else
        bB2 (F12_anOrder S_5) fun r_7 S_8 =>
        some (.inl (r_7, S_8))) fun b7 =>
  bB (bP b7 ((1 : Int32), S_1)) (u2 g26_7)
set_option maxRecDepth 100000 in
set_option maxHeartbeats 4000000 in
theorem wX12_readsPlan {l : Launch} {Z : pZ}  (hZ : CM Z) (S : pS)  (r : Int32) (S2 : pS)  (hf : F12_readsPlan S = some (r, S2)) : CI l Z yX12_readsPlan cX12_readsPlan 2 .boolean 15 331 [.ref (za Z 0)] S r S2 := by
  unfold F12_readsPlan at hf
  refine eZ (own := RX12) (by decide) rfl (Nat.le_of_ble_eq_true rfl) (fun p e s m args below meth c Q ls G hl hw hret => ?_)
  obtain ⟨hx, hb, hml, hown, hts⟩ := G.1
  have hl : lv_has ls 2 [(0, .ref (za Z 0))] := hl
  refine lv_aload_n hx hb dX12_readsPlan_0 rfl (lv_at hl 0 rfl) ?_
  refine lv_iconst hx hb dX12_readsPlan_1 ki_0 ?_
  obtain ⟨S_1, eS_1, hf⟩ := bL_e hf
  refine pI G hw (m_this hZ) KX12 15 (by decide) rfl rfl rfl eS_1 fl_X12_287 dX12_readsPlan_2 (fun H locs hw => ?_)
  refine lv_iconst hx hb dX12_readsPlan_5 ki_1 ?_
  refine lv_istore_n (lv' := [(1, .int 1), (0, .ref (za Z 0))]) hx hb dX12_readsPlan_6 rfl hl (by decide) rfl (fun ls hl => ?_)
  obtain ⟨g26_7, ej, hf⟩ := bL_e hf
  have R26_7 : ∀ (l1_2 : Int32) (S_3 : pS) (H : Heap) (locs : List Loc) (ls : Array Slot), Wd Z s S_3 H locs → lv_has ls 2 [(1, .int l1_2)] → g26_7 l1_2 S_3 = some (r, S2) → W p l e { frames := 15, cells := 0, slots := 0, locals := 331 } s m args below meth c H locs 0 0 Q (F0 m 26 ls []) := by
    intro l1_2 S_3 H locs ls hw hl hf
    have hf := (congrFun (congrFun ej l1_2) S_3).symm.trans hf
    refine lv_iload_n hx hb dX12_readsPlan_26 rfl (lv_at hl 0 rfl) ?_
    obtain ⟨e1, e2⟩ := Prod.mk.inj (Option.some.inj hf)
    exact hret _ _ _ _ _ dX12_readsPlan_27 e1 (by rw [← e2]; exact hw)
  clear ej
  obtain ⟨b7, eb, hf⟩ := bL_e hf
  have RL7 : ∀ (n : Nat) z, (u2 g26_7) z = some (r, S2) → ∀ (l1_4 : Int32) (S_5 : pS) (H : Heap) (locs : List Loc) (ls : Array Slot), Wd Z s S_5 H locs → lv_has ls 2 [(0, .ref (za Z 0)), (1, .int l1_4)] → bPn b7 n (l1_4, S_5) = some z → W p l e { frames := 15, cells := 0, slots := 0, locals := 331 } s m args below meth c H locs 0 0 Q (F0 m 7 ls []) := by
    intro n
    induction n with
    | zero =>
      intro z hg l1_4 S_5 H locs ls hw hl hz
      exact bPn_0 hz
    | succ n ih =>
      intro z hg l1_4 S_5 H locs ls hw hl hz
      obtain ⟨q_6, hf, hz⟩ := bPn_e hz
      have hf := u2_e ((congrFun eb _).symm.trans hf)
      refine lv_iload_n hx hb dX12_readsPlan_7 rfl (lv_at hl 1 rfl) ?_
      refine lv_if_eq (tgt := 26) hx hb dX12_readsPlan_8 (by decide) (fun c_10 => ?_) (fun c_10 => ?_)
      · have hf := (if_pos c_10).symm.trans hf
        obtain rfl := Option.some.inj hf
        obtain rfl := Option.some.inj (hz : some _ = some _)
        exact R26_7 _ _ _ _ _ hw (lv_sub hl [1] rfl) hg
      · have hf := (if_neg c_10).symm.trans hf
        refine lv_aload_n hx hb dX12_readsPlan_11 rfl (lv_at hl 0 rfl) ?_
        refine gI G hw (m_this hZ) KX12 18 (by decide) rfl fl_X12_212 dX12_readsPlan_12 ?_
        refine lv_if_eq (tgt := 26) hx hb dX12_readsPlan_15 (by decide) (fun c_9 => ?_) (fun c_9 => ?_)
        · have hf := (if_pos c_9).symm.trans hf
          obtain rfl := Option.some.inj hf
          obtain rfl := Option.some.inj (hz : some _ = some _)
          exact R26_7 _ _ _ _ _ hw (lv_sub hl [1] rfl) hg
        · have hf := (if_neg c_9).symm.trans hf
          refine lv_aload_n hx hb dX12_readsPlan_18 rfl (lv_at hl 0 rfl) ?_
          obtain ⟨r_7, S_8, hr_7, hf⟩ := bB2_e hf
          refine kVi (rest := []) G hw (wX12_anOrder hZ S_5 r_7 S_8 hr_7) cw_X12_296 (m_this hZ) KX12 ⟨Nat.le_of_ble_eq_true rfl, Nat.le_of_ble_eq_true rfl⟩ rfl hl.1 rfl (Nat.le_of_ble_eq_true rfl) ⟨Nat.le_refl _, Nat.le_refl _⟩ dX12_readsPlan_19 (fun H locs hw => ?_)
          refine lv_istore_n (lv' := [(1, .int r_7), (0, .ref (za Z 0))]) hx hb dX12_readsPlan_22 rfl hl (by decide) rfl (fun ls hl => ?_)
          refine lv_goto (tgt := 7) hx hb dX12_readsPlan_23 (by decide) ?_
          obtain rfl := Option.some.inj hf
          exact ih _ hg _ _ _ _ _ hw (lv_sub hl [1, 0] rfl) hz
  clear eb
  obtain ⟨z, hz, hf⟩ := bB_e hf
  obtain ⟨n, hz⟩ := bP_e hz
  exact RL7 n z hf _ _ _ _ _ hw (lv_sub hl [1, 0] rfl) hz
noncomputable def F12_putsLaw (S : pS) (a1 : Int32) : Option (Int32 × pS) :=
  bG (vp_in (640 + a1) 4296) <|
  bL (sU S 1 ((640 + a1).toNatClampNeg) (S 0 13)) fun S_1 =>
  bL (fun (S_2 : pS) =>
    bL (fun (S_3 : pS) =>
      some (S_3 0 13, S_3)) fun g168_130 =>
    bL (u2 fun (l2_4 : Int32) (S_5 : pS) =>
      if (2 * (S_5 0 14)) ≤ l2_4 then
        some (.inr S_5)
      else
        bG (vp_in l2_4 820) <|
        bG (vp_in ((836 + (820 * a1)) + l2_4) 4296) <|
        bL (sU S_5 1 (((836 + (820 * a1)) + l2_4).toNatClampNeg) (S_5 5 l2_4.toNatClampNeg)) fun S_7 =>
        bL (l2_4 + 1) fun l2_8 =>
        some (.inl (l2_8, S_7))) fun b130 =>
    bB (bP b130 ((0 : Int32), S_2)) (u1 g168_130)) fun g128_16 =>
  bL (u2 fun (l2_10 : Int32) (S_11 : pS) =>
    if (S_11 0 13) ≤ l2_10 then
      some (.inr S_11)
    else
      bG (vp_in (4 * l2_10) 64) <|
      bG (vp_in ((644 + (16 * a1)) + l2_10) 4296) <|
      bL (sU S_11 1 (((644 + (16 * a1)) + l2_10).toNatClampNeg) (S_11 4 ((4 * l2_10).toNatClampNeg))) fun S_13 =>
      bG (vp_in ((4 * l2_10) + 1) 64) <|
      bG (vp_in ((692 + (16 * a1)) + l2_10) 4296) <|
      bL (sU S_13 1 (((692 + (16 * a1)) + l2_10).toNatClampNeg) (S_13 4 (((4 * l2_10) + 1).toNatClampNeg))) fun S_14 =>
      bG (vp_in ((4 * l2_10) + 2) 64) <|
      bG (vp_in ((740 + (16 * a1)) + l2_10) 4296) <|
      bL (sU S_14 1 (((740 + (16 * a1)) + l2_10).toNatClampNeg) (S_14 4 (((4 * l2_10) + 2).toNatClampNeg))) fun S_15 =>
      bG (vp_in ((4 * l2_10) + 3) 64) <|
      bG (vp_in ((788 + (16 * a1)) + l2_10) 4296) <|
      bL (sU S_15 1 (((788 + (16 * a1)) + l2_10).toNatClampNeg) (S_15 4 (((4 * l2_10) + 3).toNatClampNeg))) fun S_16 =>
      bL (l2_10 + 1) fun l2_17 =>
      some (.inl (l2_17, S_16))) fun b16 =>
  bB (bP b16 ((0 : Int32), S_1)) (u1 g128_16)
set_option maxRecDepth 100000 in
set_option maxHeartbeats 4000000 in
theorem wX12_putsLaw {l : Launch} {Z : pZ}  (hZ : CM Z) (S : pS) (a1 : Int32) (r : Int32) (S2 : pS)  (hf : F12_putsLaw S a1 = some (r, S2)) : CI l Z yX12_putsLaw cX12_putsLaw 3 .int 3 60 [.ref (za Z 0), .int a1] S r S2 := by
  unfold F12_putsLaw at hf
  refine eI (own := RX12) (by decide) rfl (Nat.le_of_ble_eq_true rfl) (fun p e s m args below meth c Q ls G hl hw hret => ?_)
  obtain ⟨hx, hb, hml, hown, hts⟩ := G.1
  have hl : lv_has ls 3 [(0, .ref (za Z 0)), (1, .int a1)] := hl
  refine lv_aload_n hx hb dX12_putsLaw_0 rfl (lv_at hl 0 rfl) ?_
  refine gF G hw (m_this hZ) KX12 0 (k2 := 1) rfl (by decide) rfl fl_X12_7 dX12_putsLaw_1 ?_
  refine lv_sipush hx hb dX12_putsLaw_4 ks_640 ?_
  refine lv_iload_n hx hb dX12_putsLaw_7 rfl (lv_at hl 1 rfl) ?_
  refine lv_iadd hx hb dX12_putsLaw_8 ?_
  refine lv_aload_n hx hb dX12_putsLaw_9 rfl (lv_at hl 0 rfl) ?_
  refine gI G hw (m_this hZ) KX12 13 (by decide) rfl fl_X12_274 dX12_putsLaw_10 ?_
  obtain ⟨hg1, hf⟩ := bG_e hf
  obtain ⟨S_1, eS_1, hf⟩ := bL_e hf
  refine sI G hw (m_w hZ) hg1 (j := (640 + a1).toNatClampNeg) rfl eS_1 dX12_putsLaw_13 (fun H locs hw => ?_)
  refine lv_iconst hx hb dX12_putsLaw_14 ki_0 ?_
  refine lv_istore_n (lv' := [(2, .int 0), (0, .ref (za Z 0)), (1, .int a1)]) hx hb dX12_putsLaw_15 rfl hl (by decide) rfl (fun ls hl => ?_)
  obtain ⟨g128_16, ej, hf⟩ := bL_e hf
  have R128_16 : ∀ (S_2 : pS) (H : Heap) (locs : List Loc) (ls : Array Slot), Wd Z s S_2 H locs → lv_has ls 3 [(0, .ref (za Z 0)), (1, .int a1)] → g128_16 S_2 = some (r, S2) → W p l e { frames := 3, cells := 0, slots := 0, locals := 60 } s m args below meth c H locs 0 0 Q (F0 m 128 ls []) := by
    intro S_2 H locs ls hw hl hf
    have hf := (congrFun ej S_2).symm.trans hf
    refine lv_iconst hx hb dX12_putsLaw_128 ki_0 ?_
    refine lv_istore_n (lv' := [(2, .int 0), (0, .ref (za Z 0)), (1, .int a1)]) hx hb dX12_putsLaw_129 rfl hl (by decide) rfl (fun ls hl => ?_)
    obtain ⟨g168_130, ej, hf⟩ := bL_e hf
    have R168_130 : ∀ (S_3 : pS) (H : Heap) (locs : List Loc) (ls : Array Slot), Wd Z s S_3 H locs → lv_has ls 3 [(0, .ref (za Z 0))] → g168_130 S_3 = some (r, S2) → W p l e { frames := 3, cells := 0, slots := 0, locals := 60 } s m args below meth c H locs 0 0 Q (F0 m 168 ls []) := by
      intro S_3 H locs ls hw hl hf
      have hf := (congrFun ej S_3).symm.trans hf
      refine lv_aload_n hx hb dX12_putsLaw_168 rfl (lv_at hl 0 rfl) ?_
      refine gI G hw (m_this hZ) KX12 13 (by decide) rfl fl_X12_274 dX12_putsLaw_169 ?_
      obtain ⟨e1, e2⟩ := Prod.mk.inj (Option.some.inj hf)
      exact hret _ _ _ _ _ dX12_putsLaw_172 e1 (by rw [← e2]; exact hw)
    clear ej
    obtain ⟨b130, eb, hf⟩ := bL_e hf
    have RL130 : ∀ (n : Nat) z, (u1 g168_130) z = some (r, S2) → ∀ (l2_4 : Int32) (S_5 : pS) (H : Heap) (locs : List Loc) (ls : Array Slot), Wd Z s S_5 H locs → lv_has ls 3 [(0, .ref (za Z 0)), (1, .int a1), (2, .int l2_4)] → bPn b130 n (l2_4, S_5) = some z → W p l e { frames := 3, cells := 0, slots := 0, locals := 60 } s m args below meth c H locs 0 0 Q (F0 m 130 ls []) := by
      intro n
      induction n with
      | zero =>
        intro z hg l2_4 S_5 H locs ls hw hl hz
        exact bPn_0 hz
      | succ n ih =>
        intro z hg l2_4 S_5 H locs ls hw hl hz
        obtain ⟨q_6, hf, hz⟩ := bPn_e hz
        have hf := u2_e ((congrFun eb _).symm.trans hf)
        refine lv_iload_n hx hb dX12_putsLaw_130 rfl (lv_at hl 2 rfl) ?_
        refine lv_iconst hx hb dX12_putsLaw_131 ki_2 ?_
        refine lv_aload_n hx hb dX12_putsLaw_132 rfl (lv_at hl 0 rfl) ?_
        refine gI G hw (m_this hZ) KX12 14 (by decide) rfl fl_X12_239 dX12_putsLaw_133 ?_
        refine lv_imul hx hb dX12_putsLaw_136 ?_
        refine lv_icmp_ge (tgt := 168) hx hb dX12_putsLaw_137 (by decide) (fun c_9 => ?_) (fun c_9 => ?_)
        · have hf := (if_pos c_9).symm.trans hf
          obtain rfl := Option.some.inj hf
          obtain rfl := Option.some.inj (hz : some _ = some _)
          exact R168_130 _ _ _ _ hw (lv_sub hl [0] rfl) hg
        · have hf := (if_neg c_9).symm.trans hf
          refine lv_aload_n hx hb dX12_putsLaw_140 rfl (lv_at hl 0 rfl) ?_
          refine gF G hw (m_this hZ) KX12 0 (k2 := 1) rfl (by decide) rfl fl_X12_7 dX12_putsLaw_141 ?_
          refine lv_sipush hx hb dX12_putsLaw_144 ks_836 ?_
          refine lv_sipush hx hb dX12_putsLaw_147 ks_820 ?_
          refine lv_iload_n hx hb dX12_putsLaw_150 rfl (lv_at hl 1 rfl) ?_
          refine lv_imul hx hb dX12_putsLaw_151 ?_
          refine lv_iadd hx hb dX12_putsLaw_152 ?_
          refine lv_iload_n hx hb dX12_putsLaw_153 rfl (lv_at hl 2 rfl) ?_
          refine lv_iadd hx hb dX12_putsLaw_154 ?_
          refine lv_aload_n hx hb dX12_putsLaw_155 rfl (lv_at hl 0 rfl) ?_
          refine gF G hw (m_this hZ) KX12 6 (k2 := 5) rfl (by decide) rfl fl_X12_22 dX12_putsLaw_156 ?_
          refine lv_iload_n hx hb dX12_putsLaw_159 rfl (lv_at hl 2 rfl) ?_
          obtain ⟨hg1, hf⟩ := bG_e hf
          refine aI G hw (m_freshStep hZ) hg1 (j := l2_4.toNatClampNeg) rfl dX12_putsLaw_160 ?_
          obtain ⟨hg1, hf⟩ := bG_e hf
          obtain ⟨S_7, eS_7, hf⟩ := bL_e hf
          refine sI G hw (m_w hZ) hg1 (j := ((836 + (820 * a1)) + l2_4).toNatClampNeg) rfl eS_7 dX12_putsLaw_161 (fun H locs hw => ?_)
          obtain ⟨l2_8, el2_8, hf⟩ := bL_e hf
          refine lv_iinc (v := l2_8) (lv' := [(2, .int l2_8), (0, .ref (za Z 0)), (1, .int a1)]) hx hb dX12_putsLaw_162 hl (k := 2) rfl (by rw [el2_8]; rfl) (by decide) rfl (fun ls hl => ?_)
          refine lv_goto (tgt := 130) hx hb dX12_putsLaw_165 (by decide) ?_
          obtain rfl := Option.some.inj hf
          exact ih _ hg _ _ _ _ _ hw (lv_sub hl [1, 2, 0] rfl) hz
    clear eb
    obtain ⟨z, hz, hf⟩ := bB_e hf
    obtain ⟨n, hz⟩ := bP_e hz
    exact RL130 n z hf _ _ _ _ _ hw (lv_sub hl [1, 2, 0] rfl) hz
  clear ej
  obtain ⟨b16, eb, hf⟩ := bL_e hf
  have RL16 : ∀ (n : Nat) z, (u1 g128_16) z = some (r, S2) → ∀ (l2_10 : Int32) (S_11 : pS) (H : Heap) (locs : List Loc) (ls : Array Slot), Wd Z s S_11 H locs → lv_has ls 3 [(0, .ref (za Z 0)), (1, .int a1), (2, .int l2_10)] → bPn b16 n (l2_10, S_11) = some z → W p l e { frames := 3, cells := 0, slots := 0, locals := 60 } s m args below meth c H locs 0 0 Q (F0 m 16 ls []) := by
    intro n
    induction n with
    | zero =>
      intro z hg l2_10 S_11 H locs ls hw hl hz
      exact bPn_0 hz
    | succ n ih =>
      intro z hg l2_10 S_11 H locs ls hw hl hz
      obtain ⟨q_12, hf, hz⟩ := bPn_e hz
      have hf := u2_e ((congrFun eb _).symm.trans hf)
      refine lv_iload_n hx hb dX12_putsLaw_16 rfl (lv_at hl 2 rfl) ?_
      refine lv_aload_n hx hb dX12_putsLaw_17 rfl (lv_at hl 0 rfl) ?_
      refine gI G hw (m_this hZ) KX12 13 (by decide) rfl fl_X12_274 dX12_putsLaw_18 ?_
      refine lv_icmp_ge (tgt := 128) hx hb dX12_putsLaw_21 (by decide) (fun c_18 => ?_) (fun c_18 => ?_)
      · have hf := (if_pos c_18).symm.trans hf
        obtain rfl := Option.some.inj hf
        obtain rfl := Option.some.inj (hz : some _ = some _)
        exact R128_16 _ _ _ _ hw (lv_sub hl [0, 1] rfl) hg
      · have hf := (if_neg c_18).symm.trans hf
        refine lv_aload_n hx hb dX12_putsLaw_24 rfl (lv_at hl 0 rfl) ?_
        refine gF G hw (m_this hZ) KX12 0 (k2 := 1) rfl (by decide) rfl fl_X12_7 dX12_putsLaw_25 ?_
        refine lv_sipush hx hb dX12_putsLaw_28 ks_644 ?_
        refine lv_bipush hx hb dX12_putsLaw_31 kb_16 ?_
        refine lv_iload_n hx hb dX12_putsLaw_33 rfl (lv_at hl 1 rfl) ?_
        refine lv_imul hx hb dX12_putsLaw_34 ?_
        refine lv_iadd hx hb dX12_putsLaw_35 ?_
        refine lv_iload_n hx hb dX12_putsLaw_36 rfl (lv_at hl 2 rfl) ?_
        refine lv_iadd hx hb dX12_putsLaw_37 ?_
        refine lv_aload_n hx hb dX12_putsLaw_38 rfl (lv_at hl 0 rfl) ?_
        refine gF G hw (m_this hZ) KX12 5 (k2 := 4) rfl (by decide) rfl fl_X12_19 dX12_putsLaw_39 ?_
        refine lv_iconst hx hb dX12_putsLaw_42 ki_4 ?_
        refine lv_iload_n hx hb dX12_putsLaw_43 rfl (lv_at hl 2 rfl) ?_
        refine lv_imul hx hb dX12_putsLaw_44 ?_
        obtain ⟨hg1, hf⟩ := bG_e hf
        refine aI G hw (m_freshLine hZ) hg1 (j := (4 * l2_10).toNatClampNeg) rfl dX12_putsLaw_45 ?_
        obtain ⟨hg1, hf⟩ := bG_e hf
        obtain ⟨S_13, eS_13, hf⟩ := bL_e hf
        refine sI G hw (m_w hZ) hg1 (j := ((644 + (16 * a1)) + l2_10).toNatClampNeg) rfl eS_13 dX12_putsLaw_46 (fun H locs hw => ?_)
        refine lv_aload_n hx hb dX12_putsLaw_47 rfl (lv_at hl 0 rfl) ?_
        refine gF G hw (m_this hZ) KX12 0 (k2 := 1) rfl (by decide) rfl fl_X12_7 dX12_putsLaw_48 ?_
        refine lv_sipush hx hb dX12_putsLaw_51 ks_692 ?_
        refine lv_bipush hx hb dX12_putsLaw_54 kb_16 ?_
        refine lv_iload_n hx hb dX12_putsLaw_56 rfl (lv_at hl 1 rfl) ?_
        refine lv_imul hx hb dX12_putsLaw_57 ?_
        refine lv_iadd hx hb dX12_putsLaw_58 ?_
        refine lv_iload_n hx hb dX12_putsLaw_59 rfl (lv_at hl 2 rfl) ?_
        refine lv_iadd hx hb dX12_putsLaw_60 ?_
        refine lv_aload_n hx hb dX12_putsLaw_61 rfl (lv_at hl 0 rfl) ?_
        refine gF G hw (m_this hZ) KX12 5 (k2 := 4) rfl (by decide) rfl fl_X12_19 dX12_putsLaw_62 ?_
        refine lv_iconst hx hb dX12_putsLaw_65 ki_4 ?_
        refine lv_iload_n hx hb dX12_putsLaw_66 rfl (lv_at hl 2 rfl) ?_
        refine lv_imul hx hb dX12_putsLaw_67 ?_
        refine lv_iconst hx hb dX12_putsLaw_68 ki_1 ?_
        refine lv_iadd hx hb dX12_putsLaw_69 ?_
        obtain ⟨hg1, hf⟩ := bG_e hf
        refine aI G hw (m_freshLine hZ) hg1 (j := ((4 * l2_10) + 1).toNatClampNeg) rfl dX12_putsLaw_70 ?_
        obtain ⟨hg1, hf⟩ := bG_e hf
        obtain ⟨S_14, eS_14, hf⟩ := bL_e hf
        refine sI G hw (m_w hZ) hg1 (j := ((692 + (16 * a1)) + l2_10).toNatClampNeg) rfl eS_14 dX12_putsLaw_71 (fun H locs hw => ?_)
        refine lv_aload_n hx hb dX12_putsLaw_72 rfl (lv_at hl 0 rfl) ?_
        refine gF G hw (m_this hZ) KX12 0 (k2 := 1) rfl (by decide) rfl fl_X12_7 dX12_putsLaw_73 ?_
        refine lv_sipush hx hb dX12_putsLaw_76 ks_740 ?_
        refine lv_bipush hx hb dX12_putsLaw_79 kb_16 ?_
        refine lv_iload_n hx hb dX12_putsLaw_81 rfl (lv_at hl 1 rfl) ?_
        refine lv_imul hx hb dX12_putsLaw_82 ?_
        refine lv_iadd hx hb dX12_putsLaw_83 ?_
        refine lv_iload_n hx hb dX12_putsLaw_84 rfl (lv_at hl 2 rfl) ?_
        refine lv_iadd hx hb dX12_putsLaw_85 ?_
        refine lv_aload_n hx hb dX12_putsLaw_86 rfl (lv_at hl 0 rfl) ?_
        refine gF G hw (m_this hZ) KX12 5 (k2 := 4) rfl (by decide) rfl fl_X12_19 dX12_putsLaw_87 ?_
        refine lv_iconst hx hb dX12_putsLaw_90 ki_4 ?_
        refine lv_iload_n hx hb dX12_putsLaw_91 rfl (lv_at hl 2 rfl) ?_
        refine lv_imul hx hb dX12_putsLaw_92 ?_
        refine lv_iconst hx hb dX12_putsLaw_93 ki_2 ?_
        refine lv_iadd hx hb dX12_putsLaw_94 ?_
        obtain ⟨hg1, hf⟩ := bG_e hf
        refine aI G hw (m_freshLine hZ) hg1 (j := ((4 * l2_10) + 2).toNatClampNeg) rfl dX12_putsLaw_95 ?_
        obtain ⟨hg1, hf⟩ := bG_e hf
        obtain ⟨S_15, eS_15, hf⟩ := bL_e hf
        refine sI G hw (m_w hZ) hg1 (j := ((740 + (16 * a1)) + l2_10).toNatClampNeg) rfl eS_15 dX12_putsLaw_96 (fun H locs hw => ?_)
        refine lv_aload_n hx hb dX12_putsLaw_97 rfl (lv_at hl 0 rfl) ?_
        refine gF G hw (m_this hZ) KX12 0 (k2 := 1) rfl (by decide) rfl fl_X12_7 dX12_putsLaw_98 ?_
        refine lv_sipush hx hb dX12_putsLaw_101 ks_788 ?_
        refine lv_bipush hx hb dX12_putsLaw_104 kb_16 ?_
        refine lv_iload_n hx hb dX12_putsLaw_106 rfl (lv_at hl 1 rfl) ?_
        refine lv_imul hx hb dX12_putsLaw_107 ?_
        refine lv_iadd hx hb dX12_putsLaw_108 ?_
        refine lv_iload_n hx hb dX12_putsLaw_109 rfl (lv_at hl 2 rfl) ?_
        refine lv_iadd hx hb dX12_putsLaw_110 ?_
        refine lv_aload_n hx hb dX12_putsLaw_111 rfl (lv_at hl 0 rfl) ?_
        refine gF G hw (m_this hZ) KX12 5 (k2 := 4) rfl (by decide) rfl fl_X12_19 dX12_putsLaw_112 ?_
        refine lv_iconst hx hb dX12_putsLaw_115 ki_4 ?_
        refine lv_iload_n hx hb dX12_putsLaw_116 rfl (lv_at hl 2 rfl) ?_
        refine lv_imul hx hb dX12_putsLaw_117 ?_
        refine lv_iconst hx hb dX12_putsLaw_118 ki_3 ?_
        refine lv_iadd hx hb dX12_putsLaw_119 ?_
        obtain ⟨hg1, hf⟩ := bG_e hf
        refine aI G hw (m_freshLine hZ) hg1 (j := ((4 * l2_10) + 3).toNatClampNeg) rfl dX12_putsLaw_120 ?_
        obtain ⟨hg1, hf⟩ := bG_e hf
        obtain ⟨S_16, eS_16, hf⟩ := bL_e hf
        refine sI G hw (m_w hZ) hg1 (j := ((788 + (16 * a1)) + l2_10).toNatClampNeg) rfl eS_16 dX12_putsLaw_121 (fun H locs hw => ?_)
        obtain ⟨l2_17, el2_17, hf⟩ := bL_e hf
        refine lv_iinc (v := l2_17) (lv' := [(2, .int l2_17), (0, .ref (za Z 0)), (1, .int a1)]) hx hb dX12_putsLaw_122 hl (k := 2) rfl (by rw [el2_17]; rfl) (by decide) rfl (fun ls hl => ?_)
        refine lv_goto (tgt := 16) hx hb dX12_putsLaw_125 (by decide) ?_
        obtain rfl := Option.some.inj hf
        exact ih _ hg _ _ _ _ _ hw (lv_sub hl [1, 2, 0] rfl) hz
  clear eb
  obtain ⟨z, hz, hf⟩ := bB_e hf
  obtain ⟨n, hz⟩ := bP_e hz
  exact RL16 n z hf _ _ _ _ _ hw (lv_sub hl [1, 2, 0] rfl) hz
noncomputable def F12_putsPlan (S : pS) (a1 : Int32) : Option (Int32 × pS) :=
  bG (vp_in (82 + a1) 4296) <|
  bL (sU S 1 ((82 + a1).toNatClampNeg) (S 0 15)) fun S_1 =>
  bL (fun (S_2 : pS) =>
    bB (F12_gives S_2 a1 4 0) fun S_3 =>
    bL (F12_forgets S_3) fun S_4 =>
    some (S_4 0 15, S_4)) fun g52_15 =>
  bL (u2 fun (l2_5 : Int32) (S_6 : pS) =>
    if (5 * (S_6 0 15)) ≤ l2_5 then
      some (.inr S_6)
    else
      bG (vp_in l2_5 60) <|
      bG (vp_in ((150 + (60 * a1)) + l2_5) 4296) <|
      bL (sU S_6 1 (((150 + (60 * a1)) + l2_5).toNatClampNeg) (S_6 6 l2_5.toNatClampNeg)) fun S_8 =>
      bL (l2_5 + 1) fun l2_9 =>
      some (.inl (l2_9, S_8))) fun b15 =>
  bB (bP b15 ((0 : Int32), S_1)) (u1 g52_15)
set_option maxRecDepth 100000 in
set_option maxHeartbeats 4000000 in
theorem wX12_putsPlan {l : Launch} {Z : pZ}  (hZ : CM Z) (S : pS) (a1 : Int32) (r : Int32) (S2 : pS)  (hf : F12_putsPlan S a1 = some (r, S2)) : CI l Z yX12_putsPlan cX12_putsPlan 3 .int 4 83 [.ref (za Z 0), .int a1] S r S2 := by
  unfold F12_putsPlan at hf
  refine eI (own := RX12) (by decide) rfl (Nat.le_of_ble_eq_true rfl) (fun p e s m args below meth c Q ls G hl hw hret => ?_)
  obtain ⟨hx, hb, hml, hown, hts⟩ := G.1
  have hl : lv_has ls 3 [(0, .ref (za Z 0)), (1, .int a1)] := hl
  refine lv_aload_n hx hb dX12_putsPlan_0 rfl (lv_at hl 0 rfl) ?_
  refine gF G hw (m_this hZ) KX12 0 (k2 := 1) rfl (by decide) rfl fl_X12_7 dX12_putsPlan_1 ?_
  refine lv_bipush hx hb dX12_putsPlan_4 kb_82 ?_
  refine lv_iload_n hx hb dX12_putsPlan_6 rfl (lv_at hl 1 rfl) ?_
  refine lv_iadd hx hb dX12_putsPlan_7 ?_
  refine lv_aload_n hx hb dX12_putsPlan_8 rfl (lv_at hl 0 rfl) ?_
  refine gI G hw (m_this hZ) KX12 15 (by decide) rfl fl_X12_287 dX12_putsPlan_9 ?_
  obtain ⟨hg1, hf⟩ := bG_e hf
  obtain ⟨S_1, eS_1, hf⟩ := bL_e hf
  refine sI G hw (m_w hZ) hg1 (j := (82 + a1).toNatClampNeg) rfl eS_1 dX12_putsPlan_12 (fun H locs hw => ?_)
  refine lv_iconst hx hb dX12_putsPlan_13 ki_0 ?_
  refine lv_istore_n (lv' := [(2, .int 0), (0, .ref (za Z 0)), (1, .int a1)]) hx hb dX12_putsPlan_14 rfl hl (by decide) rfl (fun ls hl => ?_)
  obtain ⟨g52_15, ej, hf⟩ := bL_e hf
  have R52_15 : ∀ (S_2 : pS) (H : Heap) (locs : List Loc) (ls : Array Slot), Wd Z s S_2 H locs → lv_has ls 3 [(0, .ref (za Z 0)), (1, .int a1)] → g52_15 S_2 = some (r, S2) → W p l e { frames := 4, cells := 0, slots := 0, locals := 83 } s m args below meth c H locs 0 0 Q (F0 m 52 ls []) := by
    intro S_2 H locs ls hw hl hf
    have hf := (congrFun ej S_2).symm.trans hf
    refine lv_aload_n hx hb dX12_putsPlan_52 rfl (lv_at hl 0 rfl) ?_
    refine lv_iload_n hx hb dX12_putsPlan_53 rfl (lv_at hl 1 rfl) ?_
    refine lv_iconst hx hb dX12_putsPlan_54 ki_4 ?_
    refine lv_iconst hx hb dX12_putsPlan_55 ki_0 ?_
    obtain ⟨S_3, hS_3, hf⟩ := bB_e hf
    refine kVv (rest := []) G hw (wX12_gives hZ S_2 a1 4 0 S_3 hS_3) cw_X12_83 (m_this hZ) KX12 ⟨Nat.le_of_ble_eq_true rfl, Nat.le_of_ble_eq_true rfl⟩ rfl hl.1 rfl (Nat.le_of_ble_eq_true rfl) ⟨Nat.le_refl _, Nat.le_refl _⟩ dX12_putsPlan_56 (fun H locs hw => ?_)
    refine lv_aload_n hx hb dX12_putsPlan_59 rfl (lv_at hl 0 rfl) ?_
    obtain ⟨S_4, hS_4, hf⟩ := bL_e hf
    refine kVv (rest := []) G hw (wX12_forgets hZ S_3 S_4 hS_4.symm) cw_X12_78 (m_this hZ) KX12 ⟨Nat.le_of_ble_eq_true rfl, Nat.le_of_ble_eq_true rfl⟩ rfl hl.1 rfl (Nat.le_of_ble_eq_true rfl) ⟨Nat.le_refl _, Nat.le_refl _⟩ dX12_putsPlan_60 (fun H locs hw => ?_)
    refine lv_aload_n hx hb dX12_putsPlan_63 rfl (lv_at hl 0 rfl) ?_
    refine gI G hw (m_this hZ) KX12 15 (by decide) rfl fl_X12_287 dX12_putsPlan_64 ?_
    obtain ⟨e1, e2⟩ := Prod.mk.inj (Option.some.inj hf)
    exact hret _ _ _ _ _ dX12_putsPlan_67 e1 (by rw [← e2]; exact hw)
  clear ej
  obtain ⟨b15, eb, hf⟩ := bL_e hf
  have RL15 : ∀ (n : Nat) z, (u1 g52_15) z = some (r, S2) → ∀ (l2_5 : Int32) (S_6 : pS) (H : Heap) (locs : List Loc) (ls : Array Slot), Wd Z s S_6 H locs → lv_has ls 3 [(0, .ref (za Z 0)), (1, .int a1), (2, .int l2_5)] → bPn b15 n (l2_5, S_6) = some z → W p l e { frames := 4, cells := 0, slots := 0, locals := 83 } s m args below meth c H locs 0 0 Q (F0 m 15 ls []) := by
    intro n
    induction n with
    | zero =>
      intro z hg l2_5 S_6 H locs ls hw hl hz
      exact bPn_0 hz
    | succ n ih =>
      intro z hg l2_5 S_6 H locs ls hw hl hz
      obtain ⟨q_7, hf, hz⟩ := bPn_e hz
      have hf := u2_e ((congrFun eb _).symm.trans hf)
      refine lv_iload_n hx hb dX12_putsPlan_15 rfl (lv_at hl 2 rfl) ?_
      refine lv_iconst hx hb dX12_putsPlan_16 ki_5 ?_
      refine lv_aload_n hx hb dX12_putsPlan_17 rfl (lv_at hl 0 rfl) ?_
      refine gI G hw (m_this hZ) KX12 15 (by decide) rfl fl_X12_287 dX12_putsPlan_18 ?_
      refine lv_imul hx hb dX12_putsPlan_21 ?_
      refine lv_icmp_ge (tgt := 52) hx hb dX12_putsPlan_22 (by decide) (fun c_10 => ?_) (fun c_10 => ?_)
      · have hf := (if_pos c_10).symm.trans hf
        obtain rfl := Option.some.inj hf
        obtain rfl := Option.some.inj (hz : some _ = some _)
        exact R52_15 _ _ _ _ hw (lv_sub hl [0, 1] rfl) hg
      · have hf := (if_neg c_10).symm.trans hf
        refine lv_aload_n hx hb dX12_putsPlan_25 rfl (lv_at hl 0 rfl) ?_
        refine gF G hw (m_this hZ) KX12 0 (k2 := 1) rfl (by decide) rfl fl_X12_7 dX12_putsPlan_26 ?_
        refine lv_sipush hx hb dX12_putsPlan_29 ks_150 ?_
        refine lv_bipush hx hb dX12_putsPlan_32 kb_60 ?_
        refine lv_iload_n hx hb dX12_putsPlan_34 rfl (lv_at hl 1 rfl) ?_
        refine lv_imul hx hb dX12_putsPlan_35 ?_
        refine lv_iadd hx hb dX12_putsPlan_36 ?_
        refine lv_iload_n hx hb dX12_putsPlan_37 rfl (lv_at hl 2 rfl) ?_
        refine lv_iadd hx hb dX12_putsPlan_38 ?_
        refine lv_aload_n hx hb dX12_putsPlan_39 rfl (lv_at hl 0 rfl) ?_
        refine gF G hw (m_this hZ) KX12 7 (k2 := 6) rfl (by decide) rfl fl_X12_25 dX12_putsPlan_40 ?_
        refine lv_iload_n hx hb dX12_putsPlan_43 rfl (lv_at hl 2 rfl) ?_
        obtain ⟨hg1, hf⟩ := bG_e hf
        refine aI G hw (m_freshOrder hZ) hg1 (j := l2_5.toNatClampNeg) rfl dX12_putsPlan_44 ?_
        obtain ⟨hg1, hf⟩ := bG_e hf
        obtain ⟨S_8, eS_8, hf⟩ := bL_e hf
        refine sI G hw (m_w hZ) hg1 (j := ((150 + (60 * a1)) + l2_5).toNatClampNeg) rfl eS_8 dX12_putsPlan_45 (fun H locs hw => ?_)
        obtain ⟨l2_9, el2_9, hf⟩ := bL_e hf
        refine lv_iinc (v := l2_9) (lv' := [(2, .int l2_9), (0, .ref (za Z 0)), (1, .int a1)]) hx hb dX12_putsPlan_46 hl (k := 2) rfl (by rw [el2_9]; rfl) (by decide) rfl (fun ls hl => ?_)
        refine lv_goto (tgt := 15) hx hb dX12_putsPlan_49 (by decide) ?_
        obtain rfl := Option.some.inj hf
        exact ih _ hg _ _ _ _ _ hw (lv_sub hl [1, 2, 0] rfl) hz
  clear eb
  obtain ⟨z, hz, hf⟩ := bB_e hf
  obtain ⟨n, hz⟩ := bP_e hz
  exact RL15 n z hf _ _ _ _ _ hw (lv_sub hl [1, 2, 0] rfl) hz
noncomputable def F12_text (S : pS) (a1 : Int32) (a2 : Int32) : Option (Int32 × pS) :=
  bL (sU S 0 23 0) fun S_1 =>
  bL (sU S_1 0 25 (-1)) fun S_2 =>
  bL (fun (_ : Unit) =>
    bL (sU S_2 0 16 0) fun S_3 =>
    some (((-1) : Int32), S_3)) fun j32 =>
  if (F12_isIn a1 0 3) = 0 then
    j32 ()
  else
    bL (fun (_ : Unit) =>
      bL (sU S_2 0 21 0) fun S_4 =>
      bL (sU S_4 0 17 0) fun S_5 =>
      bL (sU S_5 0 12 a1) fun S_6 =>
      bB (F12_next0 S_6) fun S_7 =>
      bL (fun (t_8 : Int32) (S_9 : pS) =>
        bL (sU S_9 0 16 0) fun S_10 =>
        if t_8 = 0 then
          bL (sU S_10 0 23 (S_10 0 21)) fun S_11 =>
          bL (sU S_11 0 25 (S_11 0 22)) fun S_12 =>
          some (((-1) : Int32), S_12)
        else
          if a1 = 2 then
            bB2 (F12_putsPlan S_10 a2) fun r_17 S_18 =>
            some (r_17, S_18)
          else
            bL (fun (t_13 : Int32) =>
              bB2 (F12_putsLaw S_10 t_13) fun r_14 S_15 =>
              some (r_14, S_15)) fun j108 =>
            if a1 = 3 then
              j108 2
            else
              j108 a1) fun j74 =>
      if a1 = 2 then
        bB2 (F12_readsPlan S_7) fun r_23 S_24 =>
        j74 r_23 S_24
      else
        bB2 (F12_readsLaw S_7) fun r_21 S_22 =>
        j74 r_21 S_22) fun j39 =>
    if a1 = 2 then
      if (F12_isThrower S_2 a2) = 0 then
        j32 ()
      else
        j39 ()
    else
      j39 ()
set_option maxRecDepth 100000 in
set_option maxHeartbeats 4000000 in
theorem wX12_text {l : Launch} {Z : pZ}  (hZ : CM Z) (S : pS) (a1 : Int32) (a2 : Int32) (r : Int32) (S2 : pS)  (hf : F12_text S a1 a2 = some (r, S2)) : CI l Z yX12_text cX12_text 4 .int 57 2770 [.ref (za Z 0), .int a1, .int a2] S r S2 := by
  unfold F12_text at hf
  refine eI (own := RX12) (by decide) rfl (Nat.le_of_ble_eq_true rfl) (fun p e s m args below meth c Q ls G hl hw hret => ?_)
  obtain ⟨hx, hb, hml, hown, hts⟩ := G.1
  have hl : lv_has ls 4 [(0, .ref (za Z 0)), (1, .int a1), (2, .int a2)] := hl
  refine lv_aload_n hx hb dX12_text_0 rfl (lv_at hl 0 rfl) ?_
  refine lv_iconst hx hb dX12_text_1 ki_0 ?_
  obtain ⟨S_1, eS_1, hf⟩ := bL_e hf
  refine pI G hw (m_this hZ) KX12 23 (by decide) rfl rfl rfl eS_1 fl_X12_299 dX12_text_2 (fun H locs hw => ?_)
  refine lv_aload_n hx hb dX12_text_5 rfl (lv_at hl 0 rfl) ?_
  refine lv_iconst hx hb dX12_text_6 ki_m1 ?_
  obtain ⟨S_2, eS_2, hf⟩ := bL_e hf
  refine pI G hw (m_this hZ) KX12 25 (by decide) rfl rfl rfl eS_2 fl_X12_40 dX12_text_7 (fun H locs hw => ?_)
  refine lv_iload_n hx hb dX12_text_10 rfl (lv_at hl 1 rfl) ?_
  refine lv_iconst hx hb dX12_text_11 ki_0 ?_
  refine lv_iconst hx hb dX12_text_12 ki_3 ?_
  refine kSi (rest := []) G hw (wX12_isIn hZ S_2 a1 0 3 (F12_isIn a1 0 3) rfl) cw_X12_71 ⟨Nat.le_of_ble_eq_true rfl, Nat.le_of_ble_eq_true rfl⟩ rfl hl.1 rfl (Nat.le_of_ble_eq_true rfl) ⟨Nat.le_refl _, Nat.le_refl _⟩ dX12_text_13 (fun H locs hw => ?_)
  obtain ⟨j32, ej, hf⟩ := bL_e hf
  have R32 : ∀ (H : Heap) (locs : List Loc) (ls : Array Slot), Wd Z s S_2 H locs → lv_has ls 4 [(0, .ref (za Z 0))] → j32 () = some (r, S2) → W p l e { frames := 57, cells := 0, slots := 0, locals := 2770 } s m args below meth c H locs 0 0 Q (F0 m 32 ls []) := by
    intro  H locs ls hw hl hf
    have hf := (congrFun ej ()).symm.trans hf
    refine lv_aload_n hx hb dX12_text_32 rfl (lv_at hl 0 rfl) ?_
    refine lv_iconst hx hb dX12_text_33 ki_0 ?_
    obtain ⟨S_3, eS_3, hf⟩ := bL_e hf
    refine pI G hw (m_this hZ) KX12 16 (by decide) rfl rfl rfl eS_3 fl_X12_98 dX12_text_34 (fun H locs hw => ?_)
    refine lv_iconst hx hb dX12_text_37 ki_m1 ?_
    obtain ⟨e1, e2⟩ := Prod.mk.inj (Option.some.inj hf)
    exact hret _ _ _ _ _ dX12_text_38 e1 (by rw [← e2]; exact hw)
  clear ej
  refine lv_if_eq (tgt := 32) hx hb dX12_text_16 (by decide) (fun c_28 => ?_) (fun c_28 => ?_)
  · have hf := (if_pos c_28).symm.trans hf
    exact R32 _ _ _ hw (lv_sub hl [0] rfl) hf
  · have hf := (if_neg c_28).symm.trans hf
    refine lv_iload_n hx hb dX12_text_19 rfl (lv_at hl 1 rfl) ?_
    refine lv_iconst hx hb dX12_text_20 ki_2 ?_
    obtain ⟨j39, ej, hf⟩ := bL_e hf
    have R39 : ∀ (H : Heap) (locs : List Loc) (ls : Array Slot), Wd Z s S_2 H locs → lv_has ls 4 [(0, .ref (za Z 0)), (1, .int a1), (2, .int a2)] → j39 () = some (r, S2) → W p l e { frames := 57, cells := 0, slots := 0, locals := 2770 } s m args below meth c H locs 0 0 Q (F0 m 39 ls []) := by
      intro  H locs ls hw hl hf
      have hf := (congrFun ej ()).symm.trans hf
      refine lv_aload_n hx hb dX12_text_39 rfl (lv_at hl 0 rfl) ?_
      refine lv_iconst hx hb dX12_text_40 ki_0 ?_
      obtain ⟨S_4, eS_4, hf⟩ := bL_e hf
      refine pI G hw (m_this hZ) KX12 21 (by decide) rfl rfl rfl eS_4 fl_X12_227 dX12_text_41 (fun H locs hw => ?_)
      refine lv_aload_n hx hb dX12_text_44 rfl (lv_at hl 0 rfl) ?_
      refine lv_iconst hx hb dX12_text_45 ki_0 ?_
      obtain ⟨S_5, eS_5, hf⟩ := bL_e hf
      refine pI G hw (m_this hZ) KX12 17 (by decide) rfl rfl rfl eS_5 fl_X12_101 dX12_text_46 (fun H locs hw => ?_)
      refine lv_aload_n hx hb dX12_text_49 rfl (lv_at hl 0 rfl) ?_
      refine lv_iload_n hx hb dX12_text_50 rfl (lv_at hl 1 rfl) ?_
      obtain ⟨S_6, eS_6, hf⟩ := bL_e hf
      refine pI G hw (m_this hZ) KX12 12 (by decide) rfl rfl rfl eS_6 fl_X12_186 dX12_text_51 (fun H locs hw => ?_)
      refine lv_aload_n hx hb dX12_text_54 rfl (lv_at hl 0 rfl) ?_
      obtain ⟨S_7, hS_7, hf⟩ := bB_e hf
      refine kVv (rest := []) G hw (wX12_next0 hZ S_6 S_7 hS_7) cw_X12_236 (m_this hZ) KX12 ⟨Nat.le_of_ble_eq_true rfl, Nat.le_of_ble_eq_true rfl⟩ rfl hl.1 rfl (Nat.le_of_ble_eq_true rfl) ⟨Nat.le_refl _, Nat.le_refl _⟩ dX12_text_55 (fun H locs hw => ?_)
      refine lv_iload_n hx hb dX12_text_58 rfl (lv_at hl 1 rfl) ?_
      refine lv_iconst hx hb dX12_text_59 ki_2 ?_
      obtain ⟨j74, ej, hf⟩ := bL_e hf
      have R74 : ∀ (t_8 : Int32) (S_9 : pS) (H : Heap) (locs : List Loc) (ls : Array Slot), Wd Z s S_9 H locs → lv_has ls 4 [(0, .ref (za Z 0)), (1, .int a1), (2, .int a2)] → j74 t_8 S_9 = some (r, S2) → W p l e { frames := 57, cells := 0, slots := 0, locals := 2770 } s m args below meth c H locs 0 0 Q (F0 m 74 ls [.int t_8]) := by
        intro t_8 S_9 H locs ls hw hl hf
        have hf := (congrFun (congrFun ej t_8) S_9).symm.trans hf
        refine lv_istore_n (lv' := [(3, .int t_8), (0, .ref (za Z 0)), (1, .int a1), (2, .int a2)]) hx hb dX12_text_74 rfl hl (by decide) rfl (fun ls hl => ?_)
        refine lv_aload_n hx hb dX12_text_75 rfl (lv_at hl 1 rfl) ?_
        refine lv_iconst hx hb dX12_text_76 ki_0 ?_
        obtain ⟨S_10, eS_10, hf⟩ := bL_e hf
        refine pI G hw (m_this hZ) KX12 16 (by decide) rfl rfl rfl eS_10 fl_X12_98 dX12_text_77 (fun H locs hw => ?_)
        refine lv_iload_n hx hb dX12_text_80 rfl (lv_at hl 0 rfl) ?_
        refine lv_if_eq (tgt := 112) hx hb dX12_text_81 (by decide) (fun c_20 => ?_) (fun c_20 => ?_)
        · have hf := (if_pos c_20).symm.trans hf
          refine lv_aload_n hx hb dX12_text_112 rfl (lv_at hl 1 rfl) ?_
          refine lv_aload_n hx hb dX12_text_113 rfl (lv_at hl 1 rfl) ?_
          refine gI G hw (m_this hZ) KX12 21 (by decide) rfl fl_X12_227 dX12_text_114 ?_
          obtain ⟨S_11, eS_11, hf⟩ := bL_e hf
          refine pI G hw (m_this hZ) KX12 23 (by decide) rfl rfl rfl eS_11 fl_X12_299 dX12_text_117 (fun H locs hw => ?_)
          refine lv_aload_n hx hb dX12_text_120 rfl (lv_at hl 1 rfl) ?_
          refine lv_aload_n hx hb dX12_text_121 rfl (lv_at hl 1 rfl) ?_
          refine gI G hw (m_this hZ) KX12 22 (by decide) rfl fl_X12_230 dX12_text_122 ?_
          obtain ⟨S_12, eS_12, hf⟩ := bL_e hf
          refine pI G hw (m_this hZ) KX12 25 (by decide) rfl rfl rfl eS_12 fl_X12_40 dX12_text_125 (fun H locs hw => ?_)
          refine lv_iconst hx hb dX12_text_128 ki_m1 ?_
          obtain ⟨e1, e2⟩ := Prod.mk.inj (Option.some.inj hf)
          exact hret _ _ _ _ _ dX12_text_129 e1 (by rw [← e2]; exact hw)
        · have hf := (if_neg c_20).symm.trans hf
          refine lv_iload_n hx hb dX12_text_84 rfl (lv_at hl 2 rfl) ?_
          refine lv_iconst hx hb dX12_text_85 ki_2 ?_
          refine lv_icmp_ne (tgt := 97) hx hb dX12_text_86 (by decide) (fun c_19 => ?_) (fun c_19 => ?_)
          · have hf := (if_neg c_19).symm.trans hf
            refine lv_aload_n hx hb dX12_text_97 rfl (lv_at hl 1 rfl) ?_
            refine lv_iload_n hx hb dX12_text_98 rfl (lv_at hl 2 rfl) ?_
            refine lv_iconst hx hb dX12_text_99 ki_3 ?_
            obtain ⟨j108, ej, hf⟩ := bL_e hf
            have R108 : ∀ (t_13 : Int32) (H : Heap) (locs : List Loc) (ls : Array Slot), Wd Z s S_10 H locs → lv_has ls 4 [] → j108 t_13 = some (r, S2) → W p l e { frames := 57, cells := 0, slots := 0, locals := 2770 } s m args below meth c H locs 0 0 Q (F0 m 108 ls [.int t_13, .ref (za Z 0)]) := by
              intro t_13 H locs ls hw hl hf
              have hf := (congrFun ej t_13).symm.trans hf
              obtain ⟨r_14, S_15, hr_14, hf⟩ := bB2_e hf
              refine kVi (rest := []) G hw (wX12_putsLaw hZ S_10 t_13 r_14 S_15 hr_14) cw_X12_311 (m_this hZ) KX12 ⟨Nat.le_of_ble_eq_true rfl, Nat.le_of_ble_eq_true rfl⟩ rfl hl.1 rfl (Nat.le_of_ble_eq_true rfl) ⟨Nat.le_refl _, Nat.le_refl _⟩ dX12_text_108 (fun H locs hw => ?_)
              obtain ⟨e1, e2⟩ := Prod.mk.inj (Option.some.inj hf)
              exact hret _ _ _ _ _ dX12_text_111 e1 (by rw [← e2]; exact hw)
            clear ej
            refine lv_icmp_ne (tgt := 107) hx hb dX12_text_100 (by decide) (fun c_16 => ?_) (fun c_16 => ?_)
            · have hf := (if_neg c_16).symm.trans hf
              refine lv_iload_n hx hb dX12_text_107 rfl (lv_at hl 2 rfl) ?_
              exact R108 _ _ _ _ hw (lv_sub hl [] rfl) hf
            · have hf := (if_pos c_16).symm.trans hf
              refine lv_iconst hx hb dX12_text_103 ki_2 ?_
              refine lv_goto (tgt := 108) hx hb dX12_text_104 (by decide) ?_
              exact R108 _ _ _ _ hw (lv_sub hl [] rfl) hf
          · have hf := (if_pos c_19).symm.trans hf
            refine lv_aload_n hx hb dX12_text_89 rfl (lv_at hl 1 rfl) ?_
            refine lv_iload_n hx hb dX12_text_90 rfl (lv_at hl 3 rfl) ?_
            obtain ⟨r_17, S_18, hr_17, hf⟩ := bB2_e hf
            refine kVi (rest := []) G hw (wX12_putsPlan hZ S_10 a2 r_17 S_18 hr_17) cw_X12_308 (m_this hZ) KX12 ⟨Nat.le_of_ble_eq_true rfl, Nat.le_of_ble_eq_true rfl⟩ rfl hl.1 rfl (Nat.le_of_ble_eq_true rfl) ⟨Nat.le_refl _, Nat.le_refl _⟩ dX12_text_91 (fun H locs hw => ?_)
            refine lv_goto (tgt := 111) hx hb dX12_text_94 (by decide) ?_
            obtain ⟨e1, e2⟩ := Prod.mk.inj (Option.some.inj hf)
            exact hret _ _ _ _ _ dX12_text_111 e1 (by rw [← e2]; exact hw)
      clear ej
      refine lv_icmp_ne (tgt := 70) hx hb dX12_text_60 (by decide) (fun c_25 => ?_) (fun c_25 => ?_)
      · have hf := (if_neg c_25).symm.trans hf
        refine lv_aload_n hx hb dX12_text_70 rfl (lv_at hl 0 rfl) ?_
        obtain ⟨r_21, S_22, hr_21, hf⟩ := bB2_e hf
        refine kVi (rest := []) G hw (wX12_readsLaw hZ S_7 r_21 S_22 hr_21) cw_X12_305 (m_this hZ) KX12 ⟨Nat.le_of_ble_eq_true rfl, Nat.le_of_ble_eq_true rfl⟩ rfl hl.1 rfl (Nat.le_of_ble_eq_true rfl) ⟨Nat.le_refl _, Nat.le_refl _⟩ dX12_text_71 (fun H locs hw => ?_)
        exact R74 _ _ _ _ _ hw (lv_sub hl [0, 1, 2] rfl) hf
      · have hf := (if_pos c_25).symm.trans hf
        refine lv_aload_n hx hb dX12_text_63 rfl (lv_at hl 0 rfl) ?_
        obtain ⟨r_23, S_24, hr_23, hf⟩ := bB2_e hf
        refine kVi (rest := []) G hw (wX12_readsPlan hZ S_7 r_23 S_24 hr_23) cw_X12_302 (m_this hZ) KX12 ⟨Nat.le_of_ble_eq_true rfl, Nat.le_of_ble_eq_true rfl⟩ rfl hl.1 rfl (Nat.le_of_ble_eq_true rfl) ⟨Nat.le_refl _, Nat.le_refl _⟩ dX12_text_64 (fun H locs hw => ?_)
        refine lv_goto (tgt := 74) hx hb dX12_text_67 (by decide) ?_
        exact R74 _ _ _ _ _ hw (lv_sub hl [0, 1, 2] rfl) hf
    clear ej
    refine lv_icmp_ne (tgt := 39) hx hb dX12_text_21 (by decide) (fun c_27 => ?_) (fun c_27 => ?_)
    · have hf := (if_neg c_27).symm.trans hf
      exact R39 _ _ _ hw (lv_sub hl [0, 1, 2] rfl) hf
    · have hf := (if_pos c_27).symm.trans hf
      refine lv_aload_n hx hb dX12_text_24 rfl (lv_at hl 0 rfl) ?_
      refine lv_iload_n hx hb dX12_text_25 rfl (lv_at hl 2 rfl) ?_
      refine kVi (rest := []) G hw (wX12_isThrower hZ S_2 a2 (F12_isThrower S_2 a2) rfl) cw_X12_87 (m_this hZ) KX12 ⟨Nat.le_of_ble_eq_true rfl, Nat.le_of_ble_eq_true rfl⟩ rfl hl.1 rfl (Nat.le_of_ble_eq_true rfl) ⟨Nat.le_refl _, Nat.le_refl _⟩ dX12_text_26 (fun H locs hw => ?_)
      refine lv_if_ne (tgt := 39) hx hb dX12_text_29 (by decide) (fun c_26 => ?_) (fun c_26 => ?_)
      · have hf := (if_neg c_26).symm.trans hf
        exact R39 _ _ _ hw (lv_sub hl [0, 1, 2] rfl) hf
      · have hf := (if_pos c_26).symm.trans hf
        exact R32 _ _ _ hw (lv_sub hl [0] rfl) hf
noncomputable def F12_fault (S : pS) (a1 : Int32) : Int32 :=
  if a1 = 0 then
    S 0 23
  else
    if a1 = 1 then
      S 0 25
    else
      ((-1) : Int32)
set_option maxRecDepth 100000 in
set_option maxHeartbeats 4000000 in
theorem wX12_fault {l : Launch} {Z : pZ}  (hZ : CM Z) (S : pS) (a1 : Int32) (r : Int32)  (hf : F12_fault S a1 = r) : CI l Z yX12_fault cX12_fault 2 .int 3 60 [.ref (za Z 0), .int a1] S r S := by
  unfold F12_fault at hf
  refine eI (own := RX12) (by decide) rfl (Nat.le_of_ble_eq_true rfl) (fun p e s m args below meth c Q ls G hl hw hret => ?_)
  obtain ⟨hx, hb, hml, hown, hts⟩ := G.1
  have hl : lv_has ls 2 [(0, .ref (za Z 0)), (1, .int a1)] := hl
  refine lv_iload_n hx hb dX12_fault_0 rfl (lv_at hl 1 rfl) ?_
  refine lv_if_ne (tgt := 11) hx hb dX12_fault_1 (by decide) (fun c_2 => ?_) (fun c_2 => ?_)
  · have hf := (if_neg c_2).symm.trans hf
    refine lv_iload_n hx hb dX12_fault_11 rfl (lv_at hl 1 rfl) ?_
    refine lv_iconst hx hb dX12_fault_12 ki_1 ?_
    refine lv_icmp_ne (tgt := 23) hx hb dX12_fault_13 (by decide) (fun c_1 => ?_) (fun c_1 => ?_)
    · have hf := (if_neg c_1).symm.trans hf
      refine lv_iconst hx hb dX12_fault_23 ki_m1 ?_
      exact hret _ _ _ _ _ dX12_fault_24 hf hw
    · have hf := (if_pos c_1).symm.trans hf
      refine lv_aload_n hx hb dX12_fault_16 rfl (lv_at hl 0 rfl) ?_
      refine gI G hw (m_this hZ) KX12 25 (by decide) rfl fl_X12_40 dX12_fault_17 ?_
      refine lv_goto (tgt := 24) hx hb dX12_fault_20 (by decide) ?_
      exact hret _ _ _ _ _ dX12_fault_24 hf hw
  · have hf := (if_pos c_2).symm.trans hf
    refine lv_aload_n hx hb dX12_fault_4 rfl (lv_at hl 0 rfl) ?_
    refine gI G hw (m_this hZ) KX12 23 (by decide) rfl fl_X12_299 dX12_fault_5 ?_
    refine lv_goto (tgt := 24) hx hb dX12_fault_8 (by decide) ?_
    exact hret _ _ _ _ _ dX12_fault_24 hf hw
noncomputable def F12_both (a0 : Int32) (a1 : Int32) (a2 : Int32) : Int32 :=
  if a0 = 23 then
    a1 + a2
  else if a0 = 24 then
    a1 - a2
  else if a0 = 25 then
    a1 * a2
  else if a0 = 26 then
    a1 ||| a2
  else if a0 = 27 then
    if a2 ≤ a1 then
      (0 : Int32)
    else
      (1 : Int32)
  else if a0 = 28 then
    if a1 = a2 then
      (1 : Int32)
    else
      (0 : Int32)
  else if a0 = 29 then
    if a1 ≤ a2 then
      (0 : Int32)
    else
      (1 : Int32)
  else if a0 = 30 then
    a1 ||| a2
  else if a0 = 31 then
    a1 &&& a2
  else 
    a1 ||| a2
set_option maxRecDepth 100000 in
set_option maxHeartbeats 4000000 in
theorem wX12_both {l : Launch} {Z : pZ}  (hZ : CM Z) (S : pS) (a0 : Int32) (a1 : Int32) (a2 : Int32) (r : Int32)  (hf : F12_both a0 a1 a2 = r) : CI l Z yX12_both cX12_both 3 .int 3 60 [.int a0, .int a1, .int a2] S r S := by
  unfold F12_both at hf
  refine eI (own := RX12) (by decide) rfl (Nat.le_of_ble_eq_true rfl) (fun p e s m args below meth c Q ls G hl hw hret => ?_)
  obtain ⟨hx, hb, hml, hown, hts⟩ := G.1
  have hl : lv_has ls 3 [(0, .int a0), (1, .int a1), (2, .int a2)] := hl
  refine lv_iload_n hx hb dX12_both_0 rfl (lv_at hl 0 rfl) ?_
  by_cases c_1 : a0 = 23
  · have hf := (if_pos c_1).symm.trans hf
    refine lv_tableIn (tgt := 52) hx hb dX12_both_1 (by rw [c_1]; decide) (by rw [c_1]; decide) (off := 51) (by rw [c_1]; decide) (by decide) ?_
    refine lv_iload_n hx hb dX12_both_52 rfl (lv_at hl 1 rfl) ?_
    refine lv_iload_n hx hb dX12_both_53 rfl (lv_at hl 2 rfl) ?_
    refine lv_iadd hx hb dX12_both_54 ?_
    exact hret _ _ _ _ _ dX12_both_55 hf hw
  have hf := (if_neg c_1).symm.trans hf
  by_cases c_2 : a0 = 24
  · have hf := (if_pos c_2).symm.trans hf
    refine lv_tableIn (tgt := 56) hx hb dX12_both_1 (by rw [c_2]; decide) (by rw [c_2]; decide) (off := 55) (by rw [c_2]; decide) (by decide) ?_
    refine lv_iload_n hx hb dX12_both_56 rfl (lv_at hl 1 rfl) ?_
    refine lv_iload_n hx hb dX12_both_57 rfl (lv_at hl 2 rfl) ?_
    refine lv_isub hx hb dX12_both_58 ?_
    exact hret _ _ _ _ _ dX12_both_59 hf hw
  have hf := (if_neg c_2).symm.trans hf
  by_cases c_3 : a0 = 25
  · have hf := (if_pos c_3).symm.trans hf
    refine lv_tableIn (tgt := 60) hx hb dX12_both_1 (by rw [c_3]; decide) (by rw [c_3]; decide) (off := 59) (by rw [c_3]; decide) (by decide) ?_
    refine lv_iload_n hx hb dX12_both_60 rfl (lv_at hl 1 rfl) ?_
    refine lv_iload_n hx hb dX12_both_61 rfl (lv_at hl 2 rfl) ?_
    refine lv_imul hx hb dX12_both_62 ?_
    exact hret _ _ _ _ _ dX12_both_63 hf hw
  have hf := (if_neg c_3).symm.trans hf
  by_cases c_4 : a0 = 26
  · have hf := (if_pos c_4).symm.trans hf
    refine lv_tableIn (tgt := 101) hx hb dX12_both_1 (by rw [c_4]; decide) (by rw [c_4]; decide) (off := 100) (by rw [c_4]; decide) (by decide) ?_
    refine lv_iload_n hx hb dX12_both_101 rfl (lv_at hl 1 rfl) ?_
    refine lv_iload_n hx hb dX12_both_102 rfl (lv_at hl 2 rfl) ?_
    refine lv_ior hx hb dX12_both_103 ?_
    exact hret _ _ _ _ _ dX12_both_104 hf hw
  have hf := (if_neg c_4).symm.trans hf
  by_cases c_6 : a0 = 27
  · have hf := (if_pos c_6).symm.trans hf
    refine lv_tableIn (tgt := 64) hx hb dX12_both_1 (by rw [c_6]; decide) (by rw [c_6]; decide) (off := 63) (by rw [c_6]; decide) (by decide) ?_
    refine lv_iload_n hx hb dX12_both_64 rfl (lv_at hl 1 rfl) ?_
    refine lv_iload_n hx hb dX12_both_65 rfl (lv_at hl 2 rfl) ?_
    refine lv_icmp_ge (tgt := 73) hx hb dX12_both_66 (by decide) (fun c_5 => ?_) (fun c_5 => ?_)
    · have hf := (if_pos c_5).symm.trans hf
      refine lv_iconst hx hb dX12_both_73 ki_0 ?_
      exact hret _ _ _ _ _ dX12_both_74 hf hw
    · have hf := (if_neg c_5).symm.trans hf
      refine lv_iconst hx hb dX12_both_69 ki_1 ?_
      refine lv_goto (tgt := 74) hx hb dX12_both_70 (by decide) ?_
      exact hret _ _ _ _ _ dX12_both_74 hf hw
  have hf := (if_neg c_6).symm.trans hf
  by_cases c_8 : a0 = 28
  · have hf := (if_pos c_8).symm.trans hf
    refine lv_tableIn (tgt := 75) hx hb dX12_both_1 (by rw [c_8]; decide) (by rw [c_8]; decide) (off := 74) (by rw [c_8]; decide) (by decide) ?_
    refine lv_iload_n hx hb dX12_both_75 rfl (lv_at hl 1 rfl) ?_
    refine lv_iload_n hx hb dX12_both_76 rfl (lv_at hl 2 rfl) ?_
    refine lv_icmp_ne (tgt := 84) hx hb dX12_both_77 (by decide) (fun c_7 => ?_) (fun c_7 => ?_)
    · have hf := (if_neg c_7).symm.trans hf
      refine lv_iconst hx hb dX12_both_84 ki_0 ?_
      exact hret _ _ _ _ _ dX12_both_85 hf hw
    · have hf := (if_pos c_7).symm.trans hf
      refine lv_iconst hx hb dX12_both_80 ki_1 ?_
      refine lv_goto (tgt := 85) hx hb dX12_both_81 (by decide) ?_
      exact hret _ _ _ _ _ dX12_both_85 hf hw
  have hf := (if_neg c_8).symm.trans hf
  by_cases c_10 : a0 = 29
  · have hf := (if_pos c_10).symm.trans hf
    refine lv_tableIn (tgt := 86) hx hb dX12_both_1 (by rw [c_10]; decide) (by rw [c_10]; decide) (off := 85) (by rw [c_10]; decide) (by decide) ?_
    refine lv_iload_n hx hb dX12_both_86 rfl (lv_at hl 1 rfl) ?_
    refine lv_iload_n hx hb dX12_both_87 rfl (lv_at hl 2 rfl) ?_
    refine lv_icmp_le (tgt := 95) hx hb dX12_both_88 (by decide) (fun c_9 => ?_) (fun c_9 => ?_)
    · have hf := (if_pos c_9).symm.trans hf
      refine lv_iconst hx hb dX12_both_95 ki_0 ?_
      exact hret _ _ _ _ _ dX12_both_96 hf hw
    · have hf := (if_neg c_9).symm.trans hf
      refine lv_iconst hx hb dX12_both_91 ki_1 ?_
      refine lv_goto (tgt := 96) hx hb dX12_both_92 (by decide) ?_
      exact hret _ _ _ _ _ dX12_both_96 hf hw
  have hf := (if_neg c_10).symm.trans hf
  by_cases c_11 : a0 = 30
  · have hf := (if_pos c_11).symm.trans hf
    refine lv_tableIn (tgt := 101) hx hb dX12_both_1 (by rw [c_11]; decide) (by rw [c_11]; decide) (off := 100) (by rw [c_11]; decide) (by decide) ?_
    refine lv_iload_n hx hb dX12_both_101 rfl (lv_at hl 1 rfl) ?_
    refine lv_iload_n hx hb dX12_both_102 rfl (lv_at hl 2 rfl) ?_
    refine lv_ior hx hb dX12_both_103 ?_
    exact hret _ _ _ _ _ dX12_both_104 hf hw
  have hf := (if_neg c_11).symm.trans hf
  by_cases c_12 : a0 = 31
  · have hf := (if_pos c_12).symm.trans hf
    refine lv_tableIn (tgt := 97) hx hb dX12_both_1 (by rw [c_12]; decide) (by rw [c_12]; decide) (off := 96) (by rw [c_12]; decide) (by decide) ?_
    refine lv_iload_n hx hb dX12_both_97 rfl (lv_at hl 1 rfl) ?_
    refine lv_iload_n hx hb dX12_both_98 rfl (lv_at hl 2 rfl) ?_
    refine lv_iand hx hb dX12_both_99 ?_
    exact hret _ _ _ _ _ dX12_both_100 hf hw
  have hf := (if_neg c_12).symm.trans hf
  refine lv_tableOut (tgt := 101) hx hb dX12_both_1 (sw_out [23, 24, 25, 26, 27, 28, 29, 30, 31] (by decide +kernel) (List.forall_mem_cons.mpr ⟨c_1, (List.forall_mem_cons.mpr ⟨c_2, (List.forall_mem_cons.mpr ⟨c_3, (List.forall_mem_cons.mpr ⟨c_4, (List.forall_mem_cons.mpr ⟨c_6, (List.forall_mem_cons.mpr ⟨c_8, (List.forall_mem_cons.mpr ⟨c_10, (List.forall_mem_cons.mpr ⟨c_11, (List.forall_mem_cons.mpr ⟨c_12, (fun _ h => absurd h List.not_mem_nil)⟩)⟩)⟩)⟩)⟩)⟩)⟩)⟩)⟩)) (by decide) ?_
  refine lv_iload_n hx hb dX12_both_101 rfl (lv_at hl 1 rfl) ?_
  refine lv_iload_n hx hb dX12_both_102 rfl (lv_at hl 2 rfl) ?_
  refine lv_ior hx hb dX12_both_103 ?_
  exact hret _ _ _ _ _ dX12_both_104 hf hw

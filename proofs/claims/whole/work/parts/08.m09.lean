noncomputable def F12_image (S : pS) (a1 : Int32) : Option (Int32 × pS) :=
  bL (fun (_ : Unit) =>
    bL (fun (S_1 : pS) =>
      bL (fun (S_2 : pS) =>
        bL (sU S_2 0 4 1) fun S_3 =>
        some ((1 : Int32), S_3)) fun j67 =>
      if a1 = 0 then
        bL (F12_forgets S_1) fun S_4 =>
        j67 S_4
      else
        j67 S_1) fun g59_15 =>
    bL (u2 fun (l2_6 : Int32) (S_7 : pS) =>
      if 4296 ≤ l2_6 then
        some (.inr S_7)
      else
        bL (fun (S_9 : pS) =>
          bL (l2_6 + 1) fun l2_10 =>
          some (.inl (l2_10, S_9))) fun j53 =>
        if a1 = 0 then
          bG (vp_in l2_6 4296) <|
          bG (vp_in l2_6 4296) <|
          bL (sU S_7 1 l2_6.toNatClampNeg (S_7 2 l2_6.toNatClampNeg)) fun S_11 =>
          j53 S_11
        else
          bG (vp_in l2_6 4296) <|
          bG (vp_in l2_6 4296) <|
          bL (sU S_7 2 l2_6.toNatClampNeg (S_7 1 l2_6.toNatClampNeg)) fun S_12 =>
          j53 S_12) fun b15 =>
    bB (bP b15 ((0 : Int32), S)) (u1 g59_15)) fun j13 =>
  if a1 = 0 then
    if (S 0 4) = 0 then
      some ((0 : Int32), S)
    else
      j13 ()
  else
    j13 ()
set_option maxRecDepth 100000 in
set_option maxHeartbeats 4000000 in
theorem wX12_image {l : Launch} {Z : pZ}  (hZ : CM Z) (S : pS) (a1 : Int32) (r : Int32) (S2 : pS)  (hf : F12_image S a1 = some (r, S2)) : CI l Z yX12_image cX12_image 3 .boolean 4 80 [.ref (za Z 0), .int a1] S r S2 := by
  unfold F12_image at hf
  refine eZ (own := RX12) (by decide) rfl (Nat.le_of_ble_eq_true rfl) (fun p e s m args below meth c Q ls G hl hw hret => ?_)
  obtain ⟨hx, hb, hml, hown, hts⟩ := G.1
  have hl : lv_has ls 3 [(0, .ref (za Z 0)), (1, .int a1)] := hl
  refine lv_iload_n hx hb dX12_image_0 rfl (lv_at hl 1 rfl) ?_
  obtain ⟨j13, ej, hf⟩ := bL_e hf
  have R13 : ∀ (H : Heap) (locs : List Loc) (ls : Array Slot), Wd Z s S H locs → lv_has ls 3 [(0, .ref (za Z 0)), (1, .int a1)] → j13 () = some (r, S2) → W p l e { frames := 4, cells := 0, slots := 0, locals := 80 } s m args below meth c H locs 0 0 Q (F0 m 13 ls []) := by
    intro  H locs ls hw hl hf
    have hf := (congrFun ej ()).symm.trans hf
    refine lv_iconst hx hb dX12_image_13 ki_0 ?_
    refine lv_istore_n (lv' := [(2, .int 0), (0, .ref (za Z 0)), (1, .int a1)]) hx hb dX12_image_14 rfl hl (by decide) rfl (fun ls hl => ?_)
    obtain ⟨g59_15, ej, hf⟩ := bL_e hf
    have R59_15 : ∀ (S_1 : pS) (H : Heap) (locs : List Loc) (ls : Array Slot), Wd Z s S_1 H locs → lv_has ls 3 [(0, .ref (za Z 0)), (1, .int a1)] → g59_15 S_1 = some (r, S2) → W p l e { frames := 4, cells := 0, slots := 0, locals := 80 } s m args below meth c H locs 0 0 Q (F0 m 59 ls []) := by
      intro S_1 H locs ls hw hl hf
      have hf := (congrFun ej S_1).symm.trans hf
      refine lv_iload_n hx hb dX12_image_59 rfl (lv_at hl 1 rfl) ?_
      obtain ⟨j67, ej, hf⟩ := bL_e hf
      have R67 : ∀ (S_2 : pS) (H : Heap) (locs : List Loc) (ls : Array Slot), Wd Z s S_2 H locs → lv_has ls 3 [(0, .ref (za Z 0))] → j67 S_2 = some (r, S2) → W p l e { frames := 4, cells := 0, slots := 0, locals := 80 } s m args below meth c H locs 0 0 Q (F0 m 67 ls []) := by
        intro S_2 H locs ls hw hl hf
        have hf := (congrFun ej S_2).symm.trans hf
        refine lv_aload_n hx hb dX12_image_67 rfl (lv_at hl 0 rfl) ?_
        refine lv_iconst hx hb dX12_image_68 ki_1 ?_
        obtain ⟨S_3, eS_3, hf⟩ := bL_e hf
        refine pG G hw (m_this hZ) KX12 4 (by decide) rfl (x := 1) rfl (by decide) (by decide) rfl eS_3 fl_X12_489 dX12_image_69 (fun H locs hw => ?_)
        refine lv_iconst hx hb dX12_image_72 ki_1 ?_
        obtain ⟨e1, e2⟩ := Prod.mk.inj (Option.some.inj hf)
        exact hret _ _ _ _ _ dX12_image_73 ((by decide : (1 : Int32) &&& 1 = 1).trans e1) (by rw [← e2]; exact hw)
      clear ej
      refine lv_if_ne (tgt := 67) hx hb dX12_image_60 (by decide) (fun c_5 => ?_) (fun c_5 => ?_)
      · have hf := (if_neg c_5).symm.trans hf
        exact R67 _ _ _ _ hw (lv_sub hl [0] rfl) hf
      · have hf := (if_pos c_5).symm.trans hf
        refine lv_aload_n hx hb dX12_image_63 rfl (lv_at hl 0 rfl) ?_
        obtain ⟨S_4, hS_4, hf⟩ := bL_e hf
        refine kVv (rest := []) G hw (wX12_forgets hZ S_1 S_4 hS_4.symm) cw_X12_78 (m_this hZ) KX12 ⟨Nat.le_of_ble_eq_true rfl, Nat.le_of_ble_eq_true rfl⟩ rfl hl.1 rfl (Nat.le_of_ble_eq_true rfl) ⟨Nat.le_refl _, Nat.le_refl _⟩ dX12_image_64 (fun H locs hw => ?_)
        exact R67 _ _ _ _ hw (lv_sub hl [0] rfl) hf
    clear ej
    obtain ⟨b15, eb, hf⟩ := bL_e hf
    have RL15 : ∀ (n : Nat) z, (u1 g59_15) z = some (r, S2) → ∀ (l2_6 : Int32) (S_7 : pS) (H : Heap) (locs : List Loc) (ls : Array Slot), Wd Z s S_7 H locs → lv_has ls 3 [(0, .ref (za Z 0)), (1, .int a1), (2, .int l2_6)] → bPn b15 n (l2_6, S_7) = some z → W p l e { frames := 4, cells := 0, slots := 0, locals := 80 } s m args below meth c H locs 0 0 Q (F0 m 15 ls []) := by
      intro n
      induction n with
      | zero =>
        intro z hg l2_6 S_7 H locs ls hw hl hz
        exact bPn_0 hz
      | succ n ih =>
        intro z hg l2_6 S_7 H locs ls hw hl hz
        obtain ⟨q_8, hf, hz⟩ := bPn_e hz
        have hf := u2_e ((congrFun eb _).symm.trans hf)
        refine lv_iload_n hx hb dX12_image_15 rfl (lv_at hl 2 rfl) ?_
        refine lv_sipush hx hb dX12_image_16 ks_4296 ?_
        refine lv_icmp_ge (tgt := 59) hx hb dX12_image_19 (by decide) (fun c_14 => ?_) (fun c_14 => ?_)
        · have hf := (if_pos c_14).symm.trans hf
          obtain rfl := Option.some.inj hf
          obtain rfl := Option.some.inj (hz : some _ = some _)
          exact R59_15 _ _ _ _ hw (lv_sub hl [0, 1] rfl) hg
        · have hf := (if_neg c_14).symm.trans hf
          refine lv_iload_n hx hb dX12_image_22 rfl (lv_at hl 1 rfl) ?_
          obtain ⟨j53, ej, hf⟩ := bL_e hf
          have R53 : ∀ (S_9 : pS) (H : Heap) (locs : List Loc) (ls : Array Slot), Wd Z s S_9 H locs → lv_has ls 3 [(0, .ref (za Z 0)), (1, .int a1), (2, .int l2_6)] → j53 S_9 = some q_8 → W p l e { frames := 4, cells := 0, slots := 0, locals := 80 } s m args below meth c H locs 0 0 Q (F0 m 53 ls []) := by
            intro S_9 H locs ls hw hl hf
            have hf := (congrFun ej S_9).symm.trans hf
            obtain ⟨l2_10, el2_10, hf⟩ := bL_e hf
            refine lv_iinc (v := l2_10) (lv' := [(2, .int l2_10), (0, .ref (za Z 0)), (1, .int a1)]) hx hb dX12_image_53 hl (k := 2) rfl (by rw [el2_10]; rfl) (by decide) rfl (fun ls hl => ?_)
            refine lv_goto (tgt := 15) hx hb dX12_image_56 (by decide) ?_
            obtain rfl := Option.some.inj hf
            exact ih _ hg _ _ _ _ _ hw (lv_sub hl [1, 2, 0] rfl) hz
          clear ej
          refine lv_if_eq (tgt := 41) hx hb dX12_image_23 (by decide) (fun c_13 => ?_) (fun c_13 => ?_)
          · have hf := (if_pos c_13).symm.trans hf
            refine lv_aload_n hx hb dX12_image_41 rfl (lv_at hl 0 rfl) ?_
            refine gF G hw (m_this hZ) KX12 0 (k2 := 1) rfl (by decide) rfl fl_X12_7 dX12_image_42 ?_
            refine lv_iload_n hx hb dX12_image_45 rfl (lv_at hl 2 rfl) ?_
            refine lv_aload_n hx hb dX12_image_46 rfl (lv_at hl 0 rfl) ?_
            refine gF G hw (m_this hZ) KX12 1 (k2 := 2) rfl (by decide) rfl fl_X12_13 dX12_image_47 ?_
            refine lv_iload_n hx hb dX12_image_50 rfl (lv_at hl 2 rfl) ?_
            obtain ⟨hg1, hf⟩ := bG_e hf
            refine aI G hw (m_kept hZ) hg1 (j := l2_6.toNatClampNeg) rfl dX12_image_51 ?_
            obtain ⟨hg1, hf⟩ := bG_e hf
            obtain ⟨S_11, eS_11, hf⟩ := bL_e hf
            refine sI G hw (m_w hZ) hg1 (j := l2_6.toNatClampNeg) rfl eS_11 dX12_image_52 (fun H locs hw => ?_)
            exact R53 _ _ _ _ hw (lv_sub hl [0, 1, 2] rfl) hf
          · have hf := (if_neg c_13).symm.trans hf
            refine lv_aload_n hx hb dX12_image_26 rfl (lv_at hl 0 rfl) ?_
            refine gF G hw (m_this hZ) KX12 1 (k2 := 2) rfl (by decide) rfl fl_X12_13 dX12_image_27 ?_
            refine lv_iload_n hx hb dX12_image_30 rfl (lv_at hl 2 rfl) ?_
            refine lv_aload_n hx hb dX12_image_31 rfl (lv_at hl 0 rfl) ?_
            refine gF G hw (m_this hZ) KX12 0 (k2 := 1) rfl (by decide) rfl fl_X12_7 dX12_image_32 ?_
            refine lv_iload_n hx hb dX12_image_35 rfl (lv_at hl 2 rfl) ?_
            obtain ⟨hg1, hf⟩ := bG_e hf
            refine aI G hw (m_w hZ) hg1 (j := l2_6.toNatClampNeg) rfl dX12_image_36 ?_
            obtain ⟨hg1, hf⟩ := bG_e hf
            obtain ⟨S_12, eS_12, hf⟩ := bL_e hf
            refine sI G hw (m_kept hZ) hg1 (j := l2_6.toNatClampNeg) rfl eS_12 dX12_image_37 (fun H locs hw => ?_)
            refine lv_goto (tgt := 53) hx hb dX12_image_38 (by decide) ?_
            exact R53 _ _ _ _ hw (lv_sub hl [0, 1, 2] rfl) hf
    clear eb
    obtain ⟨z, hz, hf⟩ := bB_e hf
    obtain ⟨n, hz⟩ := bP_e hz
    exact RL15 n z hf _ _ _ _ _ hw (lv_sub hl [1, 2, 0] rfl) hz
  clear ej
  refine lv_if_ne (tgt := 13) hx hb dX12_image_1 (by decide) (fun c_16 => ?_) (fun c_16 => ?_)
  · have hf := (if_neg c_16).symm.trans hf
    exact R13 _ _ _ hw (lv_sub hl [0, 1] rfl) hf
  · have hf := (if_pos c_16).symm.trans hf
    refine lv_aload_n hx hb dX12_image_4 rfl (lv_at hl 0 rfl) ?_
    refine gI G hw (m_this hZ) KX12 4 (by decide) rfl fl_X12_489 dX12_image_5 ?_
    refine lv_if_ne (tgt := 13) hx hb dX12_image_8 (by decide) (fun c_15 => ?_) (fun c_15 => ?_)
    · have hf := (if_neg c_15).symm.trans hf
      exact R13 _ _ _ hw (lv_sub hl [0, 1] rfl) hf
    · have hf := (if_pos c_15).symm.trans hf
      refine lv_iconst hx hb dX12_image_11 ki_0 ?_
      obtain ⟨e1, e2⟩ := Prod.mk.inj (Option.some.inj hf)
      exact hret _ _ _ _ _ dX12_image_12 ((by decide : (0 : Int32) &&& 1 = 0).trans e1) (by rw [← e2]; exact hw)
noncomputable def F12_look (S : pS) (a1 : Int32) : Option (Int32) :=
  if a1 = 0 then
    some (S 1 67)
  else if a1 = 1 then
    some (S 1 68)
  else if a1 = 2 then
    some (S 1 0)
  else if a1 = 3 then
    some (S 1 1)
  else if a1 = 4 then
    some (S 1 66)
  else if a1 = 5 then
    some (S 1 2)
  else if a1 = 6 then
    some (S 1 3)
  else if a1 = 7 then
    some (S 1 640)
  else if a1 = 8 then
    some (S 1 641)
  else if a1 = 9 then
    some (S 0 3)
  else if a1 = 10 then
    some (S 1 69)
  else if a1 = 11 then
    some (S 1 642)
  else 
    if (F12_isIn a1 20 24) = 0 then
      some ((-1000) : Int32)
    else
      bG (vp_in ((60 + a1) - 20) 4296) <|
      some (S 1 (((60 + a1) - 20).toNatClampNeg))
set_option maxRecDepth 100000 in
set_option maxHeartbeats 4000000 in
theorem wX12_look {l : Launch} {Z : pZ}  (hZ : CM Z) (S : pS) (a1 : Int32) (r : Int32)  (hf : F12_look S a1 = some r) : CI l Z yX12_look cX12_look 2 .int 4 82 [.ref (za Z 0), .int a1] S r S := by
  unfold F12_look at hf
  refine eI (own := RX12) (by decide) rfl (Nat.le_of_ble_eq_true rfl) (fun p e s m args below meth c Q ls G hl hw hret => ?_)
  obtain ⟨hx, hb, hml, hown, hts⟩ := G.1
  have hl : lv_has ls 2 [(0, .ref (za Z 0)), (1, .int a1)] := hl
  refine lv_iload_n hx hb dX12_look_0 rfl (lv_at hl 1 rfl) ?_
  by_cases c_1 : a1 = 0
  · have hf := (if_pos c_1).symm.trans hf
    refine lv_tableIn (tgt := 64) hx hb dX12_look_1 (by rw [c_1]; decide) (by rw [c_1]; decide) (off := 63) (by rw [c_1]; decide) (by decide) ?_
    refine lv_aload_n hx hb dX12_look_64 rfl (lv_at hl 0 rfl) ?_
    refine gF G hw (m_this hZ) KX12 0 (k2 := 1) rfl (by decide) rfl fl_X12_7 dX12_look_65 ?_
    refine lv_bipush hx hb dX12_look_68 kb_67 ?_
    refine aI G hw (m_w hZ) (vin_e (by decide)) (j := 67) (by decide) dX12_look_70 ?_
    exact hret _ _ _ _ _ dX12_look_71 (Option.some.inj hf) hw
  have hf := (if_neg c_1).symm.trans hf
  by_cases c_2 : a1 = 1
  · have hf := (if_pos c_2).symm.trans hf
    refine lv_tableIn (tgt := 72) hx hb dX12_look_1 (by rw [c_2]; decide) (by rw [c_2]; decide) (off := 71) (by rw [c_2]; decide) (by decide) ?_
    refine lv_aload_n hx hb dX12_look_72 rfl (lv_at hl 0 rfl) ?_
    refine gF G hw (m_this hZ) KX12 0 (k2 := 1) rfl (by decide) rfl fl_X12_7 dX12_look_73 ?_
    refine lv_bipush hx hb dX12_look_76 kb_68 ?_
    refine aI G hw (m_w hZ) (vin_e (by decide)) (j := 68) (by decide) dX12_look_78 ?_
    exact hret _ _ _ _ _ dX12_look_79 (Option.some.inj hf) hw
  have hf := (if_neg c_2).symm.trans hf
  by_cases c_3 : a1 = 2
  · have hf := (if_pos c_3).symm.trans hf
    refine lv_tableIn (tgt := 80) hx hb dX12_look_1 (by rw [c_3]; decide) (by rw [c_3]; decide) (off := 79) (by rw [c_3]; decide) (by decide) ?_
    refine lv_aload_n hx hb dX12_look_80 rfl (lv_at hl 0 rfl) ?_
    refine gF G hw (m_this hZ) KX12 0 (k2 := 1) rfl (by decide) rfl fl_X12_7 dX12_look_81 ?_
    refine lv_iconst hx hb dX12_look_84 ki_0 ?_
    refine aI G hw (m_w hZ) (vin_e (by decide)) (j := 0) (by decide) dX12_look_85 ?_
    exact hret _ _ _ _ _ dX12_look_86 (Option.some.inj hf) hw
  have hf := (if_neg c_3).symm.trans hf
  by_cases c_4 : a1 = 3
  · have hf := (if_pos c_4).symm.trans hf
    refine lv_tableIn (tgt := 87) hx hb dX12_look_1 (by rw [c_4]; decide) (by rw [c_4]; decide) (off := 86) (by rw [c_4]; decide) (by decide) ?_
    refine lv_aload_n hx hb dX12_look_87 rfl (lv_at hl 0 rfl) ?_
    refine gF G hw (m_this hZ) KX12 0 (k2 := 1) rfl (by decide) rfl fl_X12_7 dX12_look_88 ?_
    refine lv_iconst hx hb dX12_look_91 ki_1 ?_
    refine aI G hw (m_w hZ) (vin_e (by decide)) (j := 1) (by decide) dX12_look_92 ?_
    exact hret _ _ _ _ _ dX12_look_93 (Option.some.inj hf) hw
  have hf := (if_neg c_4).symm.trans hf
  by_cases c_5 : a1 = 4
  · have hf := (if_pos c_5).symm.trans hf
    refine lv_tableIn (tgt := 94) hx hb dX12_look_1 (by rw [c_5]; decide) (by rw [c_5]; decide) (off := 93) (by rw [c_5]; decide) (by decide) ?_
    refine lv_aload_n hx hb dX12_look_94 rfl (lv_at hl 0 rfl) ?_
    refine gF G hw (m_this hZ) KX12 0 (k2 := 1) rfl (by decide) rfl fl_X12_7 dX12_look_95 ?_
    refine lv_bipush hx hb dX12_look_98 kb_66 ?_
    refine aI G hw (m_w hZ) (vin_e (by decide)) (j := 66) (by decide) dX12_look_100 ?_
    exact hret _ _ _ _ _ dX12_look_101 (Option.some.inj hf) hw
  have hf := (if_neg c_5).symm.trans hf
  by_cases c_6 : a1 = 5
  · have hf := (if_pos c_6).symm.trans hf
    refine lv_tableIn (tgt := 102) hx hb dX12_look_1 (by rw [c_6]; decide) (by rw [c_6]; decide) (off := 101) (by rw [c_6]; decide) (by decide) ?_
    refine lv_aload_n hx hb dX12_look_102 rfl (lv_at hl 0 rfl) ?_
    refine gF G hw (m_this hZ) KX12 0 (k2 := 1) rfl (by decide) rfl fl_X12_7 dX12_look_103 ?_
    refine lv_iconst hx hb dX12_look_106 ki_2 ?_
    refine aI G hw (m_w hZ) (vin_e (by decide)) (j := 2) (by decide) dX12_look_107 ?_
    exact hret _ _ _ _ _ dX12_look_108 (Option.some.inj hf) hw
  have hf := (if_neg c_6).symm.trans hf
  by_cases c_7 : a1 = 6
  · have hf := (if_pos c_7).symm.trans hf
    refine lv_tableIn (tgt := 109) hx hb dX12_look_1 (by rw [c_7]; decide) (by rw [c_7]; decide) (off := 108) (by rw [c_7]; decide) (by decide) ?_
    refine lv_aload_n hx hb dX12_look_109 rfl (lv_at hl 0 rfl) ?_
    refine gF G hw (m_this hZ) KX12 0 (k2 := 1) rfl (by decide) rfl fl_X12_7 dX12_look_110 ?_
    refine lv_iconst hx hb dX12_look_113 ki_3 ?_
    refine aI G hw (m_w hZ) (vin_e (by decide)) (j := 3) (by decide) dX12_look_114 ?_
    exact hret _ _ _ _ _ dX12_look_115 (Option.some.inj hf) hw
  have hf := (if_neg c_7).symm.trans hf
  by_cases c_8 : a1 = 7
  · have hf := (if_pos c_8).symm.trans hf
    refine lv_tableIn (tgt := 116) hx hb dX12_look_1 (by rw [c_8]; decide) (by rw [c_8]; decide) (off := 115) (by rw [c_8]; decide) (by decide) ?_
    refine lv_aload_n hx hb dX12_look_116 rfl (lv_at hl 0 rfl) ?_
    refine gF G hw (m_this hZ) KX12 0 (k2 := 1) rfl (by decide) rfl fl_X12_7 dX12_look_117 ?_
    refine lv_sipush hx hb dX12_look_120 ks_640 ?_
    refine aI G hw (m_w hZ) (vin_e (by decide)) (j := 640) (by decide) dX12_look_123 ?_
    exact hret _ _ _ _ _ dX12_look_124 (Option.some.inj hf) hw
  have hf := (if_neg c_8).symm.trans hf
  by_cases c_9 : a1 = 8
  · have hf := (if_pos c_9).symm.trans hf
    refine lv_tableIn (tgt := 125) hx hb dX12_look_1 (by rw [c_9]; decide) (by rw [c_9]; decide) (off := 124) (by rw [c_9]; decide) (by decide) ?_
    refine lv_aload_n hx hb dX12_look_125 rfl (lv_at hl 0 rfl) ?_
    refine gF G hw (m_this hZ) KX12 0 (k2 := 1) rfl (by decide) rfl fl_X12_7 dX12_look_126 ?_
    refine lv_sipush hx hb dX12_look_129 ks_641 ?_
    refine aI G hw (m_w hZ) (vin_e (by decide)) (j := 641) (by decide) dX12_look_132 ?_
    exact hret _ _ _ _ _ dX12_look_133 (Option.some.inj hf) hw
  have hf := (if_neg c_9).symm.trans hf
  by_cases c_10 : a1 = 9
  · have hf := (if_pos c_10).symm.trans hf
    refine lv_tableIn (tgt := 134) hx hb dX12_look_1 (by rw [c_10]; decide) (by rw [c_10]; decide) (off := 133) (by rw [c_10]; decide) (by decide) ?_
    refine lv_aload_n hx hb dX12_look_134 rfl (lv_at hl 0 rfl) ?_
    refine gI G hw (m_this hZ) KX12 3 (by decide) rfl fl_X12_75 dX12_look_135 ?_
    exact hret _ _ _ _ _ dX12_look_138 (Option.some.inj hf) hw
  have hf := (if_neg c_10).symm.trans hf
  by_cases c_11 : a1 = 10
  · have hf := (if_pos c_11).symm.trans hf
    refine lv_tableIn (tgt := 139) hx hb dX12_look_1 (by rw [c_11]; decide) (by rw [c_11]; decide) (off := 138) (by rw [c_11]; decide) (by decide) ?_
    refine lv_aload_n hx hb dX12_look_139 rfl (lv_at hl 0 rfl) ?_
    refine gF G hw (m_this hZ) KX12 0 (k2 := 1) rfl (by decide) rfl fl_X12_7 dX12_look_140 ?_
    refine lv_bipush hx hb dX12_look_143 kb_69 ?_
    refine aI G hw (m_w hZ) (vin_e (by decide)) (j := 69) (by decide) dX12_look_145 ?_
    exact hret _ _ _ _ _ dX12_look_146 (Option.some.inj hf) hw
  have hf := (if_neg c_11).symm.trans hf
  by_cases c_12 : a1 = 11
  · have hf := (if_pos c_12).symm.trans hf
    refine lv_tableIn (tgt := 147) hx hb dX12_look_1 (by rw [c_12]; decide) (by rw [c_12]; decide) (off := 146) (by rw [c_12]; decide) (by decide) ?_
    refine lv_aload_n hx hb dX12_look_147 rfl (lv_at hl 0 rfl) ?_
    refine gF G hw (m_this hZ) KX12 0 (k2 := 1) rfl (by decide) rfl fl_X12_7 dX12_look_148 ?_
    refine lv_sipush hx hb dX12_look_151 ks_642 ?_
    refine aI G hw (m_w hZ) (vin_e (by decide)) (j := 642) (by decide) dX12_look_154 ?_
    exact hret _ _ _ _ _ dX12_look_155 (Option.some.inj hf) hw
  have hf := (if_neg c_12).symm.trans hf
  refine lv_tableOut (tgt := 156) hx hb dX12_look_1 (sw_out [0, 1, 2, 3, 4, 5, 6, 7, 8, 9, 10, 11] (by decide +kernel) (List.forall_mem_cons.mpr ⟨c_1, (List.forall_mem_cons.mpr ⟨c_2, (List.forall_mem_cons.mpr ⟨c_3, (List.forall_mem_cons.mpr ⟨c_4, (List.forall_mem_cons.mpr ⟨c_5, (List.forall_mem_cons.mpr ⟨c_6, (List.forall_mem_cons.mpr ⟨c_7, (List.forall_mem_cons.mpr ⟨c_8, (List.forall_mem_cons.mpr ⟨c_9, (List.forall_mem_cons.mpr ⟨c_10, (List.forall_mem_cons.mpr ⟨c_11, (List.forall_mem_cons.mpr ⟨c_12, (fun _ h => absurd h List.not_mem_nil)⟩)⟩)⟩)⟩)⟩)⟩)⟩)⟩)⟩)⟩)⟩)⟩)) (by decide) ?_
  refine lv_iload_n hx hb dX12_look_156 rfl (lv_at hl 1 rfl) ?_
  refine lv_bipush hx hb dX12_look_157 kb_20 ?_
  refine lv_bipush hx hb dX12_look_159 kb_24 ?_
  refine kSi (rest := []) G hw (wX12_isIn hZ S a1 20 24 (F12_isIn a1 20 24) rfl) cw_X12_71 ⟨Nat.le_of_ble_eq_true rfl, Nat.le_of_ble_eq_true rfl⟩ rfl hl.1 rfl (Nat.le_of_ble_eq_true rfl) ⟨Nat.le_refl _, Nat.le_refl _⟩ dX12_look_161 (fun H locs hw => ?_)
  refine lv_if_eq (tgt := 182) hx hb dX12_look_164 (by decide) (fun c_13 => ?_) (fun c_13 => ?_)
  · have hf := (if_pos c_13).symm.trans hf
    refine lv_sipush hx hb dX12_look_182 ks_m1000 ?_
    exact hret _ _ _ _ _ dX12_look_185 (Option.some.inj hf) hw
  · have hf := (if_neg c_13).symm.trans hf
    refine lv_aload_n hx hb dX12_look_167 rfl (lv_at hl 0 rfl) ?_
    refine gF G hw (m_this hZ) KX12 0 (k2 := 1) rfl (by decide) rfl fl_X12_7 dX12_look_168 ?_
    refine lv_bipush hx hb dX12_look_171 kb_60 ?_
    refine lv_iload_n hx hb dX12_look_173 rfl (lv_at hl 1 rfl) ?_
    refine lv_iadd hx hb dX12_look_174 ?_
    refine lv_bipush hx hb dX12_look_175 kb_20 ?_
    refine lv_isub hx hb dX12_look_177 ?_
    obtain ⟨hg1, hf⟩ := bG_e hf
    refine aI G hw (m_w hZ) hg1 (j := ((60 + a1) - 20).toNatClampNeg) rfl dX12_look_178 ?_
    refine lv_goto (tgt := 185) hx hb dX12_look_179 (by decide) ?_
    exact hret _ _ _ _ _ dX12_look_185 (Option.some.inj hf) hw

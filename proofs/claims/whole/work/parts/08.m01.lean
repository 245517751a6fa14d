noncomputable def F12_trainWord (S : pS) : Option (Int32) :=
  bB (F12_is S 28) fun r_1 =>
  if r_1 = 0 then
    bB (F12_is S 29) fun r_2 =>
    if r_2 = 0 then
      bB (F12_is S 30) fun r_3 =>
      if r_3 = 0 then
        bB (F12_is S 24) fun r_4 =>
        if r_4 = 0 then
          bB (F12_is S 23) fun r_5 =>
          if r_5 = 0 then
            bB (F12_is S 31) fun r_6 =>
            if r_6 = 0 then
              some (1 : Int32)
            else
              some (59 : Int32)
          else
            some (53 : Int32)
        else
          some (54 : Int32)
      else
        some (58 : Int32)
    else
      some (28 : Int32)
  else
    some (27 : Int32)
set_option maxRecDepth 100000 in
set_option maxHeartbeats 4000000 in
theorem wX12_trainWord {l : Launch} {Z : pZ}  (hZ : CM Z) (S : pS)  (r : Int32)  (hf : F12_trainWord S = some r) : CI l Z yX12_trainWord cX12_trainWord 1 .int 8 183 [.ref (za Z 0)] S r S := by
  unfold F12_trainWord at hf
  refine eI (own := RX12) (by decide) rfl (Nat.le_of_ble_eq_true rfl) (fun p e s m args below meth c Q ls G hl hw hret => ?_)
  obtain ⟨hx, hb, hml, hown, hts⟩ := G.1
  have hl : lv_has ls 1 [(0, .ref (za Z 0))] := hl
  refine lv_aload_n hx hb dX12_trainWord_0 rfl (lv_at hl 0 rfl) ?_
  refine va_ldcS hx hb hown (rS_28 G) dX12_trainWord_1 ?_
  obtain ⟨r_1, hr_1, hf⟩ := bB_e hf
  refine kVi (rest := []) G hw (wX12_is hZ S 28 r_1 (by decide) hr_1) cw_X12_119 (m_this hZ) KX12 ⟨Nat.le_of_ble_eq_true rfl, Nat.le_of_ble_eq_true rfl⟩ rfl hl.1 rfl (Nat.le_of_ble_eq_true rfl) ⟨Nat.le_refl _, Nat.le_refl _⟩ dX12_trainWord_3 (fun H locs hw => ?_)
  refine lv_if_eq (tgt := 12) hx hb dX12_trainWord_6 (by decide) (fun c_12 => ?_) (fun c_12 => ?_)
  · have hf := (if_pos c_12).symm.trans hf
    refine lv_aload_n hx hb dX12_trainWord_12 rfl (lv_at hl 0 rfl) ?_
    refine va_ldcS hx hb hown (rS_29 G) dX12_trainWord_13 ?_
    obtain ⟨r_2, hr_2, hf⟩ := bB_e hf
    refine kVi (rest := []) G hw (wX12_is hZ S 29 r_2 (by decide) hr_2) cw_X12_119 (m_this hZ) KX12 ⟨Nat.le_of_ble_eq_true rfl, Nat.le_of_ble_eq_true rfl⟩ rfl hl.1 rfl (Nat.le_of_ble_eq_true rfl) ⟨Nat.le_refl _, Nat.le_refl _⟩ dX12_trainWord_15 (fun H locs hw => ?_)
    refine lv_if_eq (tgt := 24) hx hb dX12_trainWord_18 (by decide) (fun c_11 => ?_) (fun c_11 => ?_)
    · have hf := (if_pos c_11).symm.trans hf
      refine lv_aload_n hx hb dX12_trainWord_24 rfl (lv_at hl 0 rfl) ?_
      refine va_ldcS hx hb hown (rS_30 G) dX12_trainWord_25 ?_
      obtain ⟨r_3, hr_3, hf⟩ := bB_e hf
      refine kVi (rest := []) G hw (wX12_is hZ S 30 r_3 (by decide) hr_3) cw_X12_119 (m_this hZ) KX12 ⟨Nat.le_of_ble_eq_true rfl, Nat.le_of_ble_eq_true rfl⟩ rfl hl.1 rfl (Nat.le_of_ble_eq_true rfl) ⟨Nat.le_refl _, Nat.le_refl _⟩ dX12_trainWord_27 (fun H locs hw => ?_)
      refine lv_if_eq (tgt := 36) hx hb dX12_trainWord_30 (by decide) (fun c_10 => ?_) (fun c_10 => ?_)
      · have hf := (if_pos c_10).symm.trans hf
        refine lv_aload_n hx hb dX12_trainWord_36 rfl (lv_at hl 0 rfl) ?_
        refine va_ldcS hx hb hown (rS_24 G) dX12_trainWord_37 ?_
        obtain ⟨r_4, hr_4, hf⟩ := bB_e hf
        refine kVi (rest := []) G hw (wX12_is hZ S 24 r_4 (by decide) hr_4) cw_X12_119 (m_this hZ) KX12 ⟨Nat.le_of_ble_eq_true rfl, Nat.le_of_ble_eq_true rfl⟩ rfl hl.1 rfl (Nat.le_of_ble_eq_true rfl) ⟨Nat.le_refl _, Nat.le_refl _⟩ dX12_trainWord_39 (fun H locs hw => ?_)
        refine lv_if_eq (tgt := 48) hx hb dX12_trainWord_42 (by decide) (fun c_9 => ?_) (fun c_9 => ?_)
        · have hf := (if_pos c_9).symm.trans hf
          refine lv_aload_n hx hb dX12_trainWord_48 rfl (lv_at hl 0 rfl) ?_
          refine va_ldcS hx hb hown (rS_23 G) dX12_trainWord_49 ?_
          obtain ⟨r_5, hr_5, hf⟩ := bB_e hf
          refine kVi (rest := []) G hw (wX12_is hZ S 23 r_5 (by decide) hr_5) cw_X12_119 (m_this hZ) KX12 ⟨Nat.le_of_ble_eq_true rfl, Nat.le_of_ble_eq_true rfl⟩ rfl hl.1 rfl (Nat.le_of_ble_eq_true rfl) ⟨Nat.le_refl _, Nat.le_refl _⟩ dX12_trainWord_51 (fun H locs hw => ?_)
          refine lv_if_eq (tgt := 60) hx hb dX12_trainWord_54 (by decide) (fun c_8 => ?_) (fun c_8 => ?_)
          · have hf := (if_pos c_8).symm.trans hf
            refine lv_aload_n hx hb dX12_trainWord_60 rfl (lv_at hl 0 rfl) ?_
            refine va_ldcS hx hb hown (rS_31 G) dX12_trainWord_61 ?_
            obtain ⟨r_6, hr_6, hf⟩ := bB_e hf
            refine kVi (rest := []) G hw (wX12_is hZ S 31 r_6 (by decide) hr_6) cw_X12_119 (m_this hZ) KX12 ⟨Nat.le_of_ble_eq_true rfl, Nat.le_of_ble_eq_true rfl⟩ rfl hl.1 rfl (Nat.le_of_ble_eq_true rfl) ⟨Nat.le_refl _, Nat.le_refl _⟩ dX12_trainWord_63 (fun H locs hw => ?_)
            refine lv_if_eq (tgt := 74) hx hb dX12_trainWord_66 (by decide) (fun c_7 => ?_) (fun c_7 => ?_)
            · have hf := (if_pos c_7).symm.trans hf
              refine lv_iconst hx hb dX12_trainWord_74 ki_1 ?_
              exact hret _ _ _ _ _ dX12_trainWord_75 (Option.some.inj hf) hw
            · have hf := (if_neg c_7).symm.trans hf
              refine lv_bipush hx hb dX12_trainWord_69 kb_59 ?_
              refine lv_goto (tgt := 75) hx hb dX12_trainWord_71 (by decide) ?_
              exact hret _ _ _ _ _ dX12_trainWord_75 (Option.some.inj hf) hw
          · have hf := (if_neg c_8).symm.trans hf
            refine lv_bipush hx hb dX12_trainWord_57 kb_53 ?_
            exact hret _ _ _ _ _ dX12_trainWord_59 (Option.some.inj hf) hw
        · have hf := (if_neg c_9).symm.trans hf
          refine lv_bipush hx hb dX12_trainWord_45 kb_54 ?_
          exact hret _ _ _ _ _ dX12_trainWord_47 (Option.some.inj hf) hw
      · have hf := (if_neg c_10).symm.trans hf
        refine lv_bipush hx hb dX12_trainWord_33 kb_58 ?_
        exact hret _ _ _ _ _ dX12_trainWord_35 (Option.some.inj hf) hw
    · have hf := (if_neg c_11).symm.trans hf
      refine lv_bipush hx hb dX12_trainWord_21 kb_28 ?_
      exact hret _ _ _ _ _ dX12_trainWord_23 (Option.some.inj hf) hw
  · have hf := (if_neg c_12).symm.trans hf
    refine lv_bipush hx hb dX12_trainWord_9 kb_27 ?_
    exact hret _ _ _ _ _ dX12_trainWord_11 (Option.some.inj hf) hw
noncomputable def F12_planWord (S : pS) : Option (Int32) :=
  bB (F12_is S 32) fun r_1 =>
  if r_1 = 0 then
    bB (F12_is S 33) fun r_2 =>
    if r_2 = 0 then
      bB (F12_is S 34) fun r_3 =>
      if r_3 = 0 then
        bB (F12_is S 35) fun r_4 =>
        if r_4 = 0 then
          bB (F12_is S 21) fun r_5 =>
          if r_5 = 0 then
            bB (F12_is S 36) fun r_6 =>
            if r_6 = 0 then
              some (1 : Int32)
            else
              some (12 : Int32)
          else
            some (11 : Int32)
        else
          some (10 : Int32)
      else
        some (9 : Int32)
    else
      some (8 : Int32)
  else
    some (7 : Int32)
set_option maxRecDepth 100000 in
set_option maxHeartbeats 4000000 in
theorem wX12_planWord {l : Launch} {Z : pZ}  (hZ : CM Z) (S : pS)  (r : Int32)  (hf : F12_planWord S = some r) : CI l Z yX12_planWord cX12_planWord 1 .int 8 183 [.ref (za Z 0)] S r S := by
  unfold F12_planWord at hf
  refine eI (own := RX12) (by decide) rfl (Nat.le_of_ble_eq_true rfl) (fun p e s m args below meth c Q ls G hl hw hret => ?_)
  obtain ⟨hx, hb, hml, hown, hts⟩ := G.1
  have hl : lv_has ls 1 [(0, .ref (za Z 0))] := hl
  refine lv_aload_n hx hb dX12_planWord_0 rfl (lv_at hl 0 rfl) ?_
  refine va_ldcS hx hb hown (rS_32 G) dX12_planWord_1 ?_
  obtain ⟨r_1, hr_1, hf⟩ := bB_e hf
  refine kVi (rest := []) G hw (wX12_is hZ S 32 r_1 (by decide) hr_1) cw_X12_119 (m_this hZ) KX12 ⟨Nat.le_of_ble_eq_true rfl, Nat.le_of_ble_eq_true rfl⟩ rfl hl.1 rfl (Nat.le_of_ble_eq_true rfl) ⟨Nat.le_refl _, Nat.le_refl _⟩ dX12_planWord_3 (fun H locs hw => ?_)
  refine lv_if_eq (tgt := 12) hx hb dX12_planWord_6 (by decide) (fun c_12 => ?_) (fun c_12 => ?_)
  · have hf := (if_pos c_12).symm.trans hf
    refine lv_aload_n hx hb dX12_planWord_12 rfl (lv_at hl 0 rfl) ?_
    refine va_ldcS hx hb hown (rS_33 G) dX12_planWord_13 ?_
    obtain ⟨r_2, hr_2, hf⟩ := bB_e hf
    refine kVi (rest := []) G hw (wX12_is hZ S 33 r_2 (by decide) hr_2) cw_X12_119 (m_this hZ) KX12 ⟨Nat.le_of_ble_eq_true rfl, Nat.le_of_ble_eq_true rfl⟩ rfl hl.1 rfl (Nat.le_of_ble_eq_true rfl) ⟨Nat.le_refl _, Nat.le_refl _⟩ dX12_planWord_15 (fun H locs hw => ?_)
    refine lv_if_eq (tgt := 24) hx hb dX12_planWord_18 (by decide) (fun c_11 => ?_) (fun c_11 => ?_)
    · have hf := (if_pos c_11).symm.trans hf
      refine lv_aload_n hx hb dX12_planWord_24 rfl (lv_at hl 0 rfl) ?_
      refine va_ldcS hx hb hown (rS_34 G) dX12_planWord_25 ?_
      obtain ⟨r_3, hr_3, hf⟩ := bB_e hf
      refine kVi (rest := []) G hw (wX12_is hZ S 34 r_3 (by decide) hr_3) cw_X12_119 (m_this hZ) KX12 ⟨Nat.le_of_ble_eq_true rfl, Nat.le_of_ble_eq_true rfl⟩ rfl hl.1 rfl (Nat.le_of_ble_eq_true rfl) ⟨Nat.le_refl _, Nat.le_refl _⟩ dX12_planWord_27 (fun H locs hw => ?_)
      refine lv_if_eq (tgt := 36) hx hb dX12_planWord_30 (by decide) (fun c_10 => ?_) (fun c_10 => ?_)
      · have hf := (if_pos c_10).symm.trans hf
        refine lv_aload_n hx hb dX12_planWord_36 rfl (lv_at hl 0 rfl) ?_
        refine va_ldcS hx hb hown (rS_35 G) dX12_planWord_37 ?_
        obtain ⟨r_4, hr_4, hf⟩ := bB_e hf
        refine kVi (rest := []) G hw (wX12_is hZ S 35 r_4 (by decide) hr_4) cw_X12_119 (m_this hZ) KX12 ⟨Nat.le_of_ble_eq_true rfl, Nat.le_of_ble_eq_true rfl⟩ rfl hl.1 rfl (Nat.le_of_ble_eq_true rfl) ⟨Nat.le_refl _, Nat.le_refl _⟩ dX12_planWord_39 (fun H locs hw => ?_)
        refine lv_if_eq (tgt := 48) hx hb dX12_planWord_42 (by decide) (fun c_9 => ?_) (fun c_9 => ?_)
        · have hf := (if_pos c_9).symm.trans hf
          refine lv_aload_n hx hb dX12_planWord_48 rfl (lv_at hl 0 rfl) ?_
          refine va_ldcS hx hb hown (rS_21 G) dX12_planWord_49 ?_
          obtain ⟨r_5, hr_5, hf⟩ := bB_e hf
          refine kVi (rest := []) G hw (wX12_is hZ S 21 r_5 (by decide) hr_5) cw_X12_119 (m_this hZ) KX12 ⟨Nat.le_of_ble_eq_true rfl, Nat.le_of_ble_eq_true rfl⟩ rfl hl.1 rfl (Nat.le_of_ble_eq_true rfl) ⟨Nat.le_refl _, Nat.le_refl _⟩ dX12_planWord_51 (fun H locs hw => ?_)
          refine lv_if_eq (tgt := 60) hx hb dX12_planWord_54 (by decide) (fun c_8 => ?_) (fun c_8 => ?_)
          · have hf := (if_pos c_8).symm.trans hf
            refine lv_aload_n hx hb dX12_planWord_60 rfl (lv_at hl 0 rfl) ?_
            refine va_ldcS hx hb hown (rS_36 G) dX12_planWord_61 ?_
            obtain ⟨r_6, hr_6, hf⟩ := bB_e hf
            refine kVi (rest := []) G hw (wX12_is hZ S 36 r_6 (by decide) hr_6) cw_X12_119 (m_this hZ) KX12 ⟨Nat.le_of_ble_eq_true rfl, Nat.le_of_ble_eq_true rfl⟩ rfl hl.1 rfl (Nat.le_of_ble_eq_true rfl) ⟨Nat.le_refl _, Nat.le_refl _⟩ dX12_planWord_63 (fun H locs hw => ?_)
            refine lv_if_eq (tgt := 74) hx hb dX12_planWord_66 (by decide) (fun c_7 => ?_) (fun c_7 => ?_)
            · have hf := (if_pos c_7).symm.trans hf
              refine lv_iconst hx hb dX12_planWord_74 ki_1 ?_
              exact hret _ _ _ _ _ dX12_planWord_75 (Option.some.inj hf) hw
            · have hf := (if_neg c_7).symm.trans hf
              refine lv_bipush hx hb dX12_planWord_69 kb_12 ?_
              refine lv_goto (tgt := 75) hx hb dX12_planWord_71 (by decide) ?_
              exact hret _ _ _ _ _ dX12_planWord_75 (Option.some.inj hf) hw
          · have hf := (if_neg c_8).symm.trans hf
            refine lv_bipush hx hb dX12_planWord_57 kb_11 ?_
            exact hret _ _ _ _ _ dX12_planWord_59 (Option.some.inj hf) hw
        · have hf := (if_neg c_9).symm.trans hf
          refine lv_bipush hx hb dX12_planWord_45 kb_10 ?_
          exact hret _ _ _ _ _ dX12_planWord_47 (Option.some.inj hf) hw
      · have hf := (if_neg c_10).symm.trans hf
        refine lv_bipush hx hb dX12_planWord_33 kb_9 ?_
        exact hret _ _ _ _ _ dX12_planWord_35 (Option.some.inj hf) hw
    · have hf := (if_neg c_11).symm.trans hf
      refine lv_bipush hx hb dX12_planWord_21 kb_8 ?_
      exact hret _ _ _ _ _ dX12_planWord_23 (Option.some.inj hf) hw
  · have hf := (if_neg c_12).symm.trans hf
    refine lv_bipush hx hb dX12_planWord_9 kb_7 ?_
    exact hret _ _ _ _ _ dX12_planWord_11 (Option.some.inj hf) hw
noncomputable def F12_word (S : pS) : Option (Int32) :=
  if (S 0 12) = 2 then
    bB (F12_planWord S) fun r_14 =>
    some r_14
  else
    bB (F12_is S 37) fun r_1 =>
    if r_1 = 0 then
      bB (F12_is S 38) fun r_2 =>
      if r_2 = 0 then
        bB (F12_is S 39) fun r_3 =>
        if r_3 = 0 then
          bB (F12_is S 40) fun r_4 =>
          if r_4 = 0 then
            if (S 0 12) = 0 then
              bB (F12_flightWord S) fun r_8 =>
              some r_8
            else
              if (S 0 12) = 1 then
                bB (F12_armWord S) fun r_6 =>
                some r_6
              else
                bB (F12_trainWord S) fun r_5 =>
                some r_5
          else
            some (6 : Int32)
        else
          some (5 : Int32)
      else
        some (4 : Int32)
    else
      some (3 : Int32)
set_option maxRecDepth 100000 in
set_option maxHeartbeats 4000000 in
theorem wX12_word {l : Launch} {Z : pZ}  (hZ : CM Z) (S : pS)  (r : Int32)  (hf : F12_word S = some r) : CI l Z yX12_word cX12_word 1 .int 9 203 [.ref (za Z 0)] S r S := by
  unfold F12_word at hf
  refine eI (own := RX12) (by decide) rfl (Nat.le_of_ble_eq_true rfl) (fun p e s m args below meth c Q ls G hl hw hret => ?_)
  obtain ⟨hx, hb, hml, hown, hts⟩ := G.1
  have hl : lv_has ls 1 [(0, .ref (za Z 0))] := hl
  refine lv_aload_n hx hb dX12_word_0 rfl (lv_at hl 0 rfl) ?_
  refine gI G hw (m_this hZ) KX12 12 (by decide) rfl fl_X12_186 dX12_word_1 ?_
  refine lv_iconst hx hb dX12_word_4 ki_2 ?_
  refine lv_icmp_ne (tgt := 13) hx hb dX12_word_5 (by decide) (fun c_15 => ?_) (fun c_15 => ?_)
  · have hf := (if_neg c_15).symm.trans hf
    refine lv_aload_n hx hb dX12_word_13 rfl (lv_at hl 0 rfl) ?_
    refine va_ldcS hx hb hown (rS_37 G) dX12_word_14 ?_
    obtain ⟨r_1, hr_1, hf⟩ := bB_e hf
    refine kVi (rest := []) G hw (wX12_is hZ S 37 r_1 (by decide) hr_1) cw_X12_119 (m_this hZ) KX12 ⟨Nat.le_of_ble_eq_true rfl, Nat.le_of_ble_eq_true rfl⟩ rfl hl.1 rfl (Nat.le_of_ble_eq_true rfl) ⟨Nat.le_refl _, Nat.le_refl _⟩ dX12_word_16 (fun H locs hw => ?_)
    refine lv_if_eq (tgt := 24) hx hb dX12_word_19 (by decide) (fun c_13 => ?_) (fun c_13 => ?_)
    · have hf := (if_pos c_13).symm.trans hf
      refine lv_aload_n hx hb dX12_word_24 rfl (lv_at hl 0 rfl) ?_
      refine va_ldcS hx hb hown (rS_38 G) dX12_word_25 ?_
      obtain ⟨r_2, hr_2, hf⟩ := bB_e hf
      refine kVi (rest := []) G hw (wX12_is hZ S 38 r_2 (by decide) hr_2) cw_X12_119 (m_this hZ) KX12 ⟨Nat.le_of_ble_eq_true rfl, Nat.le_of_ble_eq_true rfl⟩ rfl hl.1 rfl (Nat.le_of_ble_eq_true rfl) ⟨Nat.le_refl _, Nat.le_refl _⟩ dX12_word_27 (fun H locs hw => ?_)
      refine lv_if_eq (tgt := 35) hx hb dX12_word_30 (by decide) (fun c_12 => ?_) (fun c_12 => ?_)
      · have hf := (if_pos c_12).symm.trans hf
        refine lv_aload_n hx hb dX12_word_35 rfl (lv_at hl 0 rfl) ?_
        refine va_ldcS hx hb hown (rS_39 G) dX12_word_36 ?_
        obtain ⟨r_3, hr_3, hf⟩ := bB_e hf
        refine kVi (rest := []) G hw (wX12_is hZ S 39 r_3 (by decide) hr_3) cw_X12_119 (m_this hZ) KX12 ⟨Nat.le_of_ble_eq_true rfl, Nat.le_of_ble_eq_true rfl⟩ rfl hl.1 rfl (Nat.le_of_ble_eq_true rfl) ⟨Nat.le_refl _, Nat.le_refl _⟩ dX12_word_38 (fun H locs hw => ?_)
        refine lv_if_eq (tgt := 46) hx hb dX12_word_41 (by decide) (fun c_11 => ?_) (fun c_11 => ?_)
        · have hf := (if_pos c_11).symm.trans hf
          refine lv_aload_n hx hb dX12_word_46 rfl (lv_at hl 0 rfl) ?_
          refine va_ldcS hx hb hown (rS_40 G) dX12_word_47 ?_
          obtain ⟨r_4, hr_4, hf⟩ := bB_e hf
          refine kVi (rest := []) G hw (wX12_is hZ S 40 r_4 (by decide) hr_4) cw_X12_119 (m_this hZ) KX12 ⟨Nat.le_of_ble_eq_true rfl, Nat.le_of_ble_eq_true rfl⟩ rfl hl.1 rfl (Nat.le_of_ble_eq_true rfl) ⟨Nat.le_refl _, Nat.le_refl _⟩ dX12_word_49 (fun H locs hw => ?_)
          refine lv_if_eq (tgt := 58) hx hb dX12_word_52 (by decide) (fun c_10 => ?_) (fun c_10 => ?_)
          · have hf := (if_pos c_10).symm.trans hf
            refine lv_aload_n hx hb dX12_word_58 rfl (lv_at hl 0 rfl) ?_
            refine gI G hw (m_this hZ) KX12 12 (by decide) rfl fl_X12_186 dX12_word_59 ?_
            refine lv_if_ne (tgt := 72) hx hb dX12_word_62 (by decide) (fun c_9 => ?_) (fun c_9 => ?_)
            · have hf := (if_neg c_9).symm.trans hf
              refine lv_aload_n hx hb dX12_word_72 rfl (lv_at hl 0 rfl) ?_
              refine gI G hw (m_this hZ) KX12 12 (by decide) rfl fl_X12_186 dX12_word_73 ?_
              refine lv_iconst hx hb dX12_word_76 ki_1 ?_
              refine lv_icmp_ne (tgt := 87) hx hb dX12_word_77 (by decide) (fun c_7 => ?_) (fun c_7 => ?_)
              · have hf := (if_neg c_7).symm.trans hf
                refine lv_aload_n hx hb dX12_word_87 rfl (lv_at hl 0 rfl) ?_
                obtain ⟨r_5, hr_5, hf⟩ := bB_e hf
                refine kVi (rest := []) G hw (wX12_trainWord hZ S r_5 hr_5) cw_X12_206 (m_this hZ) KX12 ⟨Nat.le_of_ble_eq_true rfl, Nat.le_of_ble_eq_true rfl⟩ rfl hl.1 rfl (Nat.le_of_ble_eq_true rfl) ⟨Nat.le_refl _, Nat.le_refl _⟩ dX12_word_88 (fun H locs hw => ?_)
                exact hret _ _ _ _ _ dX12_word_91 (Option.some.inj hf) hw
              · have hf := (if_pos c_7).symm.trans hf
                refine lv_aload_n hx hb dX12_word_80 rfl (lv_at hl 0 rfl) ?_
                obtain ⟨r_6, hr_6, hf⟩ := bB_e hf
                refine kVi (rest := []) G hw (wX12_armWord hZ S r_6 hr_6) cw_X12_203 (m_this hZ) KX12 ⟨Nat.le_of_ble_eq_true rfl, Nat.le_of_ble_eq_true rfl⟩ rfl hl.1 rfl (Nat.le_of_ble_eq_true rfl) ⟨Nat.le_refl _, Nat.le_refl _⟩ dX12_word_81 (fun H locs hw => ?_)
                refine lv_goto (tgt := 91) hx hb dX12_word_84 (by decide) ?_
                exact hret _ _ _ _ _ dX12_word_91 (Option.some.inj hf) hw
            · have hf := (if_pos c_9).symm.trans hf
              refine lv_aload_n hx hb dX12_word_65 rfl (lv_at hl 0 rfl) ?_
              obtain ⟨r_8, hr_8, hf⟩ := bB_e hf
              refine kVi (rest := []) G hw (wX12_flightWord hZ S r_8 hr_8) cw_X12_200 (m_this hZ) KX12 ⟨Nat.le_of_ble_eq_true rfl, Nat.le_of_ble_eq_true rfl⟩ rfl hl.1 rfl (Nat.le_of_ble_eq_true rfl) ⟨Nat.le_refl _, Nat.le_refl _⟩ dX12_word_66 (fun H locs hw => ?_)
              refine lv_goto (tgt := 91) hx hb dX12_word_69 (by decide) ?_
              exact hret _ _ _ _ _ dX12_word_91 (Option.some.inj hf) hw
          · have hf := (if_neg c_10).symm.trans hf
            refine lv_bipush hx hb dX12_word_55 kb_6 ?_
            exact hret _ _ _ _ _ dX12_word_57 (Option.some.inj hf) hw
        · have hf := (if_neg c_11).symm.trans hf
          refine lv_iconst hx hb dX12_word_44 ki_5 ?_
          exact hret _ _ _ _ _ dX12_word_45 (Option.some.inj hf) hw
      · have hf := (if_neg c_12).symm.trans hf
        refine lv_iconst hx hb dX12_word_33 ki_4 ?_
        exact hret _ _ _ _ _ dX12_word_34 (Option.some.inj hf) hw
    · have hf := (if_neg c_13).symm.trans hf
      refine lv_iconst hx hb dX12_word_22 ki_3 ?_
      exact hret _ _ _ _ _ dX12_word_23 (Option.some.inj hf) hw
  · have hf := (if_pos c_15).symm.trans hf
    refine lv_aload_n hx hb dX12_word_8 rfl (lv_at hl 0 rfl) ?_
    obtain ⟨r_14, hr_14, hf⟩ := bB_e hf
    refine kVi (rest := []) G hw (wX12_planWord hZ S r_14 hr_14) cw_X12_189 (m_this hZ) KX12 ⟨Nat.le_of_ble_eq_true rfl, Nat.le_of_ble_eq_true rfl⟩ rfl hl.1 rfl (Nat.le_of_ble_eq_true rfl) ⟨Nat.le_refl _, Nat.le_refl _⟩ dX12_word_9 (fun H locs hw => ?_)
    exact hret _ _ _ _ _ dX12_word_12 (Option.some.inj hf) hw
noncomputable def F12_next0 (S : pS) : Option (pS) :=
  bL (fun (S_1 : pS) =>
    bL (sU S_1 0 19 (S_1 0 17)) fun S_2 =>
    bB (F12_see S_2 (S_2 0 17)) fun r_3 =>
    if r_3 = (-1) then
      bL (sU S_2 0 18 0) fun S_43 =>
      some S_43
    else
      if (F12_isLetter r_3) = 0 then
        if (F12_isDigit r_3) = 0 then
          bL (sU S_2 0 17 ((S_2 0 17) + 1)) fun S_4 =>
          bL (fun (t_5 : Int32) =>
            bL (fun (t_6 : Int32) =>
              bL (sU S_4 0 18 t_6) fun S_7 =>
              some S_7) fun j303 =>
            if t_5 = 0 then
              j303 1
            else
              j303 (100 + r_3)) fun j289 =>
          bL (fun (_ : Unit) =>
            j289 1) fun j284 =>
          if r_3 = 59 then
            j284 ()
          else
            if r_3 = 43 then
              j284 ()
            else
              if r_3 = 45 then
                j284 ()
              else
                if r_3 = 42 then
                  j284 ()
                else
                  if r_3 = 47 then
                    j284 ()
                  else
                    if r_3 = 40 then
                      j284 ()
                    else
                      if r_3 = 41 then
                        j284 ()
                      else
                        if r_3 = 60 then
                          j284 ()
                        else
                          if r_3 = 61 then
                            j284 ()
                          else
                            if r_3 = 62 then
                              j284 ()
                            else
                              j289 0
        else
          bL (sU S_2 0 20 0) fun S_19 =>
          bL (fun (S_20 : pS) =>
            bL (fun (t_21 : Int32) =>
              bL (sU S_20 0 18 t_21) fun S_22 =>
              some S_22) fun j208 =>
            if 5 ≤ ((S_20 0 17) - (S_20 0 19)) then
              j208 1
            else
              j208 2) fun g189_126 =>
          bL (u1 fun (S_24 : pS) =>
            bB (F12_see S_24 (S_24 0 17)) fun r_26 =>
            if (F12_isDigit r_26) = 0 then
              some (.inr S_24)
            else
              bL (fun (S_27 : pS) =>
                bL (sU S_27 0 17 ((S_27 0 17) + 1)) fun S_28 =>
                some (.inl S_28)) fun j176 =>
              if ((S_24 0 19) + 4) ≤ (S_24 0 17) then
                j176 S_24
              else
                bB (F12_see S_24 (S_24 0 17)) fun r_29 =>
                bL (sU S_24 0 20 (((10 * (S_24 0 20)) + r_29) - 48)) fun S_30 =>
                j176 S_30) fun b126 =>
          bB (bP b126 S_19) (u1 g189_126)
      else
        bL (fun (S_34 : pS) =>
          bB (F12_word S_34) fun r_35 =>
          bL (sU S_34 0 18 r_35) fun S_36 =>
          some S_36) fun g103_76 =>
        bL (u1 fun (S_37 : pS) =>
          bB (F12_see S_37 (S_37 0 17)) fun r_39 =>
          if (F12_isLetter r_39) = 0 then
            some (.inr S_37)
          else
            bL (sU S_37 0 17 ((S_37 0 17) + 1)) fun S_40 =>
            some (.inl S_40)) fun b76 =>
        bB (bP b76 S_2) (u1 g103_76)) fun g39_0 =>
  bL (u1 fun (S_45 : pS) =>
    bB (F12_see S_45 (S_45 0 17)) fun r_47 =>
    bL (fun (_ : Unit) =>
      bL (sU S_45 0 17 ((S_45 0 17) + 1)) fun S_48 =>
      some (.inl S_48)) fun j26 =>
    if r_47 = 32 then
      j26 ()
    else
      bB (F12_see S_45 (S_45 0 17)) fun r_49 =>
      if r_49 = 10 then
        j26 ()
      else
        some (.inr S_45)) fun b0 =>
  bB (bP b0 S) (u1 g39_0)
set_option maxRecDepth 100000 in
set_option maxHeartbeats 4000000 in
theorem wX12_next0 {l : Launch} {Z : pZ}  (hZ : CM Z) (S : pS)  (S2 : pS)  (hf : F12_next0 S = some S2) : CV l Z yX12_next0 cX12_next0 3 10 223 [.ref (za Z 0)] S S2 := by
  unfold F12_next0 at hf
  refine eV (own := RX12) (by decide) rfl (Nat.le_of_ble_eq_true rfl) (fun p e s m args below meth c Q ls G hl hw hret => ?_)
  obtain ⟨hx, hb, hml, hown, hts⟩ := G.1
  have hl : lv_has ls 3 [(0, .ref (za Z 0))] := hl
  obtain ⟨g39_0, ej, hf⟩ := bL_e hf
  have R39_0 : ∀ (S_1 : pS) (H : Heap) (locs : List Loc) (ls : Array Slot), Wd Z s S_1 H locs → lv_has ls 3 [(0, .ref (za Z 0))] → g39_0 S_1 = some S2 → W p l e { frames := 10, cells := 0, slots := 0, locals := 223 } s m args below meth c H locs 0 0 Q (F0 m 39 ls []) := by
    intro S_1 H locs ls hw hl hf
    have hf := (congrFun ej S_1).symm.trans hf
    refine lv_aload_n hx hb dX12_next0_39 rfl (lv_at hl 0 rfl) ?_
    refine lv_aload_n hx hb dX12_next0_40 rfl (lv_at hl 0 rfl) ?_
    refine gI G hw (m_this hZ) KX12 17 (by decide) rfl fl_X12_101 dX12_next0_41 ?_
    obtain ⟨S_2, eS_2, hf⟩ := bL_e hf
    refine pI G hw (m_this hZ) KX12 19 (by decide) rfl rfl rfl eS_2 fl_X12_104 dX12_next0_44 (fun H locs hw => ?_)
    refine lv_aload_n hx hb dX12_next0_47 rfl (lv_at hl 0 rfl) ?_
    refine lv_aload_n hx hb dX12_next0_48 rfl (lv_at hl 0 rfl) ?_
    refine gI G hw (m_this hZ) KX12 17 (by decide) rfl fl_X12_101 dX12_next0_49 ?_
    obtain ⟨r_3, hr_3, hf⟩ := bB_e hf
    refine kVi (rest := []) G hw (wX12_see hZ S_2 (S_2 0 17) r_3 hr_3) cw_X12_209 (m_this hZ) KX12 ⟨Nat.le_of_ble_eq_true rfl, Nat.le_of_ble_eq_true rfl⟩ rfl hl.1 rfl (Nat.le_of_ble_eq_true rfl) ⟨Nat.le_refl _, Nat.le_refl _⟩ dX12_next0_52 (fun H locs hw => ?_)
    refine lv_istore_n (lv' := [(1, .int r_3), (0, .ref (za Z 0))]) hx hb dX12_next0_55 rfl hl (by decide) rfl (fun ls hl => ?_)
    refine lv_iload_n hx hb dX12_next0_56 rfl (lv_at hl 0 rfl) ?_
    refine lv_iconst hx hb dX12_next0_57 ki_m1 ?_
    refine lv_icmp_ne (tgt := 69) hx hb dX12_next0_58 (by decide) (fun c_44 => ?_) (fun c_44 => ?_)
    · have hf := (if_neg c_44).symm.trans hf
      refine lv_iload_n hx hb dX12_next0_69 rfl (lv_at hl 0 rfl) ?_
      refine kSi (rest := []) G hw (wX12_isLetter hZ S_2 r_3 (F12_isLetter r_3) rfl) cw_X12_215 ⟨Nat.le_of_ble_eq_true rfl, Nat.le_of_ble_eq_true rfl⟩ rfl hl.1 rfl (Nat.le_of_ble_eq_true rfl) ⟨Nat.le_refl _, Nat.le_refl _⟩ dX12_next0_70 (fun H locs hw => ?_)
      refine lv_if_eq (tgt := 114) hx hb dX12_next0_73 (by decide) (fun c_42 => ?_) (fun c_42 => ?_)
      · have hf := (if_pos c_42).symm.trans hf
        refine lv_iload_n hx hb dX12_next0_114 rfl (lv_at hl 0 rfl) ?_
        refine kSi (rest := []) G hw (wX12_isDigit hZ S_2 r_3 (F12_isDigit r_3) rfl) cw_X12_221 ⟨Nat.le_of_ble_eq_true rfl, Nat.le_of_ble_eq_true rfl⟩ rfl hl.1 rfl (Nat.le_of_ble_eq_true rfl) ⟨Nat.le_refl _, Nat.le_refl _⟩ dX12_next0_115 (fun H locs hw => ?_)
        refine lv_if_eq (tgt := 214) hx hb dX12_next0_118 (by decide) (fun c_33 => ?_) (fun c_33 => ?_)
        · have hf := (if_pos c_33).symm.trans hf
          refine lv_aload_n hx hb dX12_next0_214 rfl (lv_at hl 1 rfl) ?_
          refine lv_dup hx hb dX12_next0_215 rfl ?_
          refine gI G hw (m_this hZ) KX12 17 (by decide) rfl fl_X12_101 dX12_next0_216 ?_
          refine lv_iconst hx hb dX12_next0_219 ki_1 ?_
          refine lv_iadd hx hb dX12_next0_220 ?_
          obtain ⟨S_4, eS_4, hf⟩ := bL_e hf
          refine pI G hw (m_this hZ) KX12 17 (by decide) rfl rfl rfl eS_4 fl_X12_101 dX12_next0_221 (fun H locs hw => ?_)
          refine lv_iload_n hx hb dX12_next0_224 rfl (lv_at hl 0 rfl) ?_
          refine lv_bipush hx hb dX12_next0_225 kb_59 ?_
          obtain ⟨j289, ej, hf⟩ := bL_e hf
          have R289 : ∀ (t_5 : Int32) (H : Heap) (locs : List Loc) (ls : Array Slot), Wd Z s S_4 H locs → lv_has ls 3 [(0, .ref (za Z 0)), (1, .int r_3)] → j289 t_5 = some S2 → W p l e { frames := 10, cells := 0, slots := 0, locals := 223 } s m args below meth c H locs 0 0 Q (F0 m 289 ls [.int t_5]) := by
            intro t_5 H locs ls hw hl hf
            have hf := (congrFun ej t_5).symm.trans hf
            refine lv_istore_n (lv' := [(2, .int t_5), (0, .ref (za Z 0)), (1, .int r_3)]) hx hb dX12_next0_289 rfl hl (by decide) rfl (fun ls hl => ?_)
            refine lv_aload_n hx hb dX12_next0_290 rfl (lv_at hl 1 rfl) ?_
            refine lv_iload_n hx hb dX12_next0_291 rfl (lv_at hl 0 rfl) ?_
            obtain ⟨j303, ej, hf⟩ := bL_e hf
            have R303 : ∀ (t_6 : Int32) (H : Heap) (locs : List Loc) (ls : Array Slot), Wd Z s S_4 H locs → lv_has ls 3 [] → j303 t_6 = some S2 → W p l e { frames := 10, cells := 0, slots := 0, locals := 223 } s m args below meth c H locs 0 0 Q (F0 m 303 ls [.int t_6, .ref (za Z 0)]) := by
              intro t_6 H locs ls hw hl hf
              have hf := (congrFun ej t_6).symm.trans hf
              obtain ⟨S_7, eS_7, hf⟩ := bL_e hf
              refine pI G hw (m_this hZ) KX12 18 (by decide) rfl rfl rfl eS_7 fl_X12_212 dX12_next0_303 (fun H locs hw => ?_)
              exact hret _ _ _ _ dX12_next0_306 (by rw [← (Option.some.inj hf)]; exact hw)
            clear ej
            refine lv_if_eq (tgt := 302) hx hb dX12_next0_292 (by decide) (fun c_8 => ?_) (fun c_8 => ?_)
            · have hf := (if_pos c_8).symm.trans hf
              refine lv_iconst hx hb dX12_next0_302 ki_1 ?_
              exact R303 _ _ _ _ hw (lv_sub hl [] rfl) hf
            · have hf := (if_neg c_8).symm.trans hf
              refine lv_bipush hx hb dX12_next0_295 kb_100 ?_
              refine lv_iload_n hx hb dX12_next0_297 rfl (lv_at hl 2 rfl) ?_
              refine lv_iadd hx hb dX12_next0_298 ?_
              refine lv_goto (tgt := 303) hx hb dX12_next0_299 (by decide) ?_
              exact R303 _ _ _ _ hw (lv_sub hl [] rfl) hf
          clear ej
          obtain ⟨j284, ej, hf⟩ := bL_e hf
          have R284 : ∀ (H : Heap) (locs : List Loc) (ls : Array Slot), Wd Z s S_4 H locs → lv_has ls 3 [(0, .ref (za Z 0)), (1, .int r_3)] → j284 () = some S2 → W p l e { frames := 10, cells := 0, slots := 0, locals := 223 } s m args below meth c H locs 0 0 Q (F0 m 284 ls []) := by
            intro  H locs ls hw hl hf
            have hf := (congrFun ej ()).symm.trans hf
            refine lv_iconst hx hb dX12_next0_284 ki_1 ?_
            refine lv_goto (tgt := 289) hx hb dX12_next0_285 (by decide) ?_
            exact R289 _ _ _ _ hw (lv_sub hl [0, 1] rfl) hf
          clear ej
          refine lv_icmp_eq (tgt := 284) hx hb dX12_next0_227 (by decide) (fun c_18 => ?_) (fun c_18 => ?_)
          · have hf := (if_pos c_18).symm.trans hf
            exact R284 _ _ _ hw (lv_sub hl [1, 0] rfl) hf
          · have hf := (if_neg c_18).symm.trans hf
            refine lv_iload_n hx hb dX12_next0_230 rfl (lv_at hl 0 rfl) ?_
            refine lv_bipush hx hb dX12_next0_231 kb_43 ?_
            refine lv_icmp_eq (tgt := 284) hx hb dX12_next0_233 (by decide) (fun c_17 => ?_) (fun c_17 => ?_)
            · have hf := (if_pos c_17).symm.trans hf
              exact R284 _ _ _ hw (lv_sub hl [1, 0] rfl) hf
            · have hf := (if_neg c_17).symm.trans hf
              refine lv_iload_n hx hb dX12_next0_236 rfl (lv_at hl 0 rfl) ?_
              refine lv_bipush hx hb dX12_next0_237 kb_45 ?_
              refine lv_icmp_eq (tgt := 284) hx hb dX12_next0_239 (by decide) (fun c_16 => ?_) (fun c_16 => ?_)
              · have hf := (if_pos c_16).symm.trans hf
                exact R284 _ _ _ hw (lv_sub hl [1, 0] rfl) hf
              · have hf := (if_neg c_16).symm.trans hf
                refine lv_iload_n hx hb dX12_next0_242 rfl (lv_at hl 0 rfl) ?_
                refine lv_bipush hx hb dX12_next0_243 kb_42 ?_
                refine lv_icmp_eq (tgt := 284) hx hb dX12_next0_245 (by decide) (fun c_15 => ?_) (fun c_15 => ?_)
                · have hf := (if_pos c_15).symm.trans hf
                  exact R284 _ _ _ hw (lv_sub hl [1, 0] rfl) hf
                · have hf := (if_neg c_15).symm.trans hf
                  refine lv_iload_n hx hb dX12_next0_248 rfl (lv_at hl 0 rfl) ?_
                  refine lv_bipush hx hb dX12_next0_249 kb_47 ?_
                  refine lv_icmp_eq (tgt := 284) hx hb dX12_next0_251 (by decide) (fun c_14 => ?_) (fun c_14 => ?_)
                  · have hf := (if_pos c_14).symm.trans hf
                    exact R284 _ _ _ hw (lv_sub hl [1, 0] rfl) hf
                  · have hf := (if_neg c_14).symm.trans hf
                    refine lv_iload_n hx hb dX12_next0_254 rfl (lv_at hl 0 rfl) ?_
                    refine lv_bipush hx hb dX12_next0_255 kb_40 ?_
                    refine lv_icmp_eq (tgt := 284) hx hb dX12_next0_257 (by decide) (fun c_13 => ?_) (fun c_13 => ?_)
                    · have hf := (if_pos c_13).symm.trans hf
                      exact R284 _ _ _ hw (lv_sub hl [1, 0] rfl) hf
                    · have hf := (if_neg c_13).symm.trans hf
                      refine lv_iload_n hx hb dX12_next0_260 rfl (lv_at hl 0 rfl) ?_
                      refine lv_bipush hx hb dX12_next0_261 kb_41 ?_
                      refine lv_icmp_eq (tgt := 284) hx hb dX12_next0_263 (by decide) (fun c_12 => ?_) (fun c_12 => ?_)
                      · have hf := (if_pos c_12).symm.trans hf
                        exact R284 _ _ _ hw (lv_sub hl [1, 0] rfl) hf
                      · have hf := (if_neg c_12).symm.trans hf
                        refine lv_iload_n hx hb dX12_next0_266 rfl (lv_at hl 0 rfl) ?_
                        refine lv_bipush hx hb dX12_next0_267 kb_60 ?_
                        refine lv_icmp_eq (tgt := 284) hx hb dX12_next0_269 (by decide) (fun c_11 => ?_) (fun c_11 => ?_)
                        · have hf := (if_pos c_11).symm.trans hf
                          exact R284 _ _ _ hw (lv_sub hl [1, 0] rfl) hf
                        · have hf := (if_neg c_11).symm.trans hf
                          refine lv_iload_n hx hb dX12_next0_272 rfl (lv_at hl 0 rfl) ?_
                          refine lv_bipush hx hb dX12_next0_273 kb_61 ?_
                          refine lv_icmp_eq (tgt := 284) hx hb dX12_next0_275 (by decide) (fun c_10 => ?_) (fun c_10 => ?_)
                          · have hf := (if_pos c_10).symm.trans hf
                            exact R284 _ _ _ hw (lv_sub hl [1, 0] rfl) hf
                          · have hf := (if_neg c_10).symm.trans hf
                            refine lv_iload_n hx hb dX12_next0_278 rfl (lv_at hl 0 rfl) ?_
                            refine lv_bipush hx hb dX12_next0_279 kb_62 ?_
                            refine lv_icmp_ne (tgt := 288) hx hb dX12_next0_281 (by decide) (fun c_9 => ?_) (fun c_9 => ?_)
                            · have hf := (if_neg c_9).symm.trans hf
                              refine lv_iconst hx hb dX12_next0_288 ki_0 ?_
                              exact R289 _ _ _ _ hw (lv_sub hl [1, 0] rfl) hf
                            · have hf := (if_pos c_9).symm.trans hf
                              exact R284 _ _ _ hw (lv_sub hl [1, 0] rfl) hf
        · have hf := (if_neg c_33).symm.trans hf
          refine lv_aload_n hx hb dX12_next0_121 rfl (lv_at hl 1 rfl) ?_
          refine lv_iconst hx hb dX12_next0_122 ki_0 ?_
          obtain ⟨S_19, eS_19, hf⟩ := bL_e hf
          refine pI G hw (m_this hZ) KX12 20 (by decide) rfl rfl rfl eS_19 fl_X12_224 dX12_next0_123 (fun H locs hw => ?_)
          obtain ⟨g189_126, ej, hf⟩ := bL_e hf
          have R189_126 : ∀ (S_20 : pS) (H : Heap) (locs : List Loc) (ls : Array Slot), Wd Z s S_20 H locs → lv_has ls 3 [(0, .ref (za Z 0))] → g189_126 S_20 = some S2 → W p l e { frames := 10, cells := 0, slots := 0, locals := 223 } s m args below meth c H locs 0 0 Q (F0 m 189 ls []) := by
            intro S_20 H locs ls hw hl hf
            have hf := (congrFun ej S_20).symm.trans hf
            refine lv_aload_n hx hb dX12_next0_189 rfl (lv_at hl 0 rfl) ?_
            refine lv_aload_n hx hb dX12_next0_190 rfl (lv_at hl 0 rfl) ?_
            refine gI G hw (m_this hZ) KX12 17 (by decide) rfl fl_X12_101 dX12_next0_191 ?_
            refine lv_aload_n hx hb dX12_next0_194 rfl (lv_at hl 0 rfl) ?_
            refine gI G hw (m_this hZ) KX12 19 (by decide) rfl fl_X12_104 dX12_next0_195 ?_
            refine lv_isub hx hb dX12_next0_198 ?_
            refine lv_iconst hx hb dX12_next0_199 ki_5 ?_
            obtain ⟨j208, ej, hf⟩ := bL_e hf
            have R208 : ∀ (t_21 : Int32) (H : Heap) (locs : List Loc) (ls : Array Slot), Wd Z s S_20 H locs → lv_has ls 3 [] → j208 t_21 = some S2 → W p l e { frames := 10, cells := 0, slots := 0, locals := 223 } s m args below meth c H locs 0 0 Q (F0 m 208 ls [.int t_21, .ref (za Z 0)]) := by
              intro t_21 H locs ls hw hl hf
              have hf := (congrFun ej t_21).symm.trans hf
              obtain ⟨S_22, eS_22, hf⟩ := bL_e hf
              refine pI G hw (m_this hZ) KX12 18 (by decide) rfl rfl rfl eS_22 fl_X12_212 dX12_next0_208 (fun H locs hw => ?_)
              refine lv_goto (tgt := 306) hx hb dX12_next0_211 (by decide) ?_
              exact hret _ _ _ _ dX12_next0_306 (by rw [← (Option.some.inj hf)]; exact hw)
            clear ej
            refine lv_icmp_ge (tgt := 207) hx hb dX12_next0_200 (by decide) (fun c_23 => ?_) (fun c_23 => ?_)
            · have hf := (if_pos c_23).symm.trans hf
              refine lv_iconst hx hb dX12_next0_207 ki_1 ?_
              exact R208 _ _ _ _ hw (lv_sub hl [] rfl) hf
            · have hf := (if_neg c_23).symm.trans hf
              refine lv_iconst hx hb dX12_next0_203 ki_2 ?_
              refine lv_goto (tgt := 208) hx hb dX12_next0_204 (by decide) ?_
              exact R208 _ _ _ _ hw (lv_sub hl [] rfl) hf
          clear ej
          obtain ⟨b126, eb, hf⟩ := bL_e hf
          have RL126 : ∀ (n : Nat) z, (u1 g189_126) z = some S2 → ∀ (S_24 : pS) (H : Heap) (locs : List Loc) (ls : Array Slot), Wd Z s S_24 H locs → lv_has ls 3 [(0, .ref (za Z 0))] → bPn b126 n S_24 = some z → W p l e { frames := 10, cells := 0, slots := 0, locals := 223 } s m args below meth c H locs 0 0 Q (F0 m 126 ls []) := by
            intro n
            induction n with
            | zero =>
              intro z hg S_24 H locs ls hw hl hz
              exact bPn_0 hz
            | succ n ih =>
              intro z hg S_24 H locs ls hw hl hz
              obtain ⟨q_25, hf, hz⟩ := bPn_e hz
              have hf := u1_e ((congrFun eb _).symm.trans hf)
              refine lv_aload_n hx hb dX12_next0_126 rfl (lv_at hl 0 rfl) ?_
              refine lv_aload_n hx hb dX12_next0_127 rfl (lv_at hl 0 rfl) ?_
              refine gI G hw (m_this hZ) KX12 17 (by decide) rfl fl_X12_101 dX12_next0_128 ?_
              obtain ⟨r_26, hr_26, hf⟩ := bB_e hf
              refine kVi (rest := []) G hw (wX12_see hZ S_24 (S_24 0 17) r_26 hr_26) cw_X12_209 (m_this hZ) KX12 ⟨Nat.le_of_ble_eq_true rfl, Nat.le_of_ble_eq_true rfl⟩ rfl hl.1 rfl (Nat.le_of_ble_eq_true rfl) ⟨Nat.le_refl _, Nat.le_refl _⟩ dX12_next0_131 (fun H locs hw => ?_)
              refine kSi (rest := []) G hw (wX12_isDigit hZ S_24 r_26 (F12_isDigit r_26) rfl) cw_X12_221 ⟨Nat.le_of_ble_eq_true rfl, Nat.le_of_ble_eq_true rfl⟩ rfl hl.1 rfl (Nat.le_of_ble_eq_true rfl) ⟨Nat.le_refl _, Nat.le_refl _⟩ dX12_next0_134 (fun H locs hw => ?_)
              refine lv_if_eq (tgt := 189) hx hb dX12_next0_137 (by decide) (fun c_32 => ?_) (fun c_32 => ?_)
              · have hf := (if_pos c_32).symm.trans hf
                obtain rfl := Option.some.inj hf
                obtain rfl := Option.some.inj (hz : some _ = some _)
                exact R189_126 _ _ _ _ hw (lv_sub hl [0] rfl) hg
              · have hf := (if_neg c_32).symm.trans hf
                refine lv_aload_n hx hb dX12_next0_140 rfl (lv_at hl 0 rfl) ?_
                refine gI G hw (m_this hZ) KX12 17 (by decide) rfl fl_X12_101 dX12_next0_141 ?_
                refine lv_aload_n hx hb dX12_next0_144 rfl (lv_at hl 0 rfl) ?_
                refine gI G hw (m_this hZ) KX12 19 (by decide) rfl fl_X12_104 dX12_next0_145 ?_
                refine lv_iconst hx hb dX12_next0_148 ki_4 ?_
                refine lv_iadd hx hb dX12_next0_149 ?_
                obtain ⟨j176, ej, hf⟩ := bL_e hf
                have R176 : ∀ (S_27 : pS) (H : Heap) (locs : List Loc) (ls : Array Slot), Wd Z s S_27 H locs → lv_has ls 3 [(0, .ref (za Z 0))] → j176 S_27 = some q_25 → W p l e { frames := 10, cells := 0, slots := 0, locals := 223 } s m args below meth c H locs 0 0 Q (F0 m 176 ls []) := by
                  intro S_27 H locs ls hw hl hf
                  have hf := (congrFun ej S_27).symm.trans hf
                  refine lv_aload_n hx hb dX12_next0_176 rfl (lv_at hl 0 rfl) ?_
                  refine lv_dup hx hb dX12_next0_177 rfl ?_
                  refine gI G hw (m_this hZ) KX12 17 (by decide) rfl fl_X12_101 dX12_next0_178 ?_
                  refine lv_iconst hx hb dX12_next0_181 ki_1 ?_
                  refine lv_iadd hx hb dX12_next0_182 ?_
                  obtain ⟨S_28, eS_28, hf⟩ := bL_e hf
                  refine pI G hw (m_this hZ) KX12 17 (by decide) rfl rfl rfl eS_28 fl_X12_101 dX12_next0_183 (fun H locs hw => ?_)
                  refine lv_goto (tgt := 126) hx hb dX12_next0_186 (by decide) ?_
                  obtain rfl := Option.some.inj hf
                  exact ih _ hg _ _ _ _ hw (lv_sub hl [0] rfl) hz
                clear ej
                refine lv_icmp_ge (tgt := 176) hx hb dX12_next0_150 (by decide) (fun c_31 => ?_) (fun c_31 => ?_)
                · have hf := (if_pos c_31).symm.trans hf
                  exact R176 _ _ _ _ hw (lv_sub hl [0] rfl) hf
                · have hf := (if_neg c_31).symm.trans hf
                  refine lv_aload_n hx hb dX12_next0_153 rfl (lv_at hl 0 rfl) ?_
                  refine lv_bipush hx hb dX12_next0_154 kb_10 ?_
                  refine lv_aload_n hx hb dX12_next0_156 rfl (lv_at hl 0 rfl) ?_
                  refine gI G hw (m_this hZ) KX12 20 (by decide) rfl fl_X12_224 dX12_next0_157 ?_
                  refine lv_imul hx hb dX12_next0_160 ?_
                  refine lv_aload_n hx hb dX12_next0_161 rfl (lv_at hl 0 rfl) ?_
                  refine lv_aload_n hx hb dX12_next0_162 rfl (lv_at hl 0 rfl) ?_
                  refine gI G hw (m_this hZ) KX12 17 (by decide) rfl fl_X12_101 dX12_next0_163 ?_
                  obtain ⟨r_29, hr_29, hf⟩ := bB_e hf
                  refine kVi (rest := [.int (10 * (S_24 0 20)), .ref (za Z 0)]) G hw (wX12_see hZ S_24 (S_24 0 17) r_29 hr_29) cw_X12_209 (m_this hZ) KX12 ⟨Nat.le_of_ble_eq_true rfl, Nat.le_of_ble_eq_true rfl⟩ rfl hl.1 rfl (Nat.le_of_ble_eq_true rfl) ⟨Nat.le_refl _, Nat.le_refl _⟩ dX12_next0_166 (fun H locs hw => ?_)
                  refine lv_iadd hx hb dX12_next0_169 ?_
                  refine lv_bipush hx hb dX12_next0_170 kb_48 ?_
                  refine lv_isub hx hb dX12_next0_172 ?_
                  obtain ⟨S_30, eS_30, hf⟩ := bL_e hf
                  refine pI G hw (m_this hZ) KX12 20 (by decide) rfl rfl rfl eS_30 fl_X12_224 dX12_next0_173 (fun H locs hw => ?_)
                  exact R176 _ _ _ _ hw (lv_sub hl [0] rfl) hf
          clear eb
          obtain ⟨z, hz, hf⟩ := bB_e hf
          obtain ⟨n, hz⟩ := bP_e hz
          exact RL126 n z hf _ _ _ _ hw (lv_sub hl [1] rfl) hz
      · have hf := (if_neg c_42).symm.trans hf
        obtain ⟨g103_76, ej, hf⟩ := bL_e hf
        have R103_76 : ∀ (S_34 : pS) (H : Heap) (locs : List Loc) (ls : Array Slot), Wd Z s S_34 H locs → lv_has ls 3 [(0, .ref (za Z 0))] → g103_76 S_34 = some S2 → W p l e { frames := 10, cells := 0, slots := 0, locals := 223 } s m args below meth c H locs 0 0 Q (F0 m 103 ls []) := by
          intro S_34 H locs ls hw hl hf
          have hf := (congrFun ej S_34).symm.trans hf
          refine lv_aload_n hx hb dX12_next0_103 rfl (lv_at hl 0 rfl) ?_
          refine lv_aload_n hx hb dX12_next0_104 rfl (lv_at hl 0 rfl) ?_
          obtain ⟨r_35, hr_35, hf⟩ := bB_e hf
          refine kVi (rest := [.ref (za Z 0)]) G hw (wX12_word hZ S_34 r_35 hr_35) cw_X12_218 (m_this hZ) KX12 ⟨Nat.le_of_ble_eq_true rfl, Nat.le_of_ble_eq_true rfl⟩ rfl hl.1 rfl (Nat.le_of_ble_eq_true rfl) ⟨Nat.le_refl _, Nat.le_refl _⟩ dX12_next0_105 (fun H locs hw => ?_)
          obtain ⟨S_36, eS_36, hf⟩ := bL_e hf
          refine pI G hw (m_this hZ) KX12 18 (by decide) rfl rfl rfl eS_36 fl_X12_212 dX12_next0_108 (fun H locs hw => ?_)
          refine lv_goto (tgt := 306) hx hb dX12_next0_111 (by decide) ?_
          exact hret _ _ _ _ dX12_next0_306 (by rw [← (Option.some.inj hf)]; exact hw)
        clear ej
        obtain ⟨b76, eb, hf⟩ := bL_e hf
        have RL76 : ∀ (n : Nat) z, (u1 g103_76) z = some S2 → ∀ (S_37 : pS) (H : Heap) (locs : List Loc) (ls : Array Slot), Wd Z s S_37 H locs → lv_has ls 3 [(0, .ref (za Z 0))] → bPn b76 n S_37 = some z → W p l e { frames := 10, cells := 0, slots := 0, locals := 223 } s m args below meth c H locs 0 0 Q (F0 m 76 ls []) := by
          intro n
          induction n with
          | zero =>
            intro z hg S_37 H locs ls hw hl hz
            exact bPn_0 hz
          | succ n ih =>
            intro z hg S_37 H locs ls hw hl hz
            obtain ⟨q_38, hf, hz⟩ := bPn_e hz
            have hf := u1_e ((congrFun eb _).symm.trans hf)
            refine lv_aload_n hx hb dX12_next0_76 rfl (lv_at hl 0 rfl) ?_
            refine lv_aload_n hx hb dX12_next0_77 rfl (lv_at hl 0 rfl) ?_
            refine gI G hw (m_this hZ) KX12 17 (by decide) rfl fl_X12_101 dX12_next0_78 ?_
            obtain ⟨r_39, hr_39, hf⟩ := bB_e hf
            refine kVi (rest := []) G hw (wX12_see hZ S_37 (S_37 0 17) r_39 hr_39) cw_X12_209 (m_this hZ) KX12 ⟨Nat.le_of_ble_eq_true rfl, Nat.le_of_ble_eq_true rfl⟩ rfl hl.1 rfl (Nat.le_of_ble_eq_true rfl) ⟨Nat.le_refl _, Nat.le_refl _⟩ dX12_next0_81 (fun H locs hw => ?_)
            refine kSi (rest := []) G hw (wX12_isLetter hZ S_37 r_39 (F12_isLetter r_39) rfl) cw_X12_215 ⟨Nat.le_of_ble_eq_true rfl, Nat.le_of_ble_eq_true rfl⟩ rfl hl.1 rfl (Nat.le_of_ble_eq_true rfl) ⟨Nat.le_refl _, Nat.le_refl _⟩ dX12_next0_84 (fun H locs hw => ?_)
            refine lv_if_eq (tgt := 103) hx hb dX12_next0_87 (by decide) (fun c_41 => ?_) (fun c_41 => ?_)
            · have hf := (if_pos c_41).symm.trans hf
              obtain rfl := Option.some.inj hf
              obtain rfl := Option.some.inj (hz : some _ = some _)
              exact R103_76 _ _ _ _ hw (lv_sub hl [0] rfl) hg
            · have hf := (if_neg c_41).symm.trans hf
              refine lv_aload_n hx hb dX12_next0_90 rfl (lv_at hl 0 rfl) ?_
              refine lv_dup hx hb dX12_next0_91 rfl ?_
              refine gI G hw (m_this hZ) KX12 17 (by decide) rfl fl_X12_101 dX12_next0_92 ?_
              refine lv_iconst hx hb dX12_next0_95 ki_1 ?_
              refine lv_iadd hx hb dX12_next0_96 ?_
              obtain ⟨S_40, eS_40, hf⟩ := bL_e hf
              refine pI G hw (m_this hZ) KX12 17 (by decide) rfl rfl rfl eS_40 fl_X12_101 dX12_next0_97 (fun H locs hw => ?_)
              refine lv_goto (tgt := 76) hx hb dX12_next0_100 (by decide) ?_
              obtain rfl := Option.some.inj hf
              exact ih _ hg _ _ _ _ hw (lv_sub hl [0] rfl) hz
        clear eb
        obtain ⟨z, hz, hf⟩ := bB_e hf
        obtain ⟨n, hz⟩ := bP_e hz
        exact RL76 n z hf _ _ _ _ hw (lv_sub hl [1] rfl) hz
    · have hf := (if_pos c_44).symm.trans hf
      refine lv_aload_n hx hb dX12_next0_61 rfl (lv_at hl 1 rfl) ?_
      refine lv_iconst hx hb dX12_next0_62 ki_0 ?_
      obtain ⟨S_43, eS_43, hf⟩ := bL_e hf
      refine pI G hw (m_this hZ) KX12 18 (by decide) rfl rfl rfl eS_43 fl_X12_212 dX12_next0_63 (fun H locs hw => ?_)
      refine lv_goto (tgt := 306) hx hb dX12_next0_66 (by decide) ?_
      exact hret _ _ _ _ dX12_next0_306 (by rw [← (Option.some.inj hf)]; exact hw)
  clear ej
  obtain ⟨b0, eb, hf⟩ := bL_e hf
  have RL0 : ∀ (n : Nat) z, (u1 g39_0) z = some S2 → ∀ (S_45 : pS) (H : Heap) (locs : List Loc) (ls : Array Slot), Wd Z s S_45 H locs → lv_has ls 3 [(0, .ref (za Z 0))] → bPn b0 n S_45 = some z → W p l e { frames := 10, cells := 0, slots := 0, locals := 223 } s m args below meth c H locs 0 0 Q (F0 m 0 ls []) := by
    intro n
    induction n with
    | zero =>
      intro z hg S_45 H locs ls hw hl hz
      exact bPn_0 hz
    | succ n ih =>
      intro z hg S_45 H locs ls hw hl hz
      obtain ⟨q_46, hf, hz⟩ := bPn_e hz
      have hf := u1_e ((congrFun eb _).symm.trans hf)
      refine lv_aload_n hx hb dX12_next0_0 rfl (lv_at hl 0 rfl) ?_
      refine lv_aload_n hx hb dX12_next0_1 rfl (lv_at hl 0 rfl) ?_
      refine gI G hw (m_this hZ) KX12 17 (by decide) rfl fl_X12_101 dX12_next0_2 ?_
      obtain ⟨r_47, hr_47, hf⟩ := bB_e hf
      refine kVi (rest := []) G hw (wX12_see hZ S_45 (S_45 0 17) r_47 hr_47) cw_X12_209 (m_this hZ) KX12 ⟨Nat.le_of_ble_eq_true rfl, Nat.le_of_ble_eq_true rfl⟩ rfl hl.1 rfl (Nat.le_of_ble_eq_true rfl) ⟨Nat.le_refl _, Nat.le_refl _⟩ dX12_next0_5 (fun H locs hw => ?_)
      refine lv_bipush hx hb dX12_next0_8 kb_32 ?_
      obtain ⟨j26, ej, hf⟩ := bL_e hf
      have R26 : ∀ (H : Heap) (locs : List Loc) (ls : Array Slot), Wd Z s S_45 H locs → lv_has ls 3 [(0, .ref (za Z 0))] → j26 () = some q_46 → W p l e { frames := 10, cells := 0, slots := 0, locals := 223 } s m args below meth c H locs 0 0 Q (F0 m 26 ls []) := by
        intro  H locs ls hw hl hf
        have hf := (congrFun ej ()).symm.trans hf
        refine lv_aload_n hx hb dX12_next0_26 rfl (lv_at hl 0 rfl) ?_
        refine lv_dup hx hb dX12_next0_27 rfl ?_
        refine gI G hw (m_this hZ) KX12 17 (by decide) rfl fl_X12_101 dX12_next0_28 ?_
        refine lv_iconst hx hb dX12_next0_31 ki_1 ?_
        refine lv_iadd hx hb dX12_next0_32 ?_
        obtain ⟨S_48, eS_48, hf⟩ := bL_e hf
        refine pI G hw (m_this hZ) KX12 17 (by decide) rfl rfl rfl eS_48 fl_X12_101 dX12_next0_33 (fun H locs hw => ?_)
        refine lv_goto (tgt := 0) hx hb dX12_next0_36 (by decide) ?_
        obtain rfl := Option.some.inj hf
        exact ih _ hg _ _ _ _ hw (lv_sub hl [0] rfl) hz
      clear ej
      refine lv_icmp_eq (tgt := 26) hx hb dX12_next0_10 (by decide) (fun c_51 => ?_) (fun c_51 => ?_)
      · have hf := (if_pos c_51).symm.trans hf
        exact R26 _ _ _ hw (lv_sub hl [0] rfl) hf
      · have hf := (if_neg c_51).symm.trans hf
        refine lv_aload_n hx hb dX12_next0_13 rfl (lv_at hl 0 rfl) ?_
        refine lv_aload_n hx hb dX12_next0_14 rfl (lv_at hl 0 rfl) ?_
        refine gI G hw (m_this hZ) KX12 17 (by decide) rfl fl_X12_101 dX12_next0_15 ?_
        obtain ⟨r_49, hr_49, hf⟩ := bB_e hf
        refine kVi (rest := []) G hw (wX12_see hZ S_45 (S_45 0 17) r_49 hr_49) cw_X12_209 (m_this hZ) KX12 ⟨Nat.le_of_ble_eq_true rfl, Nat.le_of_ble_eq_true rfl⟩ rfl hl.1 rfl (Nat.le_of_ble_eq_true rfl) ⟨Nat.le_refl _, Nat.le_refl _⟩ dX12_next0_18 (fun H locs hw => ?_)
        refine lv_bipush hx hb dX12_next0_21 kb_10 ?_
        refine lv_icmp_ne (tgt := 39) hx hb dX12_next0_23 (by decide) (fun c_50 => ?_) (fun c_50 => ?_)
        · have hf := (if_neg c_50).symm.trans hf
          obtain rfl := Option.some.inj hf
          obtain rfl := Option.some.inj (hz : some _ = some _)
          exact R39_0 _ _ _ _ hw (lv_sub hl [0] rfl) hg
        · have hf := (if_pos c_50).symm.trans hf
          exact R26 _ _ _ hw (lv_sub hl [0] rfl) hf
  clear eb
  obtain ⟨z, hz, hf⟩ := bB_e hf
  obtain ⟨n, hz⟩ := bP_e hz
  exact RL0 n z hf _ _ _ _ hw (lv_sub hl [0] rfl) hz
noncomputable def F12_bad (S : pS) (a1 : Int32) : Int32 × pS :=
  bL (sU S 0 21 a1) fun S_1 =>
  bL (sU S_1 0 22 (S_1 0 19)) fun S_2 =>
  ((0 : Int32), S_2)
set_option maxRecDepth 100000 in
set_option maxHeartbeats 4000000 in
theorem wX12_bad {l : Launch} {Z : pZ}  (hZ : CM Z) (S : pS) (a1 : Int32) (r : Int32) (S2 : pS)  (hf : F12_bad S a1 = (r, S2)) : CI l Z yX12_bad cX12_bad 2 .boolean 3 60 [.ref (za Z 0), .int a1] S r S2 := by
  unfold F12_bad at hf
  refine eZ (own := RX12) (by decide) rfl (Nat.le_of_ble_eq_true rfl) (fun p e s m args below meth c Q ls G hl hw hret => ?_)
  obtain ⟨hx, hb, hml, hown, hts⟩ := G.1
  have hl : lv_has ls 2 [(0, .ref (za Z 0)), (1, .int a1)] := hl
  refine lv_aload_n hx hb dX12_bad_0 rfl (lv_at hl 0 rfl) ?_
  refine lv_iload_n hx hb dX12_bad_1 rfl (lv_at hl 1 rfl) ?_
  obtain ⟨S_1, eS_1, hf⟩ := bL_e hf
  refine pI G hw (m_this hZ) KX12 21 (by decide) rfl rfl rfl eS_1 fl_X12_227 dX12_bad_2 (fun H locs hw => ?_)
  refine lv_aload_n hx hb dX12_bad_5 rfl (lv_at hl 0 rfl) ?_
  refine lv_aload_n hx hb dX12_bad_6 rfl (lv_at hl 0 rfl) ?_
  refine gI G hw (m_this hZ) KX12 19 (by decide) rfl fl_X12_104 dX12_bad_7 ?_
  obtain ⟨S_2, eS_2, hf⟩ := bL_e hf
  refine pI G hw (m_this hZ) KX12 22 (by decide) rfl rfl rfl eS_2 fl_X12_230 dX12_bad_10 (fun H locs hw => ?_)
  refine lv_iconst hx hb dX12_bad_13 ki_0 ?_
  obtain ⟨e1, e2⟩ := Prod.mk.inj hf
  exact hret _ _ _ _ _ dX12_bad_14 ((by decide : (0 : Int32) &&& 1 = 0).trans e1) (by rw [← e2]; exact hw)
noncomputable def F12_need (S : pS) (a1 : Int32) : Option (Int32 × pS) :=
  if (S 0 18) = a1 then
    bB (F12_next0 S) fun S_1 =>
    some ((1 : Int32), S_1)
  else
    bT2 (F12_bad S 1) fun r_2 S_3 =>
    some ((r_2 &&& 1), S_3)
set_option maxRecDepth 100000 in
set_option maxHeartbeats 4000000 in
theorem wX12_need {l : Launch} {Z : pZ}  (hZ : CM Z) (S : pS) (a1 : Int32) (r : Int32) (S2 : pS)  (hf : F12_need S a1 = some (r, S2)) : CI l Z yX12_need cX12_need 2 .boolean 11 245 [.ref (za Z 0), .int a1] S r S2 := by
  unfold F12_need at hf
  refine eZ (own := RX12) (by decide) rfl (Nat.le_of_ble_eq_true rfl) (fun p e s m args below meth c Q ls G hl hw hret => ?_)
  obtain ⟨hx, hb, hml, hown, hts⟩ := G.1
  have hl : lv_has ls 2 [(0, .ref (za Z 0)), (1, .int a1)] := hl
  refine lv_aload_n hx hb dX12_need_0 rfl (lv_at hl 0 rfl) ?_
  refine gI G hw (m_this hZ) KX12 18 (by decide) rfl fl_X12_212 dX12_need_1 ?_
  refine lv_iload_n hx hb dX12_need_4 rfl (lv_at hl 1 rfl) ?_
  refine lv_icmp_eq (tgt := 14) hx hb dX12_need_5 (by decide) (fun c_4 => ?_) (fun c_4 => ?_)
  · have hf := (if_pos c_4).symm.trans hf
    refine lv_aload_n hx hb dX12_need_14 rfl (lv_at hl 0 rfl) ?_
    obtain ⟨S_1, hS_1, hf⟩ := bB_e hf
    refine kVv (rest := []) G hw (wX12_next0 hZ S S_1 hS_1) cw_X12_236 (m_this hZ) KX12 ⟨Nat.le_of_ble_eq_true rfl, Nat.le_of_ble_eq_true rfl⟩ rfl hl.1 rfl (Nat.le_of_ble_eq_true rfl) ⟨Nat.le_refl _, Nat.le_refl _⟩ dX12_need_15 (fun H locs hw => ?_)
    refine lv_iconst hx hb dX12_need_18 ki_1 ?_
    obtain ⟨e1, e2⟩ := Prod.mk.inj (Option.some.inj hf)
    exact hret _ _ _ _ _ dX12_need_19 ((by decide : (1 : Int32) &&& 1 = 1).trans e1) (by rw [← e2]; exact hw)
  · have hf := (if_neg c_4).symm.trans hf
    refine lv_aload_n hx hb dX12_need_8 rfl (lv_at hl 0 rfl) ?_
    refine lv_iconst hx hb dX12_need_9 ki_1 ?_
    obtain ⟨r_2, S_3, hr_2, hf⟩ := bT2_e hf
    refine kVi (rest := []) G hw (wX12_bad hZ S 1 r_2 S_3 hr_2) cw_X12_233 (m_this hZ) KX12 ⟨Nat.le_of_ble_eq_true rfl, Nat.le_of_ble_eq_true rfl⟩ rfl hl.1 rfl (Nat.le_of_ble_eq_true rfl) ⟨Nat.le_refl _, Nat.le_refl _⟩ dX12_need_10 (fun H locs hw => ?_)
    obtain ⟨e1, e2⟩ := Prod.mk.inj (Option.some.inj hf)
    exact hret _ _ _ _ _ dX12_need_13 e1 (by rw [← e2]; exact hw)
noncomputable def F12_lay (S : pS) (a1 : Int32) (a2 : Int32) : Option (pS) :=
  bG (vp_in (2 * (S 0 14)) 820) <|
  bL (sU S 5 ((2 * (S 0 14)).toNatClampNeg) a1) fun S_1 =>
  bG (vp_in ((2 * (S_1 0 14)) + 1) 820) <|
  bL (sU S_1 5 (((2 * (S_1 0 14)) + 1).toNatClampNeg) a2) fun S_2 =>
  bL (sU S_2 0 14 ((S_2 0 14) + 1)) fun S_3 =>
  some S_3
set_option maxRecDepth 100000 in
set_option maxHeartbeats 4000000 in
theorem wX12_lay {l : Launch} {Z : pZ}  (hZ : CM Z) (S : pS) (a1 : Int32) (a2 : Int32) (S2 : pS)  (hf : F12_lay S a1 a2 = some S2) : CV l Z yX12_lay cX12_lay 3 3 60 [.ref (za Z 0), .int a1, .int a2] S S2 := by
  unfold F12_lay at hf
  refine eV (own := RX12) (by decide) rfl (Nat.le_of_ble_eq_true rfl) (fun p e s m args below meth c Q ls G hl hw hret => ?_)
  obtain ⟨hx, hb, hml, hown, hts⟩ := G.1
  have hl : lv_has ls 3 [(0, .ref (za Z 0)), (1, .int a1), (2, .int a2)] := hl
  refine lv_aload_n hx hb dX12_lay_0 rfl (lv_at hl 0 rfl) ?_
  refine gF G hw (m_this hZ) KX12 6 (k2 := 5) rfl (by decide) rfl fl_X12_22 dX12_lay_1 ?_
  refine lv_iconst hx hb dX12_lay_4 ki_2 ?_
  refine lv_aload_n hx hb dX12_lay_5 rfl (lv_at hl 0 rfl) ?_
  refine gI G hw (m_this hZ) KX12 14 (by decide) rfl fl_X12_239 dX12_lay_6 ?_
  refine lv_imul hx hb dX12_lay_9 ?_
  refine lv_iload_n hx hb dX12_lay_10 rfl (lv_at hl 1 rfl) ?_
  obtain ⟨hg1, hf⟩ := bG_e hf
  obtain ⟨S_1, eS_1, hf⟩ := bL_e hf
  refine sI G hw (m_freshStep hZ) hg1 (j := (2 * (S 0 14)).toNatClampNeg) rfl eS_1 dX12_lay_11 (fun H locs hw => ?_)
  refine lv_aload_n hx hb dX12_lay_12 rfl (lv_at hl 0 rfl) ?_
  refine gF G hw (m_this hZ) KX12 6 (k2 := 5) rfl (by decide) rfl fl_X12_22 dX12_lay_13 ?_
  refine lv_iconst hx hb dX12_lay_16 ki_2 ?_
  refine lv_aload_n hx hb dX12_lay_17 rfl (lv_at hl 0 rfl) ?_
  refine gI G hw (m_this hZ) KX12 14 (by decide) rfl fl_X12_239 dX12_lay_18 ?_
  refine lv_imul hx hb dX12_lay_21 ?_
  refine lv_iconst hx hb dX12_lay_22 ki_1 ?_
  refine lv_iadd hx hb dX12_lay_23 ?_
  refine lv_iload_n hx hb dX12_lay_24 rfl (lv_at hl 2 rfl) ?_
  obtain ⟨hg1, hf⟩ := bG_e hf
  obtain ⟨S_2, eS_2, hf⟩ := bL_e hf
  refine sI G hw (m_freshStep hZ) hg1 (j := ((2 * (S_1 0 14)) + 1).toNatClampNeg) rfl eS_2 dX12_lay_25 (fun H locs hw => ?_)
  refine lv_aload_n hx hb dX12_lay_26 rfl (lv_at hl 0 rfl) ?_
  refine lv_dup hx hb dX12_lay_27 rfl ?_
  refine gI G hw (m_this hZ) KX12 14 (by decide) rfl fl_X12_239 dX12_lay_28 ?_
  refine lv_iconst hx hb dX12_lay_31 ki_1 ?_
  refine lv_iadd hx hb dX12_lay_32 ?_
  obtain ⟨S_3, eS_3, hf⟩ := bL_e hf
  refine pI G hw (m_this hZ) KX12 14 (by decide) rfl rfl rfl eS_3 fl_X12_239 dX12_lay_33 (fun H locs hw => ?_)
  exact hret _ _ _ _ dX12_lay_36 (by rw [← (Option.some.inj hf)]; exact hw)
noncomputable def F12_opens (S : pS) : Option (Int32 × pS) :=
  if (S 0 24) = 8 then
    bT2 (F12_bad S 3) fun r_3 S_4 =>
    some ((r_3 &&& 1), S_4)
  else
    bL (sU S 0 24 ((S 0 24) + 1)) fun S_1 =>
    bB (F12_next0 S_1) fun S_2 =>
    some ((1 : Int32), S_2)
set_option maxRecDepth 100000 in
set_option maxHeartbeats 4000000 in
theorem wX12_opens {l : Launch} {Z : pZ}  (hZ : CM Z) (S : pS)  (r : Int32) (S2 : pS)  (hf : F12_opens S = some (r, S2)) : CI l Z yX12_opens cX12_opens 1 .boolean 11 245 [.ref (za Z 0)] S r S2 := by
  unfold F12_opens at hf
  refine eZ (own := RX12) (by decide) rfl (Nat.le_of_ble_eq_true rfl) (fun p e s m args below meth c Q ls G hl hw hret => ?_)
  obtain ⟨hx, hb, hml, hown, hts⟩ := G.1
  have hl : lv_has ls 1 [(0, .ref (za Z 0))] := hl
  refine lv_aload_n hx hb dX12_opens_0 rfl (lv_at hl 0 rfl) ?_
  refine gI G hw (m_this hZ) KX12 24 (by decide) rfl fl_X12_242 dX12_opens_1 ?_
  refine lv_bipush hx hb dX12_opens_4 kb_8 ?_
  refine lv_icmp_ne (tgt := 15) hx hb dX12_opens_6 (by decide) (fun c_5 => ?_) (fun c_5 => ?_)
  · have hf := (if_neg c_5).symm.trans hf
    refine lv_aload_n hx hb dX12_opens_15 rfl (lv_at hl 0 rfl) ?_
    refine lv_dup hx hb dX12_opens_16 rfl ?_
    refine gI G hw (m_this hZ) KX12 24 (by decide) rfl fl_X12_242 dX12_opens_17 ?_
    refine lv_iconst hx hb dX12_opens_20 ki_1 ?_
    refine lv_iadd hx hb dX12_opens_21 ?_
    obtain ⟨S_1, eS_1, hf⟩ := bL_e hf
    refine pI G hw (m_this hZ) KX12 24 (by decide) rfl rfl rfl eS_1 fl_X12_242 dX12_opens_22 (fun H locs hw => ?_)
    refine lv_aload_n hx hb dX12_opens_25 rfl (lv_at hl 0 rfl) ?_
    obtain ⟨S_2, hS_2, hf⟩ := bB_e hf
    refine kVv (rest := []) G hw (wX12_next0 hZ S_1 S_2 hS_2) cw_X12_236 (m_this hZ) KX12 ⟨Nat.le_of_ble_eq_true rfl, Nat.le_of_ble_eq_true rfl⟩ rfl hl.1 rfl (Nat.le_of_ble_eq_true rfl) ⟨Nat.le_refl _, Nat.le_refl _⟩ dX12_opens_26 (fun H locs hw => ?_)
    refine lv_iconst hx hb dX12_opens_29 ki_1 ?_
    obtain ⟨e1, e2⟩ := Prod.mk.inj (Option.some.inj hf)
    exact hret _ _ _ _ _ dX12_opens_30 ((by decide : (1 : Int32) &&& 1 = 1).trans e1) (by rw [← e2]; exact hw)
  · have hf := (if_pos c_5).symm.trans hf
    refine lv_aload_n hx hb dX12_opens_9 rfl (lv_at hl 0 rfl) ?_
    refine lv_iconst hx hb dX12_opens_10 ki_3 ?_
    obtain ⟨r_3, S_4, hr_3, hf⟩ := bT2_e hf
    refine kVi (rest := []) G hw (wX12_bad hZ S 3 r_3 S_4 hr_3) cw_X12_233 (m_this hZ) KX12 ⟨Nat.le_of_ble_eq_true rfl, Nat.le_of_ble_eq_true rfl⟩ rfl hl.1 rfl (Nat.le_of_ble_eq_true rfl) ⟨Nat.le_refl _, Nat.le_refl _⟩ dX12_opens_11 (fun H locs hw => ?_)
    obtain ⟨e1, e2⟩ := Prod.mk.inj (Option.some.inj hf)
    exact hret _ _ _ _ _ dX12_opens_14 e1 (by rw [← e2]; exact hw)
noncomputable def F12_unit (S : pS) : Option (Int32 × pS) :=
  bL (F12_isIn (S 0 18) 41 59) fun l1_1 =>
  bL (fun (_ : Unit) =>
    bL (fun (t_2 : Int32) =>
      bB (F12_lay S t_2 (S 0 20)) fun S_3 =>
      bB (F12_next0 S_3) fun S_4 =>
      some ((1 : Int32), S_4)) fun j46 =>
    if l1_1 = 0 then
      j46 0
    else
      j46 ((S 0 18) - 40)) fun j30 =>
  if (S 0 18) = 2 then
    j30 ()
  else
    if l1_1 = 0 then
      bT2 (F12_bad S 1) fun r_6 S_7 =>
      some ((r_6 &&& 1), S_7)
    else
      j30 ()
set_option maxRecDepth 100000 in
set_option maxHeartbeats 4000000 in
theorem wX12_unit {l : Launch} {Z : pZ}  (hZ : CM Z) (S : pS)  (r : Int32) (S2 : pS)  (hf : F12_unit S = some (r, S2)) : CI l Z yX12_unit cX12_unit 2 .boolean 11 245 [.ref (za Z 0)] S r S2 := by
  unfold F12_unit at hf
  refine eZ (own := RX12) (by decide) rfl (Nat.le_of_ble_eq_true rfl) (fun p e s m args below meth c Q ls G hl hw hret => ?_)
  obtain ⟨hx, hb, hml, hown, hts⟩ := G.1
  have hl : lv_has ls 2 [(0, .ref (za Z 0))] := hl
  refine lv_aload_n hx hb dX12_unit_0 rfl (lv_at hl 0 rfl) ?_
  refine gI G hw (m_this hZ) KX12 18 (by decide) rfl fl_X12_212 dX12_unit_1 ?_
  refine lv_bipush hx hb dX12_unit_4 kb_41 ?_
  refine lv_bipush hx hb dX12_unit_6 kb_59 ?_
  refine kSi (rest := []) G hw (wX12_isIn hZ S (S 0 18) 41 59 (F12_isIn (S 0 18) 41 59) rfl) cw_X12_71 ⟨Nat.le_of_ble_eq_true rfl, Nat.le_of_ble_eq_true rfl⟩ rfl hl.1 rfl (Nat.le_of_ble_eq_true rfl) ⟨Nat.le_refl _, Nat.le_refl _⟩ dX12_unit_8 (fun H locs hw => ?_)
  obtain ⟨l1_1, el1_1, hf⟩ := bL_e hf
  refine top_i el1_1 ?_
  refine lv_istore_n (lv' := [(1, .int l1_1), (0, .ref (za Z 0))]) hx hb dX12_unit_11 rfl hl (by decide) rfl (fun ls hl => ?_)
  refine lv_aload_n hx hb dX12_unit_12 rfl (lv_at hl 1 rfl) ?_
  refine gI G hw (m_this hZ) KX12 18 (by decide) rfl fl_X12_212 dX12_unit_13 ?_
  refine lv_iconst hx hb dX12_unit_16 ki_2 ?_
  obtain ⟨j30, ej, hf⟩ := bL_e hf
  have R30 : ∀ (H : Heap) (locs : List Loc) (ls : Array Slot), Wd Z s S H locs → lv_has ls 2 [(0, .ref (za Z 0)), (1, .int l1_1)] → j30 () = some (r, S2) → W p l e { frames := 11, cells := 0, slots := 0, locals := 245 } s m args below meth c H locs 0 0 Q (F0 m 30 ls []) := by
    intro  H locs ls hw hl hf
    have hf := (congrFun ej ()).symm.trans hf
    refine lv_aload_n hx hb dX12_unit_30 rfl (lv_at hl 0 rfl) ?_
    refine lv_iload_n hx hb dX12_unit_31 rfl (lv_at hl 1 rfl) ?_
    obtain ⟨j46, ej, hf⟩ := bL_e hf
    have R46 : ∀ (t_2 : Int32) (H : Heap) (locs : List Loc) (ls : Array Slot), Wd Z s S H locs → lv_has ls 2 [(0, .ref (za Z 0))] → j46 t_2 = some (r, S2) → W p l e { frames := 11, cells := 0, slots := 0, locals := 245 } s m args below meth c H locs 0 0 Q (F0 m 46 ls [.int t_2, .ref (za Z 0)]) := by
      intro t_2 H locs ls hw hl hf
      have hf := (congrFun ej t_2).symm.trans hf
      refine lv_aload_n hx hb dX12_unit_46 rfl (lv_at hl 0 rfl) ?_
      refine gI G hw (m_this hZ) KX12 20 (by decide) rfl fl_X12_224 dX12_unit_47 ?_
      obtain ⟨S_3, hS_3, hf⟩ := bB_e hf
      refine kVv (rest := []) G hw (wX12_lay hZ S t_2 (S 0 20) S_3 hS_3) cw_X12_249 (m_this hZ) KX12 ⟨Nat.le_of_ble_eq_true rfl, Nat.le_of_ble_eq_true rfl⟩ rfl hl.1 rfl (Nat.le_of_ble_eq_true rfl) ⟨Nat.le_refl _, Nat.le_refl _⟩ dX12_unit_50 (fun H locs hw => ?_)
      refine lv_aload_n hx hb dX12_unit_53 rfl (lv_at hl 0 rfl) ?_
      obtain ⟨S_4, hS_4, hf⟩ := bB_e hf
      refine kVv (rest := []) G hw (wX12_next0 hZ S_3 S_4 hS_4) cw_X12_236 (m_this hZ) KX12 ⟨Nat.le_of_ble_eq_true rfl, Nat.le_of_ble_eq_true rfl⟩ rfl hl.1 rfl (Nat.le_of_ble_eq_true rfl) ⟨Nat.le_refl _, Nat.le_refl _⟩ dX12_unit_54 (fun H locs hw => ?_)
      refine lv_iconst hx hb dX12_unit_57 ki_1 ?_
      obtain ⟨e1, e2⟩ := Prod.mk.inj (Option.some.inj hf)
      exact hret _ _ _ _ _ dX12_unit_58 ((by decide : (1 : Int32) &&& 1 = 1).trans e1) (by rw [← e2]; exact hw)
    clear ej
    refine lv_if_eq (tgt := 45) hx hb dX12_unit_32 (by decide) (fun c_5 => ?_) (fun c_5 => ?_)
    · have hf := (if_pos c_5).symm.trans hf
      refine lv_iconst hx hb dX12_unit_45 ki_0 ?_
      exact R46 _ _ _ _ hw (lv_sub hl [0] rfl) hf
    · have hf := (if_neg c_5).symm.trans hf
      refine lv_aload_n hx hb dX12_unit_35 rfl (lv_at hl 0 rfl) ?_
      refine gI G hw (m_this hZ) KX12 18 (by decide) rfl fl_X12_212 dX12_unit_36 ?_
      refine lv_bipush hx hb dX12_unit_39 kb_40 ?_
      refine lv_isub hx hb dX12_unit_41 ?_
      refine lv_goto (tgt := 46) hx hb dX12_unit_42 (by decide) ?_
      exact R46 _ _ _ _ hw (lv_sub hl [0] rfl) hf
  clear ej
  refine lv_icmp_eq (tgt := 30) hx hb dX12_unit_17 (by decide) (fun c_9 => ?_) (fun c_9 => ?_)
  · have hf := (if_pos c_9).symm.trans hf
    exact R30 _ _ _ hw (lv_sub hl [1, 0] rfl) hf
  · have hf := (if_neg c_9).symm.trans hf
    refine lv_iload_n hx hb dX12_unit_20 rfl (lv_at hl 0 rfl) ?_
    refine lv_if_ne (tgt := 30) hx hb dX12_unit_21 (by decide) (fun c_8 => ?_) (fun c_8 => ?_)
    · have hf := (if_neg c_8).symm.trans hf
      exact R30 _ _ _ hw (lv_sub hl [1, 0] rfl) hf
    · have hf := (if_pos c_8).symm.trans hf
      refine lv_aload_n hx hb dX12_unit_24 rfl (lv_at hl 1 rfl) ?_
      refine lv_iconst hx hb dX12_unit_25 ki_1 ?_
      obtain ⟨r_6, S_7, hr_6, hf⟩ := bT2_e hf
      refine kVi (rest := []) G hw (wX12_bad hZ S 1 r_6 S_7 hr_6) cw_X12_233 (m_this hZ) KX12 ⟨Nat.le_of_ble_eq_true rfl, Nat.le_of_ble_eq_true rfl⟩ rfl hl.1 rfl (Nat.le_of_ble_eq_true rfl) ⟨Nat.le_refl _, Nat.le_refl _⟩ dX12_unit_26 (fun H locs hw => ?_)
      obtain ⟨e1, e2⟩ := Prod.mk.inj (Option.some.inj hf)
      exact hret _ _ _ _ _ dX12_unit_29 e1 (by rw [← e2]; exact hw)
noncomputable def F12_product (S : pS) : Option (Int32 × pS) :=
  bB2 (F12_unit S) fun r_1 S_2 =>
  if r_1 = 0 then
    some ((0 : Int32), S_2)
  else
    bL (fun (S_3 : pS) =>
      some ((1 : Int32), S_3)) fun g115_9 =>
    bL (fun (S_4 : pS) =>
      bT2 (F12_bad S_4 1) fun r_5 S_6 =>
      some ((r_5 &&& 1), S_6)) fun g66_9 =>
    bL (fun (S_7 : pS) =>
      bT2 (F12_bad S_7 2) fun r_8 S_9 =>
      some ((r_8 &&& 1), S_9)) fun g76_9 =>
    bL (fun (S_10 : pS) =>
      some ((0 : Int32), S_10)) fun g103_9 =>
    bL (u1 fun (S_11 : pS) =>
      bL (fun (_ : Unit) =>
        bL (fun (t_13 : Int32) =>
          bB (F12_next0 S_11) fun S_14 =>
          bL (fun (S_15 : pS) =>
            some (.inl S_15)) fun j112 =>
          if t_13 = 0 then
            bB2 (F12_unit S_14) fun r_16 S_17 =>
            if r_16 = 0 then
              some (.inr (.inr (.inr (.inr S_17))))
            else
              bB (F12_lay S_17 25 0) fun S_18 =>
              j112 S_18
          else
            bL (S_14 0 20) fun l2_20 =>
            if (S_14 0 18) = 2 then
              if l2_20 = 0 then
                some (.inr (.inr (.inr (.inl S_14))))
              else
                bB (F12_next0 S_14) fun S_21 =>
                bB (F12_lay S_21 26 l2_20) fun S_22 =>
                j112 S_22
            else
              some (.inr (.inr (.inl S_14)))) fun j44 =>
        if (S_11 0 18) = 147 then
          j44 1
        else
          j44 0) fun j29 =>
      if (S_11 0 18) = 142 then
        j29 ()
      else
        if (S_11 0 18) = 147 then
          j29 ()
        else
          some (.inr (.inl S_11))) fun b9 =>
    bB (bP b9 S_2) (Sum.elim (u1 g115_9) (Sum.elim (u1 g66_9) (Sum.elim (u1 g76_9) (u1 g103_9))))
set_option maxRecDepth 100000 in
set_option maxHeartbeats 4000000 in
theorem wX12_product {l : Launch} {Z : pZ}  (hZ : CM Z) (S : pS)  (r : Int32) (S2 : pS)  (hf : F12_product S = some (r, S2)) : CI l Z yX12_product cX12_product 3 .boolean 12 266 [.ref (za Z 0)] S r S2 := by
  unfold F12_product at hf
  refine eZ (own := RX12) (by decide) rfl (Nat.le_of_ble_eq_true rfl) (fun p e s m args below meth c Q ls G hl hw hret => ?_)
  obtain ⟨hx, hb, hml, hown, hts⟩ := G.1
  have hl : lv_has ls 3 [(0, .ref (za Z 0))] := hl
  refine lv_aload_n hx hb dX12_product_0 rfl (lv_at hl 0 rfl) ?_
  obtain ⟨r_1, S_2, hr_1, hf⟩ := bB2_e hf
  refine kVi (rest := []) G hw (wX12_unit hZ S r_1 S_2 hr_1) cw_X12_253 (m_this hZ) KX12 ⟨Nat.le_of_ble_eq_true rfl, Nat.le_of_ble_eq_true rfl⟩ rfl hl.1 rfl (Nat.le_of_ble_eq_true rfl) ⟨Nat.le_refl _, Nat.le_refl _⟩ dX12_product_1 (fun H locs hw => ?_)
  refine lv_if_ne (tgt := 9) hx hb dX12_product_4 (by decide) (fun c_29 => ?_) (fun c_29 => ?_)
  · have hf := (if_neg c_29).symm.trans hf
    obtain ⟨g115_9, ej, hf⟩ := bL_e hf
    have R115_9 : ∀ (S_3 : pS) (H : Heap) (locs : List Loc) (ls : Array Slot), Wd Z s S_3 H locs → lv_has ls 3 [] → g115_9 S_3 = some (r, S2) → W p l e { frames := 12, cells := 0, slots := 0, locals := 266 } s m args below meth c H locs 0 0 Q (F0 m 115 ls []) := by
      intro S_3 H locs ls hw hl hf
      have hf := (congrFun ej S_3).symm.trans hf
      refine lv_iconst hx hb dX12_product_115 ki_1 ?_
      obtain ⟨e1, e2⟩ := Prod.mk.inj (Option.some.inj hf)
      exact hret _ _ _ _ _ dX12_product_116 ((by decide : (1 : Int32) &&& 1 = 1).trans e1) (by rw [← e2]; exact hw)
    clear ej
    obtain ⟨g66_9, ej, hf⟩ := bL_e hf
    have R66_9 : ∀ (S_4 : pS) (H : Heap) (locs : List Loc) (ls : Array Slot), Wd Z s S_4 H locs → lv_has ls 3 [(0, .ref (za Z 0))] → g66_9 S_4 = some (r, S2) → W p l e { frames := 12, cells := 0, slots := 0, locals := 266 } s m args below meth c H locs 0 0 Q (F0 m 66 ls []) := by
      intro S_4 H locs ls hw hl hf
      have hf := (congrFun ej S_4).symm.trans hf
      refine lv_aload_n hx hb dX12_product_66 rfl (lv_at hl 0 rfl) ?_
      refine lv_iconst hx hb dX12_product_67 ki_1 ?_
      obtain ⟨r_5, S_6, hr_5, hf⟩ := bT2_e hf
      refine kVi (rest := []) G hw (wX12_bad hZ S_4 1 r_5 S_6 hr_5) cw_X12_233 (m_this hZ) KX12 ⟨Nat.le_of_ble_eq_true rfl, Nat.le_of_ble_eq_true rfl⟩ rfl hl.1 rfl (Nat.le_of_ble_eq_true rfl) ⟨Nat.le_refl _, Nat.le_refl _⟩ dX12_product_68 (fun H locs hw => ?_)
      obtain ⟨e1, e2⟩ := Prod.mk.inj (Option.some.inj hf)
      exact hret _ _ _ _ _ dX12_product_71 e1 (by rw [← e2]; exact hw)
    clear ej
    obtain ⟨g76_9, ej, hf⟩ := bL_e hf
    have R76_9 : ∀ (S_7 : pS) (H : Heap) (locs : List Loc) (ls : Array Slot), Wd Z s S_7 H locs → lv_has ls 3 [(0, .ref (za Z 0))] → g76_9 S_7 = some (r, S2) → W p l e { frames := 12, cells := 0, slots := 0, locals := 266 } s m args below meth c H locs 0 0 Q (F0 m 76 ls []) := by
      intro S_7 H locs ls hw hl hf
      have hf := (congrFun ej S_7).symm.trans hf
      refine lv_aload_n hx hb dX12_product_76 rfl (lv_at hl 0 rfl) ?_
      refine lv_iconst hx hb dX12_product_77 ki_2 ?_
      obtain ⟨r_8, S_9, hr_8, hf⟩ := bT2_e hf
      refine kVi (rest := []) G hw (wX12_bad hZ S_7 2 r_8 S_9 hr_8) cw_X12_233 (m_this hZ) KX12 ⟨Nat.le_of_ble_eq_true rfl, Nat.le_of_ble_eq_true rfl⟩ rfl hl.1 rfl (Nat.le_of_ble_eq_true rfl) ⟨Nat.le_refl _, Nat.le_refl _⟩ dX12_product_78 (fun H locs hw => ?_)
      obtain ⟨e1, e2⟩ := Prod.mk.inj (Option.some.inj hf)
      exact hret _ _ _ _ _ dX12_product_81 e1 (by rw [← e2]; exact hw)
    clear ej
    obtain ⟨g103_9, ej, hf⟩ := bL_e hf
    have R103_9 : ∀ (S_10 : pS) (H : Heap) (locs : List Loc) (ls : Array Slot), Wd Z s S_10 H locs → lv_has ls 3 [] → g103_9 S_10 = some (r, S2) → W p l e { frames := 12, cells := 0, slots := 0, locals := 266 } s m args below meth c H locs 0 0 Q (F0 m 103 ls []) := by
      intro S_10 H locs ls hw hl hf
      have hf := (congrFun ej S_10).symm.trans hf
      refine lv_iconst hx hb dX12_product_103 ki_0 ?_
      obtain ⟨e1, e2⟩ := Prod.mk.inj (Option.some.inj hf)
      exact hret _ _ _ _ _ dX12_product_104 ((by decide : (0 : Int32) &&& 1 = 0).trans e1) (by rw [← e2]; exact hw)
    clear ej
    obtain ⟨b9, eb, hf⟩ := bL_e hf
    have RL9 : ∀ (n : Nat) z, (Sum.elim (u1 g115_9) (Sum.elim (u1 g66_9) (Sum.elim (u1 g76_9) (u1 g103_9)))) z = some (r, S2) → ∀ (S_11 : pS) (H : Heap) (locs : List Loc) (ls : Array Slot), Wd Z s S_11 H locs → lv_has ls 3 [(0, .ref (za Z 0))] → bPn b9 n S_11 = some z → W p l e { frames := 12, cells := 0, slots := 0, locals := 266 } s m args below meth c H locs 0 0 Q (F0 m 9 ls []) := by
      intro n
      induction n with
      | zero =>
        intro z hg S_11 H locs ls hw hl hz
        exact bPn_0 hz
      | succ n ih =>
        intro z hg S_11 H locs ls hw hl hz
        obtain ⟨q_12, hf, hz⟩ := bPn_e hz
        have hf := u1_e ((congrFun eb _).symm.trans hf)
        refine lv_aload_n hx hb dX12_product_9 rfl (lv_at hl 0 rfl) ?_
        refine gI G hw (m_this hZ) KX12 18 (by decide) rfl fl_X12_212 dX12_product_10 ?_
        refine lv_sipush hx hb dX12_product_13 ks_142 ?_
        obtain ⟨j29, ej, hf⟩ := bL_e hf
        have R29 : ∀ (H : Heap) (locs : List Loc) (ls : Array Slot), Wd Z s S_11 H locs → lv_has ls 3 [(0, .ref (za Z 0))] → j29 () = some q_12 → W p l e { frames := 12, cells := 0, slots := 0, locals := 266 } s m args below meth c H locs 0 0 Q (F0 m 29 ls []) := by
          intro  H locs ls hw hl hf
          have hf := (congrFun ej ()).symm.trans hf
          refine lv_aload_n hx hb dX12_product_29 rfl (lv_at hl 0 rfl) ?_
          refine gI G hw (m_this hZ) KX12 18 (by decide) rfl fl_X12_212 dX12_product_30 ?_
          refine lv_sipush hx hb dX12_product_33 ks_147 ?_
          obtain ⟨j44, ej, hf⟩ := bL_e hf
          have R44 : ∀ (t_13 : Int32) (H : Heap) (locs : List Loc) (ls : Array Slot), Wd Z s S_11 H locs → lv_has ls 3 [(0, .ref (za Z 0))] → j44 t_13 = some q_12 → W p l e { frames := 12, cells := 0, slots := 0, locals := 266 } s m args below meth c H locs 0 0 Q (F0 m 44 ls [.int t_13]) := by
            intro t_13 H locs ls hw hl hf
            have hf := (congrFun ej t_13).symm.trans hf
            refine lv_istore_n (lv' := [(1, .int t_13), (0, .ref (za Z 0))]) hx hb dX12_product_44 rfl hl (by decide) rfl (fun ls hl => ?_)
            refine lv_aload_n hx hb dX12_product_45 rfl (lv_at hl 1 rfl) ?_
            obtain ⟨S_14, hS_14, hf⟩ := bB_e hf
            refine kVv (rest := []) G hw (wX12_next0 hZ S_11 S_14 hS_14) cw_X12_236 (m_this hZ) KX12 ⟨Nat.le_of_ble_eq_true rfl, Nat.le_of_ble_eq_true rfl⟩ rfl hl.1 rfl (Nat.le_of_ble_eq_true rfl) ⟨Nat.le_refl _, Nat.le_refl _⟩ dX12_product_46 (fun H locs hw => ?_)
            refine lv_iload_n hx hb dX12_product_49 rfl (lv_at hl 0 rfl) ?_
            obtain ⟨j112, ej, hf⟩ := bL_e hf
            have R112 : ∀ (S_15 : pS) (H : Heap) (locs : List Loc) (ls : Array Slot), Wd Z s S_15 H locs → lv_has ls 3 [(0, .ref (za Z 0))] → j112 S_15 = some q_12 → W p l e { frames := 12, cells := 0, slots := 0, locals := 266 } s m args below meth c H locs 0 0 Q (F0 m 112 ls []) := by
              intro S_15 H locs ls hw hl hf
              have hf := (congrFun ej S_15).symm.trans hf
              refine lv_goto (tgt := 9) hx hb dX12_product_112 (by decide) ?_
              obtain rfl := Option.some.inj hf
              exact ih _ hg _ _ _ _ hw (lv_sub hl [0] rfl) hz
            clear ej
            refine lv_if_eq (tgt := 96) hx hb dX12_product_50 (by decide) (fun c_25 => ?_) (fun c_25 => ?_)
            · have hf := (if_pos c_25).symm.trans hf
              refine lv_aload_n hx hb dX12_product_96 rfl (lv_at hl 1 rfl) ?_
              obtain ⟨r_16, S_17, hr_16, hf⟩ := bB2_e hf
              refine kVi (rest := []) G hw (wX12_unit hZ S_14 r_16 S_17 hr_16) cw_X12_253 (m_this hZ) KX12 ⟨Nat.le_of_ble_eq_true rfl, Nat.le_of_ble_eq_true rfl⟩ rfl hl.1 rfl (Nat.le_of_ble_eq_true rfl) ⟨Nat.le_refl _, Nat.le_refl _⟩ dX12_product_97 (fun H locs hw => ?_)
              refine lv_if_ne (tgt := 105) hx hb dX12_product_100 (by decide) (fun c_19 => ?_) (fun c_19 => ?_)
              · have hf := (if_neg c_19).symm.trans hf
                refine lv_aload_n hx hb dX12_product_105 rfl (lv_at hl 1 rfl) ?_
                refine lv_bipush hx hb dX12_product_106 kb_25 ?_
                refine lv_iconst hx hb dX12_product_108 ki_0 ?_
                obtain ⟨S_18, hS_18, hf⟩ := bB_e hf
                refine kVv (rest := []) G hw (wX12_lay hZ S_17 25 0 S_18 hS_18) cw_X12_249 (m_this hZ) KX12 ⟨Nat.le_of_ble_eq_true rfl, Nat.le_of_ble_eq_true rfl⟩ rfl hl.1 rfl (Nat.le_of_ble_eq_true rfl) ⟨Nat.le_refl _, Nat.le_refl _⟩ dX12_product_109 (fun H locs hw => ?_)
                exact R112 _ _ _ _ hw (lv_sub hl [1] rfl) hf
              · have hf := (if_pos c_19).symm.trans hf
                obtain rfl := Option.some.inj hf
                obtain rfl := Option.some.inj (hz : some _ = some _)
                exact R103_9 _ _ _ _ hw (lv_sub hl [] rfl) hg
            · have hf := (if_neg c_25).symm.trans hf
              refine lv_aload_n hx hb dX12_product_53 rfl (lv_at hl 1 rfl) ?_
              refine gI G hw (m_this hZ) KX12 20 (by decide) rfl fl_X12_224 dX12_product_54 ?_
              obtain ⟨l2_20, el2_20, hf⟩ := bL_e hf
              refine top_i el2_20 ?_
              refine lv_istore_n (lv' := [(2, .int l2_20), (1, .int t_13), (0, .ref (za Z 0))]) hx hb dX12_product_57 rfl hl (by decide) rfl (fun ls hl => ?_)
              refine lv_aload_n hx hb dX12_product_58 rfl (lv_at hl 2 rfl) ?_
              refine gI G hw (m_this hZ) KX12 18 (by decide) rfl fl_X12_212 dX12_product_59 ?_
              refine lv_iconst hx hb dX12_product_62 ki_2 ?_
              refine lv_icmp_eq (tgt := 72) hx hb dX12_product_63 (by decide) (fun c_24 => ?_) (fun c_24 => ?_)
              · have hf := (if_pos c_24).symm.trans hf
                refine lv_iload_n hx hb dX12_product_72 rfl (lv_at hl 0 rfl) ?_
                refine lv_if_ne (tgt := 82) hx hb dX12_product_73 (by decide) (fun c_23 => ?_) (fun c_23 => ?_)
                · have hf := (if_neg c_23).symm.trans hf
                  refine lv_aload_n hx hb dX12_product_82 rfl (lv_at hl 2 rfl) ?_
                  obtain ⟨S_21, hS_21, hf⟩ := bB_e hf
                  refine kVv (rest := []) G hw (wX12_next0 hZ S_14 S_21 hS_21) cw_X12_236 (m_this hZ) KX12 ⟨Nat.le_of_ble_eq_true rfl, Nat.le_of_ble_eq_true rfl⟩ rfl hl.1 rfl (Nat.le_of_ble_eq_true rfl) ⟨Nat.le_refl _, Nat.le_refl _⟩ dX12_product_83 (fun H locs hw => ?_)
                  refine lv_aload_n hx hb dX12_product_86 rfl (lv_at hl 2 rfl) ?_
                  refine lv_bipush hx hb dX12_product_87 kb_26 ?_
                  refine lv_iload_n hx hb dX12_product_89 rfl (lv_at hl 0 rfl) ?_
                  obtain ⟨S_22, hS_22, hf⟩ := bB_e hf
                  refine kVv (rest := []) G hw (wX12_lay hZ S_21 26 l2_20 S_22 hS_22) cw_X12_249 (m_this hZ) KX12 ⟨Nat.le_of_ble_eq_true rfl, Nat.le_of_ble_eq_true rfl⟩ rfl hl.1 rfl (Nat.le_of_ble_eq_true rfl) ⟨Nat.le_refl _, Nat.le_refl _⟩ dX12_product_90 (fun H locs hw => ?_)
                  refine lv_goto (tgt := 112) hx hb dX12_product_93 (by decide) ?_
                  exact R112 _ _ _ _ hw (lv_sub hl [2] rfl) hf
                · have hf := (if_pos c_23).symm.trans hf
                  obtain rfl := Option.some.inj hf
                  obtain rfl := Option.some.inj (hz : some _ = some _)
                  exact R76_9 _ _ _ _ hw (lv_sub hl [2] rfl) hg
              · have hf := (if_neg c_24).symm.trans hf
                obtain rfl := Option.some.inj hf
                obtain rfl := Option.some.inj (hz : some _ = some _)
                exact R66_9 _ _ _ _ hw (lv_sub hl [2] rfl) hg
          clear ej
          refine lv_icmp_ne (tgt := 43) hx hb dX12_product_36 (by decide) (fun c_26 => ?_) (fun c_26 => ?_)
          · have hf := (if_neg c_26).symm.trans hf
            refine lv_iconst hx hb dX12_product_43 ki_0 ?_
            exact R44 _ _ _ _ hw (lv_sub hl [0] rfl) hf
          · have hf := (if_pos c_26).symm.trans hf
            refine lv_iconst hx hb dX12_product_39 ki_1 ?_
            refine lv_goto (tgt := 44) hx hb dX12_product_40 (by decide) ?_
            exact R44 _ _ _ _ hw (lv_sub hl [0] rfl) hf
        clear ej
        refine lv_icmp_eq (tgt := 29) hx hb dX12_product_16 (by decide) (fun c_28 => ?_) (fun c_28 => ?_)
        · have hf := (if_pos c_28).symm.trans hf
          exact R29 _ _ _ hw (lv_sub hl [0] rfl) hf
        · have hf := (if_neg c_28).symm.trans hf
          refine lv_aload_n hx hb dX12_product_19 rfl (lv_at hl 0 rfl) ?_
          refine gI G hw (m_this hZ) KX12 18 (by decide) rfl fl_X12_212 dX12_product_20 ?_
          refine lv_sipush hx hb dX12_product_23 ks_147 ?_
          refine lv_icmp_ne (tgt := 115) hx hb dX12_product_26 (by decide) (fun c_27 => ?_) (fun c_27 => ?_)
          · have hf := (if_neg c_27).symm.trans hf
            obtain rfl := Option.some.inj hf
            obtain rfl := Option.some.inj (hz : some _ = some _)
            exact R115_9 _ _ _ _ hw (lv_sub hl [] rfl) hg
          · have hf := (if_pos c_27).symm.trans hf
            exact R29 _ _ _ hw (lv_sub hl [0] rfl) hf
    clear eb
    obtain ⟨z, hz, hf⟩ := bB_e hf
    obtain ⟨n, hz⟩ := bP_e hz
    exact RL9 n z hf _ _ _ _ hw (lv_sub hl [0] rfl) hz
  · have hf := (if_pos c_29).symm.trans hf
    refine lv_iconst hx hb dX12_product_7 ki_0 ?_
    obtain ⟨e1, e2⟩ := Prod.mk.inj (Option.some.inj hf)
    exact hret _ _ _ _ _ dX12_product_8 ((by decide : (0 : Int32) &&& 1 = 0).trans e1) (by rw [← e2]; exact hw)
noncomputable def F12_sumUp (S : pS) : Option (Int32 × pS) :=
  bB2 (F12_product S) fun r_1 S_2 =>
  if r_1 = 0 then
    some ((0 : Int32), S_2)
  else
    bL (fun (S_3 : pS) =>
      some ((1 : Int32), S_3)) fun g69_9 =>
    bL (fun (S_4 : pS) =>
      some ((0 : Int32), S_4)) fun g58_9 =>
    bL (u1 fun (S_5 : pS) =>
      bL (fun (_ : Unit) =>
        bL (fun (t_7 : Int32) =>
          bB (F12_next0 S_5) fun S_8 =>
          bB2 (F12_product S_8) fun r_9 S_10 =>
          if r_9 = 0 then
            some (.inr (.inr S_10))
          else
            bB (F12_lay S_10 t_7 0) fun S_11 =>
            some (.inl S_11)) fun j46 =>
        if (S_5 0 18) = 143 then
          j46 23
        else
          j46 24) fun j29 =>
      if (S_5 0 18) = 143 then
        j29 ()
      else
        if (S_5 0 18) = 145 then
          j29 ()
        else
          some (.inr (.inl S_5))) fun b9 =>
    bB (bP b9 S_2) (Sum.elim (u1 g69_9) (u1 g58_9))
set_option maxRecDepth 100000 in
set_option maxHeartbeats 4000000 in
theorem wX12_sumUp {l : Launch} {Z : pZ}  (hZ : CM Z) (S : pS)  (r : Int32) (S2 : pS)  (hf : F12_sumUp S = some (r, S2)) : CI l Z yX12_sumUp cX12_sumUp 2 .boolean 13 288 [.ref (za Z 0)] S r S2 := by
  unfold F12_sumUp at hf
  refine eZ (own := RX12) (by decide) rfl (Nat.le_of_ble_eq_true rfl) (fun p e s m args below meth c Q ls G hl hw hret => ?_)
  obtain ⟨hx, hb, hml, hown, hts⟩ := G.1
  have hl : lv_has ls 2 [(0, .ref (za Z 0))] := hl
  refine lv_aload_n hx hb dX12_sumUp_0 rfl (lv_at hl 0 rfl) ?_
  obtain ⟨r_1, S_2, hr_1, hf⟩ := bB2_e hf
  refine kVi (rest := []) G hw (wX12_product hZ S r_1 S_2 hr_1) cw_X12_245 (m_this hZ) KX12 ⟨Nat.le_of_ble_eq_true rfl, Nat.le_of_ble_eq_true rfl⟩ rfl hl.1 rfl (Nat.le_of_ble_eq_true rfl) ⟨Nat.le_refl _, Nat.le_refl _⟩ dX12_sumUp_1 (fun H locs hw => ?_)
  refine lv_if_ne (tgt := 9) hx hb dX12_sumUp_4 (by decide) (fun c_16 => ?_) (fun c_16 => ?_)
  · have hf := (if_neg c_16).symm.trans hf
    obtain ⟨g69_9, ej, hf⟩ := bL_e hf
    have R69_9 : ∀ (S_3 : pS) (H : Heap) (locs : List Loc) (ls : Array Slot), Wd Z s S_3 H locs → lv_has ls 2 [] → g69_9 S_3 = some (r, S2) → W p l e { frames := 13, cells := 0, slots := 0, locals := 288 } s m args below meth c H locs 0 0 Q (F0 m 69 ls []) := by
      intro S_3 H locs ls hw hl hf
      have hf := (congrFun ej S_3).symm.trans hf
      refine lv_iconst hx hb dX12_sumUp_69 ki_1 ?_
      obtain ⟨e1, e2⟩ := Prod.mk.inj (Option.some.inj hf)
      exact hret _ _ _ _ _ dX12_sumUp_70 ((by decide : (1 : Int32) &&& 1 = 1).trans e1) (by rw [← e2]; exact hw)
    clear ej
    obtain ⟨g58_9, ej, hf⟩ := bL_e hf
    have R58_9 : ∀ (S_4 : pS) (H : Heap) (locs : List Loc) (ls : Array Slot), Wd Z s S_4 H locs → lv_has ls 2 [] → g58_9 S_4 = some (r, S2) → W p l e { frames := 13, cells := 0, slots := 0, locals := 288 } s m args below meth c H locs 0 0 Q (F0 m 58 ls []) := by
      intro S_4 H locs ls hw hl hf
      have hf := (congrFun ej S_4).symm.trans hf
      refine lv_iconst hx hb dX12_sumUp_58 ki_0 ?_
      obtain ⟨e1, e2⟩ := Prod.mk.inj (Option.some.inj hf)
      exact hret _ _ _ _ _ dX12_sumUp_59 ((by decide : (0 : Int32) &&& 1 = 0).trans e1) (by rw [← e2]; exact hw)
    clear ej
    obtain ⟨b9, eb, hf⟩ := bL_e hf
    have RL9 : ∀ (n : Nat) z, (Sum.elim (u1 g69_9) (u1 g58_9)) z = some (r, S2) → ∀ (S_5 : pS) (H : Heap) (locs : List Loc) (ls : Array Slot), Wd Z s S_5 H locs → lv_has ls 2 [(0, .ref (za Z 0))] → bPn b9 n S_5 = some z → W p l e { frames := 13, cells := 0, slots := 0, locals := 288 } s m args below meth c H locs 0 0 Q (F0 m 9 ls []) := by
      intro n
      induction n with
      | zero =>
        intro z hg S_5 H locs ls hw hl hz
        exact bPn_0 hz
      | succ n ih =>
        intro z hg S_5 H locs ls hw hl hz
        obtain ⟨q_6, hf, hz⟩ := bPn_e hz
        have hf := u1_e ((congrFun eb _).symm.trans hf)
        refine lv_aload_n hx hb dX12_sumUp_9 rfl (lv_at hl 0 rfl) ?_
        refine gI G hw (m_this hZ) KX12 18 (by decide) rfl fl_X12_212 dX12_sumUp_10 ?_
        refine lv_sipush hx hb dX12_sumUp_13 ks_143 ?_
        obtain ⟨j29, ej, hf⟩ := bL_e hf
        have R29 : ∀ (H : Heap) (locs : List Loc) (ls : Array Slot), Wd Z s S_5 H locs → lv_has ls 2 [(0, .ref (za Z 0))] → j29 () = some q_6 → W p l e { frames := 13, cells := 0, slots := 0, locals := 288 } s m args below meth c H locs 0 0 Q (F0 m 29 ls []) := by
          intro  H locs ls hw hl hf
          have hf := (congrFun ej ()).symm.trans hf
          refine lv_aload_n hx hb dX12_sumUp_29 rfl (lv_at hl 0 rfl) ?_
          refine gI G hw (m_this hZ) KX12 18 (by decide) rfl fl_X12_212 dX12_sumUp_30 ?_
          refine lv_sipush hx hb dX12_sumUp_33 ks_143 ?_
          obtain ⟨j46, ej, hf⟩ := bL_e hf
          have R46 : ∀ (t_7 : Int32) (H : Heap) (locs : List Loc) (ls : Array Slot), Wd Z s S_5 H locs → lv_has ls 2 [(0, .ref (za Z 0))] → j46 t_7 = some q_6 → W p l e { frames := 13, cells := 0, slots := 0, locals := 288 } s m args below meth c H locs 0 0 Q (F0 m 46 ls [.int t_7]) := by
            intro t_7 H locs ls hw hl hf
            have hf := (congrFun ej t_7).symm.trans hf
            refine lv_istore_n (lv' := [(1, .int t_7), (0, .ref (za Z 0))]) hx hb dX12_sumUp_46 rfl hl (by decide) rfl (fun ls hl => ?_)
            refine lv_aload_n hx hb dX12_sumUp_47 rfl (lv_at hl 1 rfl) ?_
            obtain ⟨S_8, hS_8, hf⟩ := bB_e hf
            refine kVv (rest := []) G hw (wX12_next0 hZ S_5 S_8 hS_8) cw_X12_236 (m_this hZ) KX12 ⟨Nat.le_of_ble_eq_true rfl, Nat.le_of_ble_eq_true rfl⟩ rfl hl.1 rfl (Nat.le_of_ble_eq_true rfl) ⟨Nat.le_refl _, Nat.le_refl _⟩ dX12_sumUp_48 (fun H locs hw => ?_)
            refine lv_aload_n hx hb dX12_sumUp_51 rfl (lv_at hl 1 rfl) ?_
            obtain ⟨r_9, S_10, hr_9, hf⟩ := bB2_e hf
            refine kVi (rest := []) G hw (wX12_product hZ S_8 r_9 S_10 hr_9) cw_X12_245 (m_this hZ) KX12 ⟨Nat.le_of_ble_eq_true rfl, Nat.le_of_ble_eq_true rfl⟩ rfl hl.1 rfl (Nat.le_of_ble_eq_true rfl) ⟨Nat.le_refl _, Nat.le_refl _⟩ dX12_sumUp_52 (fun H locs hw => ?_)
            refine lv_if_ne (tgt := 60) hx hb dX12_sumUp_55 (by decide) (fun c_12 => ?_) (fun c_12 => ?_)
            · have hf := (if_neg c_12).symm.trans hf
              refine lv_aload_n hx hb dX12_sumUp_60 rfl (lv_at hl 1 rfl) ?_
              refine lv_iload_n hx hb dX12_sumUp_61 rfl (lv_at hl 0 rfl) ?_
              refine lv_iconst hx hb dX12_sumUp_62 ki_0 ?_
              obtain ⟨S_11, hS_11, hf⟩ := bB_e hf
              refine kVv (rest := []) G hw (wX12_lay hZ S_10 t_7 0 S_11 hS_11) cw_X12_249 (m_this hZ) KX12 ⟨Nat.le_of_ble_eq_true rfl, Nat.le_of_ble_eq_true rfl⟩ rfl hl.1 rfl (Nat.le_of_ble_eq_true rfl) ⟨Nat.le_refl _, Nat.le_refl _⟩ dX12_sumUp_63 (fun H locs hw => ?_)
              refine lv_goto (tgt := 9) hx hb dX12_sumUp_66 (by decide) ?_
              obtain rfl := Option.some.inj hf
              exact ih _ hg _ _ _ _ hw (lv_sub hl [1] rfl) hz
            · have hf := (if_pos c_12).symm.trans hf
              obtain rfl := Option.some.inj hf
              obtain rfl := Option.some.inj (hz : some _ = some _)
              exact R58_9 _ _ _ _ hw (lv_sub hl [] rfl) hg
          clear ej
          refine lv_icmp_ne (tgt := 44) hx hb dX12_sumUp_36 (by decide) (fun c_13 => ?_) (fun c_13 => ?_)
          · have hf := (if_neg c_13).symm.trans hf
            refine lv_bipush hx hb dX12_sumUp_44 kb_24 ?_
            exact R46 _ _ _ _ hw (lv_sub hl [0] rfl) hf
          · have hf := (if_pos c_13).symm.trans hf
            refine lv_bipush hx hb dX12_sumUp_39 kb_23 ?_
            refine lv_goto (tgt := 46) hx hb dX12_sumUp_41 (by decide) ?_
            exact R46 _ _ _ _ hw (lv_sub hl [0] rfl) hf
        clear ej
        refine lv_icmp_eq (tgt := 29) hx hb dX12_sumUp_16 (by decide) (fun c_15 => ?_) (fun c_15 => ?_)
        · have hf := (if_pos c_15).symm.trans hf
          exact R29 _ _ _ hw (lv_sub hl [0] rfl) hf
        · have hf := (if_neg c_15).symm.trans hf
          refine lv_aload_n hx hb dX12_sumUp_19 rfl (lv_at hl 0 rfl) ?_
          refine gI G hw (m_this hZ) KX12 18 (by decide) rfl fl_X12_212 dX12_sumUp_20 ?_
          refine lv_sipush hx hb dX12_sumUp_23 ks_145 ?_
          refine lv_icmp_ne (tgt := 69) hx hb dX12_sumUp_26 (by decide) (fun c_14 => ?_) (fun c_14 => ?_)
          · have hf := (if_neg c_14).symm.trans hf
            obtain rfl := Option.some.inj hf
            obtain rfl := Option.some.inj (hz : some _ = some _)
            exact R69_9 _ _ _ _ hw (lv_sub hl [] rfl) hg
          · have hf := (if_pos c_14).symm.trans hf
            exact R29 _ _ _ hw (lv_sub hl [0] rfl) hf
    clear eb
    obtain ⟨z, hz, hf⟩ := bB_e hf
    obtain ⟨n, hz⟩ := bP_e hz
    exact RL9 n z hf _ _ _ _ hw (lv_sub hl [0] rfl) hz
  · have hf := (if_pos c_16).symm.trans hf
    refine lv_iconst hx hb dX12_sumUp_7 ki_0 ?_
    obtain ⟨e1, e2⟩ := Prod.mk.inj (Option.some.inj hf)
    exact hret _ _ _ _ _ dX12_sumUp_8 ((by decide : (0 : Int32) &&& 1 = 0).trans e1) (by rw [← e2]; exact hw)
noncomputable def B12_oneTest (rc_any : pS → Option (Int32 × pS)) (rc_oneTest : pS → Option (Int32 × pS)) (S : pS) : Option (Int32 × pS) :=
  if (S 0 18) = 6 then
    bB2 (F12_opens S) fun r_27 S_28 =>
    if r_27 = 0 then
      some ((0 : Int32), S_28)
    else
      bB2 (rc_oneTest S_28) fun r_29 S_30 =>
      if r_29 = 0 then
        some ((0 : Int32), S_30)
      else
        bL (sU S_30 0 24 ((S_30 0 24) - 1)) fun S_31 =>
        bB (F12_lay S_31 30 0) fun S_32 =>
        some ((1 : Int32), S_32)
  else
    if (S 0 18) = 140 then
      bB2 (F12_opens S) fun r_16 S_17 =>
      if r_16 = 0 then
        some ((0 : Int32), S_17)
      else
        bB2 (rc_any S_17) fun r_18 S_19 =>
        if r_18 = 0 then
          some ((0 : Int32), S_19)
        else
          bB2 (F12_need S_19 141) fun r_20 S_21 =>
          if r_20 = 0 then
            some ((0 : Int32), S_21)
          else
            bL (sU S_21 0 24 ((S_21 0 24) - 1)) fun S_22 =>
            some ((1 : Int32), S_22)
    else
      bB2 (F12_sumUp S) fun r_1 S_2 =>
      if r_1 = 0 then
        some ((0 : Int32), S_2)
      else
        bL (fun (t_3 : Int32) =>
          if t_3 = (-1) then
            bT2 (F12_bad S_2 1) fun r_9 S_10 =>
            some ((r_9 &&& 1), S_10)
          else
            bB (F12_next0 S_2) fun S_4 =>
            bB2 (F12_sumUp S_4) fun r_5 S_6 =>
            if r_5 = 0 then
              some ((0 : Int32), S_6)
            else
              bB (F12_lay S_6 t_3 0) fun S_7 =>
              some ((1 : Int32), S_7)) fun j147 =>
        if (S_2 0 18) = 160 then
          j147 27
        else
          if (S_2 0 18) = 161 then
            j147 28
          else
            if (S_2 0 18) = 162 then
              j147 29
            else
              j147 (-1)
noncomputable def B12_every (rc_oneTest : pS → Option (Int32 × pS)) (S : pS) : Option (Int32 × pS) :=
  bB2 (rc_oneTest S) fun r_1 S_2 =>
  if r_1 = 0 then
    some ((0 : Int32), S_2)
  else
    bL (fun (S_3 : pS) =>
      some ((1 : Int32), S_3)) fun g40_9 =>
    bL (fun (S_4 : pS) =>
      some ((0 : Int32), S_4)) fun g28_9 =>
    bL (u1 fun (S_5 : pS) =>
      if (S_5 0 18) = 5 then
        bB (F12_next0 S_5) fun S_7 =>
        bB2 (rc_oneTest S_7) fun r_8 S_9 =>
        if r_8 = 0 then
          some (.inr (.inr S_9))
        else
          bB (F12_lay S_9 31 0) fun S_10 =>
          some (.inl S_10)
      else
        some (.inr (.inl S_5))) fun b9 =>
    bB (bP b9 S_2) (Sum.elim (u1 g40_9) (u1 g28_9))
noncomputable def B12_any (rc_every : pS → Option (Int32 × pS)) (S : pS) : Option (Int32 × pS) :=
  bB2 (rc_every S) fun r_1 S_2 =>
  if r_1 = 0 then
    some ((0 : Int32), S_2)
  else
    bL (fun (S_3 : pS) =>
      some ((1 : Int32), S_3)) fun g40_9 =>
    bL (fun (S_4 : pS) =>
      some ((0 : Int32), S_4)) fun g28_9 =>
    bL (u1 fun (S_5 : pS) =>
      if (S_5 0 18) = 4 then
        bB (F12_next0 S_5) fun S_7 =>
        bB2 (rc_every S_7) fun r_8 S_9 =>
        if r_8 = 0 then
          some (.inr (.inr S_9))
        else
          bB (F12_lay S_9 32 0) fun S_10 =>
          some (.inl S_10)
      else
        some (.inr (.inl S_5))) fun b9 =>
    bB (bP b9 S_2) (Sum.elim (u1 g40_9) (u1 g28_9))
noncomputable def T12_oneTest : Nat → (pS → Option (Int32 × pS)) × (pS → Option (Int32 × pS)) × (pS → Option (Int32 × pS))
  | 0 => (fun _ => none, fun _ => none, fun _ => none)
  | d + 1 => (B12_oneTest ((T12_oneTest d).2.2) ((T12_oneTest d).1), B12_every ((T12_oneTest d).1), B12_any ((T12_oneTest d).2.1))
noncomputable def F12_oneTest (S : pS) : Option (Int32 × pS) := (T12_oneTest 40).1 S
noncomputable def F12_every (S : pS) : Option (Int32 × pS) := (T12_oneTest 40).2.1 S
noncomputable def F12_any (S : pS) : Option (Int32 × pS) := (T12_oneTest 40).2.2 S
set_option maxRecDepth 100000 in
set_option maxHeartbeats 4000000 in
theorem wBX12_oneTest {l : Launch} {Z : pZ} {fr lo : Nat} (hfr : 14 ≤ fr) (hlo : 309 ≤ lo) {rc_any : pS → Option (Int32 × pS)} {rc_oneTest : pS → Option (Int32 × pS)} (hr_any : ∀ (S : pS)  (r : Int32) (S2 : pS), rc_any S = some (r, S2) → CI l Z yX12_any cX12_any 1 .boolean fr lo [.ref (za Z 0)] S r S2) (hr_oneTest : ∀ (S : pS)  (r : Int32) (S2 : pS), rc_oneTest S = some (r, S2) → CI l Z yX12_oneTest cX12_oneTest 2 .boolean fr lo [.ref (za Z 0)] S r S2) (hZ : CM Z) (S : pS)  (r : Int32) (S2 : pS)  (hf : B12_oneTest rc_any rc_oneTest S = some (r, S2)) : CI l Z yX12_oneTest cX12_oneTest 2 .boolean (fr + 1) (lo + 60) [.ref (za Z 0)] S r S2 := by
  unfold B12_oneTest at hf
  refine eZ (own := RX12) (by decide) rfl (Nat.le_of_ble_eq_true rfl) (fun p e s m args below meth c Q ls G hl hw hret => ?_)
  obtain ⟨hx, hb, hml, hown, hts⟩ := G.1
  have hl : lv_has ls 2 [(0, .ref (za Z 0))] := hl
  refine lv_aload_n hx hb dX12_oneTest_0 rfl (lv_at hl 0 rfl) ?_
  refine gI G hw (m_this hZ) KX12 18 (by decide) rfl fl_X12_212 dX12_oneTest_1 ?_
  refine lv_bipush hx hb dX12_oneTest_4 kb_6 ?_
  refine lv_icmp_ne (tgt := 44) hx hb dX12_oneTest_6 (by decide) (fun c_35 => ?_) (fun c_35 => ?_)
  · have hf := (if_neg c_35).symm.trans hf
    refine lv_aload_n hx hb dX12_oneTest_44 rfl (lv_at hl 0 rfl) ?_
    refine gI G hw (m_this hZ) KX12 18 (by decide) rfl fl_X12_212 dX12_oneTest_45 ?_
    refine lv_sipush hx hb dX12_oneTest_48 ks_140 ?_
    refine lv_icmp_ne (tgt := 92) hx hb dX12_oneTest_51 (by decide) (fun c_26 => ?_) (fun c_26 => ?_)
    · have hf := (if_neg c_26).symm.trans hf
      refine lv_aload_n hx hb dX12_oneTest_92 rfl (lv_at hl 0 rfl) ?_
      obtain ⟨r_1, S_2, hr_1, hf⟩ := bB2_e hf
      refine kVi (rest := []) G hw (wX12_sumUp hZ S r_1 S_2 hr_1) cw_X12_271 (m_this hZ) KX12 ⟨by dsimp only; omega, by dsimp only; omega⟩ rfl hl.1 rfl (Nat.le_of_ble_eq_true rfl) ⟨Nat.le_refl _, Nat.le_refl _⟩ dX12_oneTest_93 (fun H locs hw => ?_)
      refine lv_if_ne (tgt := 101) hx hb dX12_oneTest_96 (by decide) (fun c_15 => ?_) (fun c_15 => ?_)
      · have hf := (if_neg c_15).symm.trans hf
        refine lv_aload_n hx hb dX12_oneTest_101 rfl (lv_at hl 0 rfl) ?_
        refine gI G hw (m_this hZ) KX12 18 (by decide) rfl fl_X12_212 dX12_oneTest_102 ?_
        refine lv_sipush hx hb dX12_oneTest_105 ks_160 ?_
        obtain ⟨j147, ej, hf⟩ := bL_e hf
        have R147 : ∀ (t_3 : Int32) (H : Heap) (locs : List Loc) (ls : Array Slot), Wd Z s S_2 H locs → lv_has ls 2 [(0, .ref (za Z 0))] → j147 t_3 = some (r, S2) → W p l e { frames := (fr + 1), cells := 0, slots := 0, locals := (lo + 60) } s m args below meth c H locs 0 0 Q (F0 m 147 ls [.int t_3]) := by
          intro t_3 H locs ls hw hl hf
          have hf := (congrFun ej t_3).symm.trans hf
          refine lv_istore_n (lv' := [(1, .int t_3), (0, .ref (za Z 0))]) hx hb dX12_oneTest_147 rfl hl (by decide) rfl (fun ls hl => ?_)
          refine lv_iload_n hx hb dX12_oneTest_148 rfl (lv_at hl 0 rfl) ?_
          refine lv_iconst hx hb dX12_oneTest_149 ki_m1 ?_
          refine lv_icmp_ne (tgt := 159) hx hb dX12_oneTest_150 (by decide) (fun c_11 => ?_) (fun c_11 => ?_)
          · have hf := (if_neg c_11).symm.trans hf
            refine lv_aload_n hx hb dX12_oneTest_159 rfl (lv_at hl 1 rfl) ?_
            obtain ⟨S_4, hS_4, hf⟩ := bB_e hf
            refine kVv (rest := []) G hw (wX12_next0 hZ S_2 S_4 hS_4) cw_X12_236 (m_this hZ) KX12 ⟨by dsimp only; omega, by dsimp only; omega⟩ rfl hl.1 rfl (Nat.le_of_ble_eq_true rfl) ⟨Nat.le_refl _, Nat.le_refl _⟩ dX12_oneTest_160 (fun H locs hw => ?_)
            refine lv_aload_n hx hb dX12_oneTest_163 rfl (lv_at hl 1 rfl) ?_
            obtain ⟨r_5, S_6, hr_5, hf⟩ := bB2_e hf
            refine kVi (rest := []) G hw (wX12_sumUp hZ S_4 r_5 S_6 hr_5) cw_X12_271 (m_this hZ) KX12 ⟨by dsimp only; omega, by dsimp only; omega⟩ rfl hl.1 rfl (Nat.le_of_ble_eq_true rfl) ⟨Nat.le_refl _, Nat.le_refl _⟩ dX12_oneTest_164 (fun H locs hw => ?_)
            refine lv_if_ne (tgt := 172) hx hb dX12_oneTest_167 (by decide) (fun c_8 => ?_) (fun c_8 => ?_)
            · have hf := (if_neg c_8).symm.trans hf
              refine lv_aload_n hx hb dX12_oneTest_172 rfl (lv_at hl 1 rfl) ?_
              refine lv_iload_n hx hb dX12_oneTest_173 rfl (lv_at hl 0 rfl) ?_
              refine lv_iconst hx hb dX12_oneTest_174 ki_0 ?_
              obtain ⟨S_7, hS_7, hf⟩ := bB_e hf
              refine kVv (rest := []) G hw (wX12_lay hZ S_6 t_3 0 S_7 hS_7) cw_X12_249 (m_this hZ) KX12 ⟨by dsimp only; omega, by dsimp only; omega⟩ rfl hl.1 rfl (Nat.le_of_ble_eq_true rfl) ⟨Nat.le_refl _, Nat.le_refl _⟩ dX12_oneTest_175 (fun H locs hw => ?_)
              refine lv_iconst hx hb dX12_oneTest_178 ki_1 ?_
              obtain ⟨e1, e2⟩ := Prod.mk.inj (Option.some.inj hf)
              exact hret _ _ _ _ _ dX12_oneTest_179 ((by decide : (1 : Int32) &&& 1 = 1).trans e1) (by rw [← e2]; exact hw)
            · have hf := (if_pos c_8).symm.trans hf
              refine lv_iconst hx hb dX12_oneTest_170 ki_0 ?_
              obtain ⟨e1, e2⟩ := Prod.mk.inj (Option.some.inj hf)
              exact hret _ _ _ _ _ dX12_oneTest_171 ((by decide : (0 : Int32) &&& 1 = 0).trans e1) (by rw [← e2]; exact hw)
          · have hf := (if_pos c_11).symm.trans hf
            refine lv_aload_n hx hb dX12_oneTest_153 rfl (lv_at hl 1 rfl) ?_
            refine lv_iconst hx hb dX12_oneTest_154 ki_1 ?_
            obtain ⟨r_9, S_10, hr_9, hf⟩ := bT2_e hf
            refine kVi (rest := []) G hw (wX12_bad hZ S_2 1 r_9 S_10 hr_9) cw_X12_233 (m_this hZ) KX12 ⟨by dsimp only; omega, by dsimp only; omega⟩ rfl hl.1 rfl (Nat.le_of_ble_eq_true rfl) ⟨Nat.le_refl _, Nat.le_refl _⟩ dX12_oneTest_155 (fun H locs hw => ?_)
            obtain ⟨e1, e2⟩ := Prod.mk.inj (Option.some.inj hf)
            exact hret _ _ _ _ _ dX12_oneTest_158 e1 (by rw [← e2]; exact hw)
        clear ej
        refine lv_icmp_ne (tgt := 116) hx hb dX12_oneTest_108 (by decide) (fun c_14 => ?_) (fun c_14 => ?_)
        · have hf := (if_neg c_14).symm.trans hf
          refine lv_aload_n hx hb dX12_oneTest_116 rfl (lv_at hl 0 rfl) ?_
          refine gI G hw (m_this hZ) KX12 18 (by decide) rfl fl_X12_212 dX12_oneTest_117 ?_
          refine lv_sipush hx hb dX12_oneTest_120 ks_161 ?_
          refine lv_icmp_ne (tgt := 131) hx hb dX12_oneTest_123 (by decide) (fun c_13 => ?_) (fun c_13 => ?_)
          · have hf := (if_neg c_13).symm.trans hf
            refine lv_aload_n hx hb dX12_oneTest_131 rfl (lv_at hl 0 rfl) ?_
            refine gI G hw (m_this hZ) KX12 18 (by decide) rfl fl_X12_212 dX12_oneTest_132 ?_
            refine lv_sipush hx hb dX12_oneTest_135 ks_162 ?_
            refine lv_icmp_ne (tgt := 146) hx hb dX12_oneTest_138 (by decide) (fun c_12 => ?_) (fun c_12 => ?_)
            · have hf := (if_neg c_12).symm.trans hf
              refine lv_iconst hx hb dX12_oneTest_146 ki_m1 ?_
              exact R147 _ _ _ _ hw (lv_sub hl [0] rfl) hf
            · have hf := (if_pos c_12).symm.trans hf
              refine lv_bipush hx hb dX12_oneTest_141 kb_29 ?_
              refine lv_goto (tgt := 147) hx hb dX12_oneTest_143 (by decide) ?_
              exact R147 _ _ _ _ hw (lv_sub hl [0] rfl) hf
          · have hf := (if_pos c_13).symm.trans hf
            refine lv_bipush hx hb dX12_oneTest_126 kb_28 ?_
            refine lv_goto (tgt := 147) hx hb dX12_oneTest_128 (by decide) ?_
            exact R147 _ _ _ _ hw (lv_sub hl [0] rfl) hf
        · have hf := (if_pos c_14).symm.trans hf
          refine lv_bipush hx hb dX12_oneTest_111 kb_27 ?_
          refine lv_goto (tgt := 147) hx hb dX12_oneTest_113 (by decide) ?_
          exact R147 _ _ _ _ hw (lv_sub hl [0] rfl) hf
      · have hf := (if_pos c_15).symm.trans hf
        refine lv_iconst hx hb dX12_oneTest_99 ki_0 ?_
        obtain ⟨e1, e2⟩ := Prod.mk.inj (Option.some.inj hf)
        exact hret _ _ _ _ _ dX12_oneTest_100 ((by decide : (0 : Int32) &&& 1 = 0).trans e1) (by rw [← e2]; exact hw)
    · have hf := (if_pos c_26).symm.trans hf
      refine lv_aload_n hx hb dX12_oneTest_54 rfl (lv_at hl 0 rfl) ?_
      obtain ⟨r_16, S_17, hr_16, hf⟩ := bB2_e hf
      refine kVi (rest := []) G hw (wX12_opens hZ S r_16 S_17 hr_16) cw_X12_262 (m_this hZ) KX12 ⟨by dsimp only; omega, by dsimp only; omega⟩ rfl hl.1 rfl (Nat.le_of_ble_eq_true rfl) ⟨Nat.le_refl _, Nat.le_refl _⟩ dX12_oneTest_55 (fun H locs hw => ?_)
      refine lv_if_eq (tgt := 78) hx hb dX12_oneTest_58 (by decide) (fun c_25 => ?_) (fun c_25 => ?_)
      · have hf := (if_pos c_25).symm.trans hf
        refine lv_iconst hx hb dX12_oneTest_78 ki_0 ?_
        obtain ⟨e1, e2⟩ := Prod.mk.inj (Option.some.inj hf)
        exact hret _ _ _ _ _ dX12_oneTest_79 ((by decide : (0 : Int32) &&& 1 = 0).trans e1) (by rw [← e2]; exact hw)
      · have hf := (if_neg c_25).symm.trans hf
        refine lv_aload_n hx hb dX12_oneTest_61 rfl (lv_at hl 0 rfl) ?_
        obtain ⟨r_18, S_19, hr_18, hf⟩ := bB2_e hf
        refine kVi (rest := []) G hw (hr_any S_17 r_18 S_19 hr_18) cw_X12_265 (m_this hZ) KX12 ⟨by dsimp only; omega, by dsimp only; omega⟩ rfl hl.1 rfl (Nat.le_of_ble_eq_true rfl) ⟨Nat.le_refl _, Nat.le_refl _⟩ dX12_oneTest_62 (fun H locs hw => ?_)
        refine lv_if_eq (tgt := 78) hx hb dX12_oneTest_65 (by decide) (fun c_24 => ?_) (fun c_24 => ?_)
        · have hf := (if_pos c_24).symm.trans hf
          refine lv_iconst hx hb dX12_oneTest_78 ki_0 ?_
          obtain ⟨e1, e2⟩ := Prod.mk.inj (Option.some.inj hf)
          exact hret _ _ _ _ _ dX12_oneTest_79 ((by decide : (0 : Int32) &&& 1 = 0).trans e1) (by rw [← e2]; exact hw)
        · have hf := (if_neg c_24).symm.trans hf
          refine lv_aload_n hx hb dX12_oneTest_68 rfl (lv_at hl 0 rfl) ?_
          refine lv_sipush hx hb dX12_oneTest_69 ks_141 ?_
          obtain ⟨r_20, S_21, hr_20, hf⟩ := bB2_e hf
          refine kVi (rest := []) G hw (wX12_need hZ S_19 141 r_20 S_21 hr_20) cw_X12_268 (m_this hZ) KX12 ⟨by dsimp only; omega, by dsimp only; omega⟩ rfl hl.1 rfl (Nat.le_of_ble_eq_true rfl) ⟨Nat.le_refl _, Nat.le_refl _⟩ dX12_oneTest_72 (fun H locs hw => ?_)
          refine lv_if_ne (tgt := 80) hx hb dX12_oneTest_75 (by decide) (fun c_23 => ?_) (fun c_23 => ?_)
          · have hf := (if_neg c_23).symm.trans hf
            refine lv_aload_n hx hb dX12_oneTest_80 rfl (lv_at hl 0 rfl) ?_
            refine lv_dup hx hb dX12_oneTest_81 rfl ?_
            refine gI G hw (m_this hZ) KX12 24 (by decide) rfl fl_X12_242 dX12_oneTest_82 ?_
            refine lv_iconst hx hb dX12_oneTest_85 ki_1 ?_
            refine lv_isub hx hb dX12_oneTest_86 ?_
            obtain ⟨S_22, eS_22, hf⟩ := bL_e hf
            refine pI G hw (m_this hZ) KX12 24 (by decide) rfl rfl rfl eS_22 fl_X12_242 dX12_oneTest_87 (fun H locs hw => ?_)
            refine lv_iconst hx hb dX12_oneTest_90 ki_1 ?_
            obtain ⟨e1, e2⟩ := Prod.mk.inj (Option.some.inj hf)
            exact hret _ _ _ _ _ dX12_oneTest_91 ((by decide : (1 : Int32) &&& 1 = 1).trans e1) (by rw [← e2]; exact hw)
          · have hf := (if_pos c_23).symm.trans hf
            refine lv_iconst hx hb dX12_oneTest_78 ki_0 ?_
            obtain ⟨e1, e2⟩ := Prod.mk.inj (Option.some.inj hf)
            exact hret _ _ _ _ _ dX12_oneTest_79 ((by decide : (0 : Int32) &&& 1 = 0).trans e1) (by rw [← e2]; exact hw)
  · have hf := (if_pos c_35).symm.trans hf
    refine lv_aload_n hx hb dX12_oneTest_9 rfl (lv_at hl 0 rfl) ?_
    obtain ⟨r_27, S_28, hr_27, hf⟩ := bB2_e hf
    refine kVi (rest := []) G hw (wX12_opens hZ S r_27 S_28 hr_27) cw_X12_262 (m_this hZ) KX12 ⟨by dsimp only; omega, by dsimp only; omega⟩ rfl hl.1 rfl (Nat.le_of_ble_eq_true rfl) ⟨Nat.le_refl _, Nat.le_refl _⟩ dX12_oneTest_10 (fun H locs hw => ?_)
    refine lv_if_eq (tgt := 23) hx hb dX12_oneTest_13 (by decide) (fun c_34 => ?_) (fun c_34 => ?_)
    · have hf := (if_pos c_34).symm.trans hf
      refine lv_iconst hx hb dX12_oneTest_23 ki_0 ?_
      obtain ⟨e1, e2⟩ := Prod.mk.inj (Option.some.inj hf)
      exact hret _ _ _ _ _ dX12_oneTest_24 ((by decide : (0 : Int32) &&& 1 = 0).trans e1) (by rw [← e2]; exact hw)
    · have hf := (if_neg c_34).symm.trans hf
      refine lv_aload_n hx hb dX12_oneTest_16 rfl (lv_at hl 0 rfl) ?_
      obtain ⟨r_29, S_30, hr_29, hf⟩ := bB2_e hf
      refine kVi (rest := []) G hw (hr_oneTest S_28 r_29 S_30 hr_29) cw_X12_259 (m_this hZ) KX12 ⟨by dsimp only; omega, by dsimp only; omega⟩ rfl hl.1 rfl (Nat.le_of_ble_eq_true rfl) ⟨Nat.le_refl _, Nat.le_refl _⟩ dX12_oneTest_17 (fun H locs hw => ?_)
      refine lv_if_ne (tgt := 25) hx hb dX12_oneTest_20 (by decide) (fun c_33 => ?_) (fun c_33 => ?_)
      · have hf := (if_neg c_33).symm.trans hf
        refine lv_aload_n hx hb dX12_oneTest_25 rfl (lv_at hl 0 rfl) ?_
        refine lv_dup hx hb dX12_oneTest_26 rfl ?_
        refine gI G hw (m_this hZ) KX12 24 (by decide) rfl fl_X12_242 dX12_oneTest_27 ?_
        refine lv_iconst hx hb dX12_oneTest_30 ki_1 ?_
        refine lv_isub hx hb dX12_oneTest_31 ?_
        obtain ⟨S_31, eS_31, hf⟩ := bL_e hf
        refine pI G hw (m_this hZ) KX12 24 (by decide) rfl rfl rfl eS_31 fl_X12_242 dX12_oneTest_32 (fun H locs hw => ?_)
        refine lv_aload_n hx hb dX12_oneTest_35 rfl (lv_at hl 0 rfl) ?_
        refine lv_bipush hx hb dX12_oneTest_36 kb_30 ?_
        refine lv_iconst hx hb dX12_oneTest_38 ki_0 ?_
        obtain ⟨S_32, hS_32, hf⟩ := bB_e hf
        refine kVv (rest := []) G hw (wX12_lay hZ S_31 30 0 S_32 hS_32) cw_X12_249 (m_this hZ) KX12 ⟨by dsimp only; omega, by dsimp only; omega⟩ rfl hl.1 rfl (Nat.le_of_ble_eq_true rfl) ⟨Nat.le_refl _, Nat.le_refl _⟩ dX12_oneTest_39 (fun H locs hw => ?_)
        refine lv_iconst hx hb dX12_oneTest_42 ki_1 ?_
        obtain ⟨e1, e2⟩ := Prod.mk.inj (Option.some.inj hf)
        exact hret _ _ _ _ _ dX12_oneTest_43 ((by decide : (1 : Int32) &&& 1 = 1).trans e1) (by rw [← e2]; exact hw)
      · have hf := (if_pos c_33).symm.trans hf
        refine lv_iconst hx hb dX12_oneTest_23 ki_0 ?_
        obtain ⟨e1, e2⟩ := Prod.mk.inj (Option.some.inj hf)
        exact hret _ _ _ _ _ dX12_oneTest_24 ((by decide : (0 : Int32) &&& 1 = 0).trans e1) (by rw [← e2]; exact hw)
set_option maxRecDepth 100000 in
set_option maxHeartbeats 4000000 in
theorem wBX12_every {l : Launch} {Z : pZ} {fr lo : Nat} (hfr : 11 ≤ fr) (hlo : 245 ≤ lo) {rc_oneTest : pS → Option (Int32 × pS)} (hr_oneTest : ∀ (S : pS)  (r : Int32) (S2 : pS), rc_oneTest S = some (r, S2) → CI l Z yX12_oneTest cX12_oneTest 2 .boolean fr lo [.ref (za Z 0)] S r S2) (hZ : CM Z) (S : pS)  (r : Int32) (S2 : pS)  (hf : B12_every rc_oneTest S = some (r, S2)) : CI l Z yX12_every cX12_every 1 .boolean (fr + 1) (lo + 60) [.ref (za Z 0)] S r S2 := by
  unfold B12_every at hf
  refine eZ (own := RX12) (by decide) rfl (Nat.le_of_ble_eq_true rfl) (fun p e s m args below meth c Q ls G hl hw hret => ?_)
  obtain ⟨hx, hb, hml, hown, hts⟩ := G.1
  have hl : lv_has ls 1 [(0, .ref (za Z 0))] := hl
  refine lv_aload_n hx hb dX12_every_0 rfl (lv_at hl 0 rfl) ?_
  obtain ⟨r_1, S_2, hr_1, hf⟩ := bB2_e hf
  refine kVi (rest := []) G hw (hr_oneTest S r_1 S_2 hr_1) cw_X12_259 (m_this hZ) KX12 ⟨by dsimp only; omega, by dsimp only; omega⟩ rfl hl.1 rfl (Nat.le_of_ble_eq_true rfl) ⟨Nat.le_refl _, Nat.le_refl _⟩ dX12_every_1 (fun H locs hw => ?_)
  refine lv_if_ne (tgt := 9) hx hb dX12_every_4 (by decide) (fun c_13 => ?_) (fun c_13 => ?_)
  · have hf := (if_neg c_13).symm.trans hf
    obtain ⟨g40_9, ej, hf⟩ := bL_e hf
    have R40_9 : ∀ (S_3 : pS) (H : Heap) (locs : List Loc) (ls : Array Slot), Wd Z s S_3 H locs → lv_has ls 1 [] → g40_9 S_3 = some (r, S2) → W p l e { frames := (fr + 1), cells := 0, slots := 0, locals := (lo + 60) } s m args below meth c H locs 0 0 Q (F0 m 40 ls []) := by
      intro S_3 H locs ls hw hl hf
      have hf := (congrFun ej S_3).symm.trans hf
      refine lv_iconst hx hb dX12_every_40 ki_1 ?_
      obtain ⟨e1, e2⟩ := Prod.mk.inj (Option.some.inj hf)
      exact hret _ _ _ _ _ dX12_every_41 ((by decide : (1 : Int32) &&& 1 = 1).trans e1) (by rw [← e2]; exact hw)
    clear ej
    obtain ⟨g28_9, ej, hf⟩ := bL_e hf
    have R28_9 : ∀ (S_4 : pS) (H : Heap) (locs : List Loc) (ls : Array Slot), Wd Z s S_4 H locs → lv_has ls 1 [] → g28_9 S_4 = some (r, S2) → W p l e { frames := (fr + 1), cells := 0, slots := 0, locals := (lo + 60) } s m args below meth c H locs 0 0 Q (F0 m 28 ls []) := by
      intro S_4 H locs ls hw hl hf
      have hf := (congrFun ej S_4).symm.trans hf
      refine lv_iconst hx hb dX12_every_28 ki_0 ?_
      obtain ⟨e1, e2⟩ := Prod.mk.inj (Option.some.inj hf)
      exact hret _ _ _ _ _ dX12_every_29 ((by decide : (0 : Int32) &&& 1 = 0).trans e1) (by rw [← e2]; exact hw)
    clear ej
    obtain ⟨b9, eb, hf⟩ := bL_e hf
    have RL9 : ∀ (n : Nat) z, (Sum.elim (u1 g40_9) (u1 g28_9)) z = some (r, S2) → ∀ (S_5 : pS) (H : Heap) (locs : List Loc) (ls : Array Slot), Wd Z s S_5 H locs → lv_has ls 1 [(0, .ref (za Z 0))] → bPn b9 n S_5 = some z → W p l e { frames := (fr + 1), cells := 0, slots := 0, locals := (lo + 60) } s m args below meth c H locs 0 0 Q (F0 m 9 ls []) := by
      intro n
      induction n with
      | zero =>
        intro z hg S_5 H locs ls hw hl hz
        exact bPn_0 hz
      | succ n ih =>
        intro z hg S_5 H locs ls hw hl hz
        obtain ⟨q_6, hf, hz⟩ := bPn_e hz
        have hf := u1_e ((congrFun eb _).symm.trans hf)
        refine lv_aload_n hx hb dX12_every_9 rfl (lv_at hl 0 rfl) ?_
        refine gI G hw (m_this hZ) KX12 18 (by decide) rfl fl_X12_212 dX12_every_10 ?_
        refine lv_iconst hx hb dX12_every_13 ki_5 ?_
        refine lv_icmp_ne (tgt := 40) hx hb dX12_every_14 (by decide) (fun c_12 => ?_) (fun c_12 => ?_)
        · have hf := (if_neg c_12).symm.trans hf
          obtain rfl := Option.some.inj hf
          obtain rfl := Option.some.inj (hz : some _ = some _)
          exact R40_9 _ _ _ _ hw (lv_sub hl [] rfl) hg
        · have hf := (if_pos c_12).symm.trans hf
          refine lv_aload_n hx hb dX12_every_17 rfl (lv_at hl 0 rfl) ?_
          obtain ⟨S_7, hS_7, hf⟩ := bB_e hf
          refine kVv (rest := []) G hw (wX12_next0 hZ S_5 S_7 hS_7) cw_X12_236 (m_this hZ) KX12 ⟨by dsimp only; omega, by dsimp only; omega⟩ rfl hl.1 rfl (Nat.le_of_ble_eq_true rfl) ⟨Nat.le_refl _, Nat.le_refl _⟩ dX12_every_18 (fun H locs hw => ?_)
          refine lv_aload_n hx hb dX12_every_21 rfl (lv_at hl 0 rfl) ?_
          obtain ⟨r_8, S_9, hr_8, hf⟩ := bB2_e hf
          refine kVi (rest := []) G hw (hr_oneTest S_7 r_8 S_9 hr_8) cw_X12_259 (m_this hZ) KX12 ⟨by dsimp only; omega, by dsimp only; omega⟩ rfl hl.1 rfl (Nat.le_of_ble_eq_true rfl) ⟨Nat.le_refl _, Nat.le_refl _⟩ dX12_every_22 (fun H locs hw => ?_)
          refine lv_if_ne (tgt := 30) hx hb dX12_every_25 (by decide) (fun c_11 => ?_) (fun c_11 => ?_)
          · have hf := (if_neg c_11).symm.trans hf
            refine lv_aload_n hx hb dX12_every_30 rfl (lv_at hl 0 rfl) ?_
            refine lv_bipush hx hb dX12_every_31 kb_31 ?_
            refine lv_iconst hx hb dX12_every_33 ki_0 ?_
            obtain ⟨S_10, hS_10, hf⟩ := bB_e hf
            refine kVv (rest := []) G hw (wX12_lay hZ S_9 31 0 S_10 hS_10) cw_X12_249 (m_this hZ) KX12 ⟨by dsimp only; omega, by dsimp only; omega⟩ rfl hl.1 rfl (Nat.le_of_ble_eq_true rfl) ⟨Nat.le_refl _, Nat.le_refl _⟩ dX12_every_34 (fun H locs hw => ?_)
            refine lv_goto (tgt := 9) hx hb dX12_every_37 (by decide) ?_
            obtain rfl := Option.some.inj hf
            exact ih _ hg _ _ _ _ hw (lv_sub hl [0] rfl) hz
          · have hf := (if_pos c_11).symm.trans hf
            obtain rfl := Option.some.inj hf
            obtain rfl := Option.some.inj (hz : some _ = some _)
            exact R28_9 _ _ _ _ hw (lv_sub hl [] rfl) hg
    clear eb
    obtain ⟨z, hz, hf⟩ := bB_e hf
    obtain ⟨n, hz⟩ := bP_e hz
    exact RL9 n z hf _ _ _ _ hw (lv_sub hl [0] rfl) hz
  · have hf := (if_pos c_13).symm.trans hf
    refine lv_iconst hx hb dX12_every_7 ki_0 ?_
    obtain ⟨e1, e2⟩ := Prod.mk.inj (Option.some.inj hf)
    exact hret _ _ _ _ _ dX12_every_8 ((by decide : (0 : Int32) &&& 1 = 0).trans e1) (by rw [← e2]; exact hw)
set_option maxRecDepth 100000 in
set_option maxHeartbeats 4000000 in
theorem wBX12_any {l : Launch} {Z : pZ} {fr lo : Nat} (hfr : 11 ≤ fr) (hlo : 245 ≤ lo) {rc_every : pS → Option (Int32 × pS)} (hr_every : ∀ (S : pS)  (r : Int32) (S2 : pS), rc_every S = some (r, S2) → CI l Z yX12_every cX12_every 1 .boolean fr lo [.ref (za Z 0)] S r S2) (hZ : CM Z) (S : pS)  (r : Int32) (S2 : pS)  (hf : B12_any rc_every S = some (r, S2)) : CI l Z yX12_any cX12_any 1 .boolean (fr + 1) (lo + 60) [.ref (za Z 0)] S r S2 := by
  unfold B12_any at hf
  refine eZ (own := RX12) (by decide) rfl (Nat.le_of_ble_eq_true rfl) (fun p e s m args below meth c Q ls G hl hw hret => ?_)
  obtain ⟨hx, hb, hml, hown, hts⟩ := G.1
  have hl : lv_has ls 1 [(0, .ref (za Z 0))] := hl
  refine lv_aload_n hx hb dX12_any_0 rfl (lv_at hl 0 rfl) ?_
  obtain ⟨r_1, S_2, hr_1, hf⟩ := bB2_e hf
  refine kVi (rest := []) G hw (hr_every S r_1 S_2 hr_1) cw_X12_256 (m_this hZ) KX12 ⟨by dsimp only; omega, by dsimp only; omega⟩ rfl hl.1 rfl (Nat.le_of_ble_eq_true rfl) ⟨Nat.le_refl _, Nat.le_refl _⟩ dX12_any_1 (fun H locs hw => ?_)
  refine lv_if_ne (tgt := 9) hx hb dX12_any_4 (by decide) (fun c_13 => ?_) (fun c_13 => ?_)
  · have hf := (if_neg c_13).symm.trans hf
    obtain ⟨g40_9, ej, hf⟩ := bL_e hf
    have R40_9 : ∀ (S_3 : pS) (H : Heap) (locs : List Loc) (ls : Array Slot), Wd Z s S_3 H locs → lv_has ls 1 [] → g40_9 S_3 = some (r, S2) → W p l e { frames := (fr + 1), cells := 0, slots := 0, locals := (lo + 60) } s m args below meth c H locs 0 0 Q (F0 m 40 ls []) := by
      intro S_3 H locs ls hw hl hf
      have hf := (congrFun ej S_3).symm.trans hf
      refine lv_iconst hx hb dX12_any_40 ki_1 ?_
      obtain ⟨e1, e2⟩ := Prod.mk.inj (Option.some.inj hf)
      exact hret _ _ _ _ _ dX12_any_41 ((by decide : (1 : Int32) &&& 1 = 1).trans e1) (by rw [← e2]; exact hw)
    clear ej
    obtain ⟨g28_9, ej, hf⟩ := bL_e hf
    have R28_9 : ∀ (S_4 : pS) (H : Heap) (locs : List Loc) (ls : Array Slot), Wd Z s S_4 H locs → lv_has ls 1 [] → g28_9 S_4 = some (r, S2) → W p l e { frames := (fr + 1), cells := 0, slots := 0, locals := (lo + 60) } s m args below meth c H locs 0 0 Q (F0 m 28 ls []) := by
      intro S_4 H locs ls hw hl hf
      have hf := (congrFun ej S_4).symm.trans hf
      refine lv_iconst hx hb dX12_any_28 ki_0 ?_
      obtain ⟨e1, e2⟩ := Prod.mk.inj (Option.some.inj hf)
      exact hret _ _ _ _ _ dX12_any_29 ((by decide : (0 : Int32) &&& 1 = 0).trans e1) (by rw [← e2]; exact hw)
    clear ej
    obtain ⟨b9, eb, hf⟩ := bL_e hf
    have RL9 : ∀ (n : Nat) z, (Sum.elim (u1 g40_9) (u1 g28_9)) z = some (r, S2) → ∀ (S_5 : pS) (H : Heap) (locs : List Loc) (ls : Array Slot), Wd Z s S_5 H locs → lv_has ls 1 [(0, .ref (za Z 0))] → bPn b9 n S_5 = some z → W p l e { frames := (fr + 1), cells := 0, slots := 0, locals := (lo + 60) } s m args below meth c H locs 0 0 Q (F0 m 9 ls []) := by
      intro n
      induction n with
      | zero =>
        intro z hg S_5 H locs ls hw hl hz
        exact bPn_0 hz
      | succ n ih =>
        intro z hg S_5 H locs ls hw hl hz
        obtain ⟨q_6, hf, hz⟩ := bPn_e hz
        have hf := u1_e ((congrFun eb _).symm.trans hf)
        refine lv_aload_n hx hb dX12_any_9 rfl (lv_at hl 0 rfl) ?_
        refine gI G hw (m_this hZ) KX12 18 (by decide) rfl fl_X12_212 dX12_any_10 ?_
        refine lv_iconst hx hb dX12_any_13 ki_4 ?_
        refine lv_icmp_ne (tgt := 40) hx hb dX12_any_14 (by decide) (fun c_12 => ?_) (fun c_12 => ?_)
        · have hf := (if_neg c_12).symm.trans hf
          obtain rfl := Option.some.inj hf
          obtain rfl := Option.some.inj (hz : some _ = some _)
          exact R40_9 _ _ _ _ hw (lv_sub hl [] rfl) hg
        · have hf := (if_pos c_12).symm.trans hf
          refine lv_aload_n hx hb dX12_any_17 rfl (lv_at hl 0 rfl) ?_
          obtain ⟨S_7, hS_7, hf⟩ := bB_e hf
          refine kVv (rest := []) G hw (wX12_next0 hZ S_5 S_7 hS_7) cw_X12_236 (m_this hZ) KX12 ⟨by dsimp only; omega, by dsimp only; omega⟩ rfl hl.1 rfl (Nat.le_of_ble_eq_true rfl) ⟨Nat.le_refl _, Nat.le_refl _⟩ dX12_any_18 (fun H locs hw => ?_)
          refine lv_aload_n hx hb dX12_any_21 rfl (lv_at hl 0 rfl) ?_
          obtain ⟨r_8, S_9, hr_8, hf⟩ := bB2_e hf
          refine kVi (rest := []) G hw (hr_every S_7 r_8 S_9 hr_8) cw_X12_256 (m_this hZ) KX12 ⟨by dsimp only; omega, by dsimp only; omega⟩ rfl hl.1 rfl (Nat.le_of_ble_eq_true rfl) ⟨Nat.le_refl _, Nat.le_refl _⟩ dX12_any_22 (fun H locs hw => ?_)
          refine lv_if_ne (tgt := 30) hx hb dX12_any_25 (by decide) (fun c_11 => ?_) (fun c_11 => ?_)
          · have hf := (if_neg c_11).symm.trans hf
            refine lv_aload_n hx hb dX12_any_30 rfl (lv_at hl 0 rfl) ?_
            refine lv_bipush hx hb dX12_any_31 kb_32 ?_
            refine lv_iconst hx hb dX12_any_33 ki_0 ?_
            obtain ⟨S_10, hS_10, hf⟩ := bB_e hf
            refine kVv (rest := []) G hw (wX12_lay hZ S_9 32 0 S_10 hS_10) cw_X12_249 (m_this hZ) KX12 ⟨by dsimp only; omega, by dsimp only; omega⟩ rfl hl.1 rfl (Nat.le_of_ble_eq_true rfl) ⟨Nat.le_refl _, Nat.le_refl _⟩ dX12_any_34 (fun H locs hw => ?_)
            refine lv_goto (tgt := 9) hx hb dX12_any_37 (by decide) ?_
            obtain rfl := Option.some.inj hf
            exact ih _ hg _ _ _ _ hw (lv_sub hl [0] rfl) hz
          · have hf := (if_pos c_11).symm.trans hf
            obtain rfl := Option.some.inj hf
            obtain rfl := Option.some.inj (hz : some _ = some _)
            exact R28_9 _ _ _ _ hw (lv_sub hl [] rfl) hg
    clear eb
    obtain ⟨z, hz, hf⟩ := bB_e hf
    obtain ⟨n, hz⟩ := bP_e hz
    exact RL9 n z hf _ _ _ _ hw (lv_sub hl [0] rfl) hz
  · have hf := (if_pos c_13).symm.trans hf
    refine lv_iconst hx hb dX12_any_7 ki_0 ?_
    obtain ⟨e1, e2⟩ := Prod.mk.inj (Option.some.inj hf)
    exact hret _ _ _ _ _ dX12_any_8 ((by decide : (0 : Int32) &&& 1 = 0).trans e1) (by rw [← e2]; exact hw)
set_option maxHeartbeats 4000000 in
theorem tT12_oneTest {l : Launch} {Z : pZ} (hZ : CM Z) : ∀ d : Nat, (∀ (S : pS) (r : Int32) (S2 : pS), (T12_oneTest d).1 S = some (r, S2) → CI l Z yX12_oneTest cX12_oneTest 2 .boolean (rF 14 d) (rL 309 d) [.ref (za Z 0)] S r S2) ∧ (∀ (S : pS) (r : Int32) (S2 : pS), (T12_oneTest d).2.1 S = some (r, S2) → CI l Z yX12_every cX12_every 1 .boolean (rF 14 d) (rL 309 d) [.ref (za Z 0)] S r S2) ∧ (∀ (S : pS) (r : Int32) (S2 : pS), (T12_oneTest d).2.2 S = some (r, S2) → CI l Z yX12_any cX12_any 1 .boolean (rF 14 d) (rL 309 d) [.ref (za Z 0)] S r S2) := by
  intro d
  induction d with
  | zero => exact ⟨(fun _ _ _ h => (nomatch h)), (fun _ _ _ h => (nomatch h)), (fun _ _ _ h => (nomatch h))⟩
  | succ d ih => exact ⟨(fun S r S2 h => wBX12_oneTest (hfr := Nat.le_trans (Nat.le_of_ble_eq_true rfl) (rF_le 14 d)) (hlo := Nat.le_trans (Nat.le_of_ble_eq_true rfl) (rL_le 309 d)) (hr_any := (ih).2.2) (hr_oneTest := (ih).1) hZ S r S2 h), (fun S r S2 h => wBX12_every (hfr := Nat.le_trans (Nat.le_of_ble_eq_true rfl) (rF_le 14 d)) (hlo := Nat.le_trans (Nat.le_of_ble_eq_true rfl) (rL_le 309 d)) (hr_oneTest := (ih).1) hZ S r S2 h), (fun S r S2 h => wBX12_any (hfr := Nat.le_trans (Nat.le_of_ble_eq_true rfl) (rF_le 14 d)) (hlo := Nat.le_trans (Nat.le_of_ble_eq_true rfl) (rL_le 309 d)) (hr_every := (ih).2.1) hZ S r S2 h)⟩
theorem wX12_oneTest {l : Launch} {Z : pZ} (hZ : CM Z) (S : pS) (r : Int32) (S2 : pS)  (hf : F12_oneTest S = some (r, S2)) : CI l Z yX12_oneTest cX12_oneTest 2 .boolean 54 2709 [.ref (za Z 0)] S r S2 := (tT12_oneTest hZ 40).1 S r S2 hf
theorem wX12_every {l : Launch} {Z : pZ} (hZ : CM Z) (S : pS) (r : Int32) (S2 : pS)  (hf : F12_every S = some (r, S2)) : CI l Z yX12_every cX12_every 1 .boolean 54 2709 [.ref (za Z 0)] S r S2 := (tT12_oneTest hZ 40).2.1 S r S2 hf
theorem wX12_any {l : Launch} {Z : pZ} (hZ : CM Z) (S : pS) (r : Int32) (S2 : pS)  (hf : F12_any S = some (r, S2)) : CI l Z yX12_any cX12_any 1 .boolean 54 2709 [.ref (za Z 0)] S r S2 := (tT12_oneTest hZ 40).2.2 S r S2 hf

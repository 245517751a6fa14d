noncomputable def F4_forget (S : pS) (k0 : Nat) : pS :=
  bL (sU S k0 0 0) fun S_1 =>
  S_1
set_option maxRecDepth 100000 in
set_option maxHeartbeats 4000000 in
theorem wX4_forget {l : Launch} {Z : pZ}  (hZ : CC Z) (S : pS) (k0 : Nat) (S2 : pS) (h0 : isA Z K_Past k0) (hf : F4_forget S k0 = S2) : CV l Z yX4_forget cX4_forget 1 3 60 [.ref (za Z k0)] S S2 := by
  unfold F4_forget at hf
  refine eV (own := RX4) (by decide) rfl (Nat.le_of_ble_eq_true rfl) (fun p e s m args below meth c Q ls G hl hw hret => ?_)
  obtain ⟨hx, hb, hml, hown, hts⟩ := G.1
  have hl : lv_has ls 1 [(0, .ref (za Z k0))] := hl
  refine lv_aload_n hx hb dX4_forget_0 rfl (lv_at hl 0 rfl) ?_
  refine lv_iconst hx hb dX4_forget_1 ki_0 ?_
  obtain ⟨S_1, eS_1, hf⟩ := bL_e hf
  refine pI G hw h0 KX4 0 (by decide) rfl rfl rfl eS_1 fl_X4_14 dX4_forget_2 (fun H locs hw => ?_)
  exact hret _ _ _ _ dX4_forget_5 (by rw [← hf]; exact hw)
noncomputable def F11_state (S : pS) (a1 : Int32) : Int32 × pS :=
  bL (S 1 0) fun l2_1 =>
  bL (sU S 1 0 a1) fun S_2 =>
  bL (F4_forget S_2 65) fun S_3 =>
  (l2_1, S_3)
set_option maxRecDepth 100000 in
set_option maxHeartbeats 4000000 in
theorem wX11_state {l : Launch} {Z : pZ}  (hZ : CC Z) (S : pS) (a1 : Int32) (r : Int32) (S2 : pS) (h0 : isA Z K_PF 0) (hf : F11_state S a1 = (r, S2)) : CI l Z yX11_state cX11_state 3 .int 4 80 [.ref (za Z 0), .int a1] S r S2 := by
  unfold F11_state at hf
  refine eI (own := RX11) (by decide) rfl (Nat.le_of_ble_eq_true rfl) (fun p e s m args below meth c Q ls G hl hw hret => ?_)
  obtain ⟨hx, hb, hml, hown, hts⟩ := G.1
  have hl : lv_has ls 3 [(0, .ref (za Z 0)), (1, .int a1)] := hl
  refine lv_aload_n hx hb dX11_state_0 rfl (lv_at hl 0 rfl) ?_
  refine gF G hw h0 KX11 0 (k2 := 1) rfl (by decide) rfl fl_X11_10 dX11_state_1 ?_
  refine gI G hw (sub_PF_now hZ h0) KX10 0 (by decide) rfl fl_X11_44 dX11_state_4 ?_
  obtain ⟨l2_1, el2_1, hf⟩ := bL_e hf
  refine top_i el2_1 ?_
  refine lv_istore_n (lv' := [(2, .int l2_1), (0, .ref (za Z 0)), (1, .int a1)]) hx hb dX11_state_7 rfl hl (by decide) rfl (fun ls hl => ?_)
  refine lv_aload_n hx hb dX11_state_8 rfl (lv_at hl 1 rfl) ?_
  refine gF G hw h0 KX11 0 (k2 := 1) rfl (by decide) rfl fl_X11_10 dX11_state_9 ?_
  refine lv_iload_n hx hb dX11_state_12 rfl (lv_at hl 2 rfl) ?_
  obtain ⟨S_2, eS_2, hf⟩ := bL_e hf
  refine pI G hw (sub_PF_now hZ h0) KX10 0 (by decide) rfl rfl rfl eS_2 fl_X11_44 dX11_state_13 (fun H locs hw => ?_)
  refine lv_aload_n hx hb dX11_state_16 rfl (lv_at hl 1 rfl) ?_
  refine gF G hw h0 KX11 4 (k2 := 65) rfl (by decide) rfl fl_X11_40 dX11_state_17 ?_
  obtain ⟨S_3, hS_3, hf⟩ := bL_e hf
  refine kVv (rest := []) G hw (wX4_forget hZ S_2 65 S_3 (sub_PF_past hZ h0) hS_3.symm) cw_X11_48 (sub_PF_past hZ h0) KX4 ⟨Nat.le_of_ble_eq_true rfl, Nat.le_of_ble_eq_true rfl⟩ rfl hl.1 rfl (Nat.le_of_ble_eq_true rfl) ⟨Nat.le_refl _, Nat.le_refl _⟩ dX11_state_20 (fun H locs hw => ?_)
  refine lv_iload_n hx hb dX11_state_23 rfl (lv_at hl 0 rfl) ?_
  obtain ⟨e1, e2⟩ := Prod.mk.inj hf
  exact hret _ _ _ _ _ dX11_state_24 e1 (by rw [← e2]; exact hw)
noncomputable def F11_within (a0 : Int32) (a1 : Int32) (a2 : Int32) : Int32 :=
  bL (fun (_ : Unit) =>
    (0 : Int32)) fun j14 =>
  if a0 < a1 then
    j14 ()
  else
    if a2 < a0 then
      j14 ()
    else
      (1 : Int32)
set_option maxRecDepth 100000 in
set_option maxHeartbeats 4000000 in
theorem wX11_within {l : Launch} {Z : pZ}  (hZ : CC Z) (S : pS) (a0 : Int32) (a1 : Int32) (a2 : Int32) (r : Int32)  (hf : F11_within a0 a1 a2 = r) : CI l Z yX11_within cX11_within 3 .boolean 3 60 [.int a0, .int a1, .int a2] S r S := by
  unfold F11_within at hf
  refine eZ (own := RX11) (by decide) rfl (Nat.le_of_ble_eq_true rfl) (fun p e s m args below meth c Q ls G hl hw hret => ?_)
  obtain ⟨hx, hb, hml, hown, hts⟩ := G.1
  have hl : lv_has ls 3 [(0, .int a0), (1, .int a1), (2, .int a2)] := hl
  refine lv_iload_n hx hb dX11_within_0 rfl (lv_at hl 0 rfl) ?_
  refine lv_iload_n hx hb dX11_within_1 rfl (lv_at hl 1 rfl) ?_
  obtain ⟨j14, ej, hf⟩ := bL_e hf
  have R14 : ∀ (H : Heap) (locs : List Loc) (ls : Array Slot), Wd Z s S H locs → lv_has ls 3 [] → j14 () = r → W p l e { frames := 3, cells := 0, slots := 0, locals := 60 } s m args below meth c H locs 0 0 Q (F0 m 14 ls []) := by
    intro  H locs ls hw hl hf
    have hf := (congrFun ej ()).symm.trans hf
    refine lv_iconst hx hb dX11_within_14 ki_0 ?_
    exact hret _ _ _ _ _ dX11_within_15 ((by decide : (0 : Int32) &&& 1 = 0).trans hf) hw
  clear ej
  refine lv_icmp_lt (tgt := 14) hx hb dX11_within_2 (by decide) (fun c_2 => ?_) (fun c_2 => ?_)
  · have hf := (if_pos c_2).symm.trans hf
    exact R14 _ _ _ hw (lv_sub hl [] rfl) hf
  · have hf := (if_neg c_2).symm.trans hf
    refine lv_iload_n hx hb dX11_within_5 rfl (lv_at hl 0 rfl) ?_
    refine lv_iload_n hx hb dX11_within_6 rfl (lv_at hl 2 rfl) ?_
    refine lv_icmp_gt (tgt := 14) hx hb dX11_within_7 (by decide) (fun c_1 => ?_) (fun c_1 => ?_)
    · have hf := (if_pos c_1).symm.trans hf
      exact R14 _ _ _ hw (lv_sub hl [] rfl) hf
    · have hf := (if_neg c_1).symm.trans hf
      refine lv_iconst hx hb dX11_within_10 ki_1 ?_
      refine lv_goto (tgt := 15) hx hb dX11_within_11 (by decide) ?_
      exact hret _ _ _ _ _ dX11_within_15 ((by decide : (1 : Int32) &&& 1 = 1).trans hf) hw
noncomputable def F10_addSpear (S : pS) (k0 : Nat) (a1 : Int32) (a2 : Int32) : Option (Int32 × pS) :=
  if (S k0 4) < 6 then
    bG (vp_in (S k0 4) 6) <|
    bL (sU S (k0 + 2) ((S k0 4).toNatClampNeg) a1) fun S_2 =>
    bG (vp_in (S_2 k0 4) 6) <|
    bL (sU S_2 (k0 + 3) ((S_2 k0 4).toNatClampNeg) a2) fun S_4 =>
    bL (sU S_4 k0 4 ((S_4 k0 4) + 1)) fun S_5 =>
    some ((S_5 k0 4) - 1, S_5)
  else
    some (((-1) : Int32), S)
set_option maxRecDepth 100000 in
set_option maxHeartbeats 4000000 in
theorem wX10_addSpear {l : Launch} {Z : pZ}  (hZ : CC Z) (S : pS) (k0 : Nat) (a1 : Int32) (a2 : Int32) (r : Int32) (S2 : pS) (h0 : isA Z K_World k0) (hf : F10_addSpear S k0 a1 a2 = some (r, S2)) : CI l Z yX10_addSpear cX10_addSpear 3 .int 3 60 [.ref (za Z k0), .int a1, .int a2] S r S2 := by
  unfold F10_addSpear at hf
  refine eI (own := RX10) (by decide) rfl (Nat.le_of_ble_eq_true rfl) (fun p e s m args below meth c Q ls G hl hw hret => ?_)
  obtain ⟨hx, hb, hml, hown, hts⟩ := G.1
  have hl : lv_has ls 3 [(0, .ref (za Z k0)), (1, .int a1), (2, .int a2)] := hl
  refine lv_aload_n hx hb dX10_addSpear_0 rfl (lv_at hl 0 rfl) ?_
  refine gI G hw h0 KX10 4 (by decide) rfl fl_X10_60 dX10_addSpear_1 ?_
  refine lv_bipush hx hb dX10_addSpear_4 kb_6 ?_
  refine lv_icmp_lt (tgt := 11) hx hb dX10_addSpear_6 (by decide) (fun c_6 => ?_) (fun c_6 => ?_)
  · have hf := (if_pos c_6).symm.trans hf
    refine lv_aload_n hx hb dX10_addSpear_11 rfl (lv_at hl 0 rfl) ?_
    refine gF G hw h0 KX10 9 (k2 := (k0 + 2)) rfl (by decide) rfl fl_X10_15 dX10_addSpear_12 ?_
    refine lv_aload_n hx hb dX10_addSpear_15 rfl (lv_at hl 0 rfl) ?_
    refine gI G hw h0 KX10 4 (by decide) rfl fl_X10_60 dX10_addSpear_16 ?_
    refine lv_iload_n hx hb dX10_addSpear_19 rfl (lv_at hl 1 rfl) ?_
    obtain ⟨hg_1, hf⟩ := bG_e hf
    obtain ⟨S_2, eS_2, hf⟩ := bL_e hf
    refine sI G hw (sub_World_soft hZ h0) hg_1 (j := (S k0 4).toNatClampNeg) rfl eS_2 dX10_addSpear_20 (fun H locs hw => ?_)
    refine lv_aload_n hx hb dX10_addSpear_21 rfl (lv_at hl 0 rfl) ?_
    refine gF G hw h0 KX10 10 (k2 := (k0 + 3)) rfl (by decide) rfl fl_X10_18 dX10_addSpear_22 ?_
    refine lv_aload_n hx hb dX10_addSpear_25 rfl (lv_at hl 0 rfl) ?_
    refine gI G hw h0 KX10 4 (by decide) rfl fl_X10_60 dX10_addSpear_26 ?_
    refine lv_iload_n hx hb dX10_addSpear_29 rfl (lv_at hl 2 rfl) ?_
    obtain ⟨hg_3, hf⟩ := bG_e hf
    obtain ⟨S_4, eS_4, hf⟩ := bL_e hf
    refine sI G hw (sub_World_tip hZ h0) hg_3 (j := (S_2 k0 4).toNatClampNeg) rfl eS_4 dX10_addSpear_30 (fun H locs hw => ?_)
    refine lv_aload_n hx hb dX10_addSpear_31 rfl (lv_at hl 0 rfl) ?_
    refine lv_dup hx hb dX10_addSpear_32 rfl ?_
    refine gI G hw h0 KX10 4 (by decide) rfl fl_X10_60 dX10_addSpear_33 ?_
    refine lv_iconst hx hb dX10_addSpear_36 ki_1 ?_
    refine lv_iadd hx hb dX10_addSpear_37 ?_
    obtain ⟨S_5, eS_5, hf⟩ := bL_e hf
    refine pI G hw h0 KX10 4 (by decide) rfl rfl rfl eS_5 fl_X10_60 dX10_addSpear_38 (fun H locs hw => ?_)
    refine lv_aload_n hx hb dX10_addSpear_41 rfl (lv_at hl 0 rfl) ?_
    refine gI G hw h0 KX10 4 (by decide) rfl fl_X10_60 dX10_addSpear_42 ?_
    refine lv_iconst hx hb dX10_addSpear_45 ki_1 ?_
    refine lv_isub hx hb dX10_addSpear_46 ?_
    obtain ⟨e1, e2⟩ := Prod.mk.inj (Option.some.inj hf)
    exact hret _ _ _ _ _ dX10_addSpear_47 e1 (by rw [← e2]; exact hw)
  · have hf := (if_neg c_6).symm.trans hf
    refine lv_iconst hx hb dX10_addSpear_9 ki_m1 ?_
    obtain ⟨e1, e2⟩ := Prod.mk.inj (Option.some.inj hf)
    exact hret _ _ _ _ _ dX10_addSpear_10 e1 (by rw [← e2]; exact hw)
noncomputable def F11_spear (S : pS) (a1 : Int32) (a2 : Int32) : Option (Int32 × pS) :=
  if (F11_within a1 0 9) = 0 then
    some (((-1) : Int32), S)
  else
    if (F11_within a2 0 9) = 0 then
      some (((-1) : Int32), S)
    else
      if (S 1 4) < 6 then
        bL (F4_forget S 65) fun S_1 =>
        bB2 (F10_addSpear S_1 1 a1 a2) fun r_2 S_3 =>
        some (r_2, S_3)
      else
        some (((-1) : Int32), S)
set_option maxRecDepth 100000 in
set_option maxHeartbeats 4000000 in
theorem wX11_spear {l : Launch} {Z : pZ}  (hZ : CC Z) (S : pS) (a1 : Int32) (a2 : Int32) (r : Int32) (S2 : pS) (h0 : isA Z K_PF 0) (hf : F11_spear S a1 a2 = some (r, S2)) : CI l Z yX11_spear cX11_spear 3 .int 4 82 [.ref (za Z 0), .int a1, .int a2] S r S2 := by
  unfold F11_spear at hf
  refine eI (own := RX11) (by decide) rfl (Nat.le_of_ble_eq_true rfl) (fun p e s m args below meth c Q ls G hl hw hret => ?_)
  obtain ⟨hx, hb, hml, hown, hts⟩ := G.1
  have hl : lv_has ls 3 [(0, .ref (za Z 0)), (1, .int a1), (2, .int a2)] := hl
  refine lv_iload_n hx hb dX11_spear_0 rfl (lv_at hl 1 rfl) ?_
  refine lv_iconst hx hb dX11_spear_1 ki_0 ?_
  refine lv_bipush hx hb dX11_spear_2 kb_9 ?_
  refine kSi (rest := []) G hw (wX11_within hZ S a1 0 9 (F11_within a1 0 9) rfl) cw_X11_51 ⟨Nat.le_of_ble_eq_true rfl, Nat.le_of_ble_eq_true rfl⟩ rfl hl.1 rfl (Nat.le_of_ble_eq_true rfl) ⟨Nat.le_refl _, Nat.le_refl _⟩ dX11_spear_4 (fun H locs hw => ?_)
  refine lv_if_eq (tgt := 32) hx hb dX11_spear_7 (by decide) (fun c_6 => ?_) (fun c_6 => ?_)
  · have hf := (if_pos c_6).symm.trans hf
    refine lv_iconst hx hb dX11_spear_32 ki_m1 ?_
    obtain ⟨e1, e2⟩ := Prod.mk.inj (Option.some.inj hf)
    exact hret _ _ _ _ _ dX11_spear_33 e1 (by rw [← e2]; exact hw)
  · have hf := (if_neg c_6).symm.trans hf
    refine lv_iload_n hx hb dX11_spear_10 rfl (lv_at hl 2 rfl) ?_
    refine lv_iconst hx hb dX11_spear_11 ki_0 ?_
    refine lv_bipush hx hb dX11_spear_12 kb_9 ?_
    refine kSi (rest := []) G hw (wX11_within hZ S a2 0 9 (F11_within a2 0 9) rfl) cw_X11_51 ⟨Nat.le_of_ble_eq_true rfl, Nat.le_of_ble_eq_true rfl⟩ rfl hl.1 rfl (Nat.le_of_ble_eq_true rfl) ⟨Nat.le_refl _, Nat.le_refl _⟩ dX11_spear_14 (fun H locs hw => ?_)
    refine lv_if_eq (tgt := 32) hx hb dX11_spear_17 (by decide) (fun c_5 => ?_) (fun c_5 => ?_)
    · have hf := (if_pos c_5).symm.trans hf
      refine lv_iconst hx hb dX11_spear_32 ki_m1 ?_
      obtain ⟨e1, e2⟩ := Prod.mk.inj (Option.some.inj hf)
      exact hret _ _ _ _ _ dX11_spear_33 e1 (by rw [← e2]; exact hw)
    · have hf := (if_neg c_5).symm.trans hf
      refine lv_aload_n hx hb dX11_spear_20 rfl (lv_at hl 0 rfl) ?_
      refine gF G hw h0 KX11 0 (k2 := 1) rfl (by decide) rfl fl_X11_10 dX11_spear_21 ?_
      refine gI G hw (sub_PF_now hZ h0) KX10 4 (by decide) rfl fl_X11_55 dX11_spear_24 ?_
      refine lv_bipush hx hb dX11_spear_27 kb_6 ?_
      refine lv_icmp_lt (tgt := 34) hx hb dX11_spear_29 (by decide) (fun c_4 => ?_) (fun c_4 => ?_)
      · have hf := (if_pos c_4).symm.trans hf
        refine lv_aload_n hx hb dX11_spear_34 rfl (lv_at hl 0 rfl) ?_
        refine gF G hw h0 KX11 4 (k2 := 65) rfl (by decide) rfl fl_X11_40 dX11_spear_35 ?_
        obtain ⟨S_1, hS_1, hf⟩ := bL_e hf
        refine kVv (rest := []) G hw (wX4_forget hZ S 65 S_1 (sub_PF_past hZ h0) hS_1.symm) cw_X11_48 (sub_PF_past hZ h0) KX4 ⟨Nat.le_of_ble_eq_true rfl, Nat.le_of_ble_eq_true rfl⟩ rfl hl.1 rfl (Nat.le_of_ble_eq_true rfl) ⟨Nat.le_refl _, Nat.le_refl _⟩ dX11_spear_38 (fun H locs hw => ?_)
        refine lv_aload_n hx hb dX11_spear_41 rfl (lv_at hl 0 rfl) ?_
        refine gF G hw h0 KX11 0 (k2 := 1) rfl (by decide) rfl fl_X11_10 dX11_spear_42 ?_
        refine lv_iload_n hx hb dX11_spear_45 rfl (lv_at hl 1 rfl) ?_
        refine lv_iload_n hx hb dX11_spear_46 rfl (lv_at hl 2 rfl) ?_
        obtain ⟨r_2, S_3, hr_2, hf⟩ := bB2_e hf
        refine kVi (rest := []) G hw (wX10_addSpear hZ S_1 1 a1 a2 r_2 S_3 (sub_PF_now hZ h0) hr_2) cw_X11_58 (sub_PF_now hZ h0) KX10 ⟨Nat.le_of_ble_eq_true rfl, Nat.le_of_ble_eq_true rfl⟩ rfl hl.1 rfl (Nat.le_of_ble_eq_true rfl) ⟨Nat.le_refl _, Nat.le_refl _⟩ dX11_spear_47 (fun H locs hw => ?_)
        obtain ⟨e1, e2⟩ := Prod.mk.inj (Option.some.inj hf)
        exact hret _ _ _ _ _ dX11_spear_50 e1 (by rw [← e2]; exact hw)
      · have hf := (if_neg c_4).symm.trans hf
        refine lv_iconst hx hb dX11_spear_32 ki_m1 ?_
        obtain ⟨e1, e2⟩ := Prod.mk.inj (Option.some.inj hf)
        exact hret _ _ _ _ _ dX11_spear_33 e1 (by rw [← e2]; exact hw)
noncomputable def F8_beginMeet (S : pS) (k0 : Nat) : pS :=
  bL (sU S k0 2 0) fun S_1 =>
  bL (sU S_1 k0 3 0) fun S_2 =>
  bL (sU S_2 k0 5 0) fun S_3 =>
  S_3
set_option maxRecDepth 100000 in
set_option maxHeartbeats 4000000 in
theorem wX8_beginMeet {l : Launch} {Z : pZ}  (hZ : CC Z) (S : pS) (k0 : Nat) (S2 : pS) (h0 : isA Z K_Thrower k0) (hf : F8_beginMeet S k0 = S2) : CV l Z yX8_beginMeet cX8_beginMeet 1 3 60 [.ref (za Z k0)] S S2 := by
  unfold F8_beginMeet at hf
  refine eV (own := RX8) (by decide) rfl (Nat.le_of_ble_eq_true rfl) (fun p e s m args below meth c Q ls G hl hw hret => ?_)
  obtain ⟨hx, hb, hml, hown, hts⟩ := G.1
  have hl : lv_has ls 1 [(0, .ref (za Z k0))] := hl
  refine lv_aload_n hx hb dX8_beginMeet_0 rfl (lv_at hl 0 rfl) ?_
  refine lv_iconst hx hb dX8_beginMeet_1 ki_0 ?_
  obtain ⟨S_1, eS_1, hf⟩ := bL_e hf
  refine pI G hw h0 KX8 2 (by decide) rfl rfl rfl eS_1 fl_X8_28 dX8_beginMeet_2 (fun H locs hw => ?_)
  refine lv_aload_n hx hb dX8_beginMeet_5 rfl (lv_at hl 0 rfl) ?_
  refine lv_iconst hx hb dX8_beginMeet_6 ki_0 ?_
  obtain ⟨S_2, eS_2, hf⟩ := bL_e hf
  refine pI G hw h0 KX8 3 (by decide) rfl rfl rfl eS_2 fl_X8_31 dX8_beginMeet_7 (fun H locs hw => ?_)
  refine lv_aload_n hx hb dX8_beginMeet_10 rfl (lv_at hl 0 rfl) ?_
  refine lv_iconst hx hb dX8_beginMeet_11 ki_0 ?_
  obtain ⟨S_3, eS_3, hf⟩ := bL_e hf
  refine pI G hw h0 KX8 5 (by decide) rfl rfl rfl eS_3 fl_X8_34 dX8_beginMeet_12 (fun H locs hw => ?_)
  exact hret _ _ _ _ dX8_beginMeet_15 (by rw [← hf]; exact hw)
noncomputable def F8_begin (S : pS) (k0 : Nat) (a1 : Int32) : pS :=
  bL (sU S k0 0 a1) fun S_1 =>
  bL (sU S_1 k0 1 0) fun S_2 =>
  bL (sU S_2 k0 4 0) fun S_3 =>
  bL (F8_beginMeet S_3 k0) fun S_4 =>
  S_4
set_option maxRecDepth 100000 in
set_option maxHeartbeats 4000000 in
theorem wX8_begin {l : Launch} {Z : pZ}  (hZ : CC Z) (S : pS) (k0 : Nat) (a1 : Int32) (S2 : pS) (h0 : isA Z K_Thrower k0) (hf : F8_begin S k0 a1 = S2) : CV l Z yX8_begin cX8_begin 2 4 80 [.ref (za Z k0), .int a1] S S2 := by
  unfold F8_begin at hf
  refine eV (own := RX8) (by decide) rfl (Nat.le_of_ble_eq_true rfl) (fun p e s m args below meth c Q ls G hl hw hret => ?_)
  obtain ⟨hx, hb, hml, hown, hts⟩ := G.1
  have hl : lv_has ls 2 [(0, .ref (za Z k0)), (1, .int a1)] := hl
  refine lv_aload_n hx hb dX8_begin_0 rfl (lv_at hl 0 rfl) ?_
  refine lv_iload_n hx hb dX8_begin_1 rfl (lv_at hl 1 rfl) ?_
  obtain ⟨S_1, eS_1, hf⟩ := bL_e hf
  refine pI G hw h0 KX8 0 (by decide) rfl rfl rfl eS_1 fl_X8_15 dX8_begin_2 (fun H locs hw => ?_)
  refine lv_aload_n hx hb dX8_begin_5 rfl (lv_at hl 0 rfl) ?_
  refine lv_iconst hx hb dX8_begin_6 ki_0 ?_
  obtain ⟨S_2, eS_2, hf⟩ := bL_e hf
  refine pI G hw h0 KX8 1 (by decide) rfl rfl rfl eS_2 fl_X8_19 dX8_begin_7 (fun H locs hw => ?_)
  refine lv_aload_n hx hb dX8_begin_10 rfl (lv_at hl 0 rfl) ?_
  refine lv_iconst hx hb dX8_begin_11 ki_0 ?_
  obtain ⟨S_3, eS_3, hf⟩ := bL_e hf
  refine pI G hw h0 KX8 4 (by decide) rfl rfl rfl eS_3 fl_X8_22 dX8_begin_12 (fun H locs hw => ?_)
  refine lv_aload_n hx hb dX8_begin_15 rfl (lv_at hl 0 rfl) ?_
  obtain ⟨S_4, hS_4, hf⟩ := bL_e hf
  refine kVv (rest := []) G hw (wX8_beginMeet hZ S_3 k0 S_4 h0 hS_4.symm) cw_X8_25 h0 KX8 ⟨Nat.le_of_ble_eq_true rfl, Nat.le_of_ble_eq_true rfl⟩ rfl hl.1 rfl (Nat.le_of_ble_eq_true rfl) ⟨Nat.le_refl _, Nat.le_refl _⟩ dX8_begin_16 (fun H locs hw => ?_)
  exact hret _ _ _ _ dX8_begin_19 (by rw [← hf]; exact hw)
noncomputable def F10_addThrower (S : pS) (k0 : Nat) (a1 : Int32) : Option (Int32 × pS) :=
  if (S k0 5) < 8 then
    bG (vp_in (S k0 5) 8) <|
    bL (F8_begin S ((k0 + 28) + 2 * (S k0 5).toNatClampNeg) a1) fun S_2 =>
    bL (sU S_2 k0 5 ((S_2 k0 5) + 1)) fun S_3 =>
    some ((S_3 k0 5) - 1, S_3)
  else
    some (((-1) : Int32), S)
set_option maxRecDepth 100000 in
set_option maxHeartbeats 4000000 in
theorem wX10_addThrower {l : Launch} {Z : pZ}  (hZ : CC Z) (S : pS) (k0 : Nat) (a1 : Int32) (r : Int32) (S2 : pS) (h0 : isA Z K_World k0) (hf : F10_addThrower S k0 a1 = some (r, S2)) : CI l Z yX10_addThrower cX10_addThrower 2 .int 5 101 [.ref (za Z k0), .int a1] S r S2 := by
  unfold F10_addThrower at hf
  refine eI (own := RX10) (by decide) rfl (Nat.le_of_ble_eq_true rfl) (fun p e s m args below meth c Q ls G hl hw hret => ?_)
  obtain ⟨hx, hb, hml, hown, hts⟩ := G.1
  have hl : lv_has ls 2 [(0, .ref (za Z k0)), (1, .int a1)] := hl
  refine lv_aload_n hx hb dX10_addThrower_0 rfl (lv_at hl 0 rfl) ?_
  refine gI G hw h0 KX10 5 (by decide) rfl fl_X10_63 dX10_addThrower_1 ?_
  refine lv_bipush hx hb dX10_addThrower_4 kb_8 ?_
  refine lv_icmp_lt (tgt := 11) hx hb dX10_addThrower_6 (by decide) (fun c_4 => ?_) (fun c_4 => ?_)
  · have hf := (if_pos c_4).symm.trans hf
    refine lv_aload_n hx hb dX10_addThrower_11 rfl (lv_at hl 0 rfl) ?_
    refine gF G hw h0 KX10 11 (k2 := (k0 + 4)) rfl (by decide) rfl fl_X10_23 dX10_addThrower_12 ?_
    refine lv_aload_n hx hb dX10_addThrower_15 rfl (lv_at hl 0 rfl) ?_
    refine gI G hw h0 KX10 5 (by decide) rfl fl_X10_63 dX10_addThrower_16 ?_
    obtain ⟨hg_1, hf⟩ := bG_e hf
    refine aR G hw (sub_World_team hZ h0) hg_1 (j := (S k0 5).toNatClampNeg) (k2 := ((k0 + 28) + 2 * (S k0 5).toNatClampNeg)) rfl rfl dX10_addThrower_19 ?_
    refine lv_iload_n hx hb dX10_addThrower_20 rfl (lv_at hl 1 rfl) ?_
    obtain ⟨S_2, hS_2, hf⟩ := bL_e hf
    refine kVv (rest := []) G hw (wX8_begin hZ S ((k0 + 28) + 2 * (S k0 5).toNatClampNeg) a1 S_2 (tm hZ (sub_World_team hZ h0) (vin_lt hg_1)) hS_2.symm) cw_X10_85 (tm hZ (sub_World_team hZ h0) (vin_lt hg_1)) KX8 ⟨Nat.le_of_ble_eq_true rfl, Nat.le_of_ble_eq_true rfl⟩ rfl hl.1 rfl (Nat.le_of_ble_eq_true rfl) ⟨Nat.le_refl _, Nat.le_refl _⟩ dX10_addThrower_21 (fun H locs hw => ?_)
    refine lv_aload_n hx hb dX10_addThrower_24 rfl (lv_at hl 0 rfl) ?_
    refine lv_dup hx hb dX10_addThrower_25 rfl ?_
    refine gI G hw h0 KX10 5 (by decide) rfl fl_X10_63 dX10_addThrower_26 ?_
    refine lv_iconst hx hb dX10_addThrower_29 ki_1 ?_
    refine lv_iadd hx hb dX10_addThrower_30 ?_
    obtain ⟨S_3, eS_3, hf⟩ := bL_e hf
    refine pI G hw h0 KX10 5 (by decide) rfl rfl rfl eS_3 fl_X10_63 dX10_addThrower_31 (fun H locs hw => ?_)
    refine lv_aload_n hx hb dX10_addThrower_34 rfl (lv_at hl 0 rfl) ?_
    refine gI G hw h0 KX10 5 (by decide) rfl fl_X10_63 dX10_addThrower_35 ?_
    refine lv_iconst hx hb dX10_addThrower_38 ki_1 ?_
    refine lv_isub hx hb dX10_addThrower_39 ?_
    obtain ⟨e1, e2⟩ := Prod.mk.inj (Option.some.inj hf)
    exact hret _ _ _ _ _ dX10_addThrower_40 e1 (by rw [← e2]; exact hw)
  · have hf := (if_neg c_4).symm.trans hf
    refine lv_iconst hx hb dX10_addThrower_9 ki_m1 ?_
    obtain ⟨e1, e2⟩ := Prod.mk.inj (Option.some.inj hf)
    exact hret _ _ _ _ _ dX10_addThrower_10 e1 (by rw [← e2]; exact hw)
noncomputable def F10_begun (S : pS) (k0 : Nat) : Int32 :=
  bL (fun (_ : Unit) =>
    (1 : Int32)) fun j14 =>
  if 0 < (S k0 2) then
    j14 ()
  else
    if (S k0 3) ≤ 0 then
      (0 : Int32)
    else
      j14 ()
set_option maxRecDepth 100000 in
set_option maxHeartbeats 4000000 in
theorem wX10_begun {l : Launch} {Z : pZ}  (hZ : CC Z) (S : pS) (k0 : Nat) (r : Int32) (h0 : isA Z K_World k0) (hf : F10_begun S k0 = r) : CI l Z yX10_begun cX10_begun 1 .boolean 3 60 [.ref (za Z k0)] S r S := by
  unfold F10_begun at hf
  refine eZ (own := RX10) (by decide) rfl (Nat.le_of_ble_eq_true rfl) (fun p e s m args below meth c Q ls G hl hw hret => ?_)
  obtain ⟨hx, hb, hml, hown, hts⟩ := G.1
  have hl : lv_has ls 1 [(0, .ref (za Z k0))] := hl
  refine lv_aload_n hx hb dX10_begun_0 rfl (lv_at hl 0 rfl) ?_
  refine gI G hw h0 KX10 2 (by decide) rfl fl_X10_54 dX10_begun_1 ?_
  obtain ⟨j14, ej, hf⟩ := bL_e hf
  have R14 : ∀ (H : Heap) (locs : List Loc) (ls : Array Slot), Wd Z s S H locs → lv_has ls 1 [] → j14 () = r → W p l e { frames := 3, cells := 0, slots := 0, locals := 60 } s m args below meth c H locs 0 0 Q (F0 m 14 ls []) := by
    intro  H locs ls hw hl hf
    have hf := (congrFun ej ()).symm.trans hf
    refine lv_iconst hx hb dX10_begun_14 ki_1 ?_
    refine lv_goto (tgt := 19) hx hb dX10_begun_15 (by decide) ?_
    exact hret _ _ _ _ _ dX10_begun_19 ((by decide : (1 : Int32) &&& 1 = 1).trans hf) hw
  clear ej
  refine lv_if_gt (tgt := 14) hx hb dX10_begun_4 (by decide) (fun c_2 => ?_) (fun c_2 => ?_)
  · have hf := (if_pos c_2).symm.trans hf
    exact R14 _ _ _ hw (lv_sub hl [] rfl) hf
  · have hf := (if_neg c_2).symm.trans hf
    refine lv_aload_n hx hb dX10_begun_7 rfl (lv_at hl 0 rfl) ?_
    refine gI G hw h0 KX10 3 (by decide) rfl fl_X10_57 dX10_begun_8 ?_
    refine lv_if_le (tgt := 18) hx hb dX10_begun_11 (by decide) (fun c_1 => ?_) (fun c_1 => ?_)
    · have hf := (if_pos c_1).symm.trans hf
      refine lv_iconst hx hb dX10_begun_18 ki_0 ?_
      exact hret _ _ _ _ _ dX10_begun_19 ((by decide : (0 : Int32) &&& 1 = 0).trans hf) hw
    · have hf := (if_neg c_1).symm.trans hf
      exact R14 _ _ _ hw (lv_sub hl [] rfl) hf
noncomputable def F11_thrower (S : pS) (a1 : Int32) : Option (Int32 × pS) :=
  if (F11_within a1 0 99) = 0 then
    some (((-1) : Int32), S)
  else
    if 8 ≤ (S 1 5) then
      some (((-1) : Int32), S)
    else
      if (F10_begun S 1) = 0 then
        bL (F4_forget S 65) fun S_1 =>
        bB2 (F10_addThrower S_1 1 a1) fun r_2 S_3 =>
        some (r_2, S_3)
      else
        some (((-1) : Int32), S)
set_option maxRecDepth 100000 in
set_option maxHeartbeats 4000000 in
theorem wX11_thrower {l : Launch} {Z : pZ}  (hZ : CC Z) (S : pS) (a1 : Int32) (r : Int32) (S2 : pS) (h0 : isA Z K_PF 0) (hf : F11_thrower S a1 = some (r, S2)) : CI l Z yX11_thrower cX11_thrower 2 .int 6 122 [.ref (za Z 0), .int a1] S r S2 := by
  unfold F11_thrower at hf
  refine eI (own := RX11) (by decide) rfl (Nat.le_of_ble_eq_true rfl) (fun p e s m args below meth c Q ls G hl hw hret => ?_)
  obtain ⟨hx, hb, hml, hown, hts⟩ := G.1
  have hl : lv_has ls 2 [(0, .ref (za Z 0)), (1, .int a1)] := hl
  refine lv_iload_n hx hb dX11_thrower_0 rfl (lv_at hl 1 rfl) ?_
  refine lv_iconst hx hb dX11_thrower_1 ki_0 ?_
  refine lv_bipush hx hb dX11_thrower_2 kb_99 ?_
  refine kSi (rest := []) G hw (wX11_within hZ S a1 0 99 (F11_within a1 0 99) rfl) cw_X11_51 ⟨Nat.le_of_ble_eq_true rfl, Nat.le_of_ble_eq_true rfl⟩ rfl hl.1 rfl (Nat.le_of_ble_eq_true rfl) ⟨Nat.le_refl _, Nat.le_refl _⟩ dX11_thrower_4 (fun H locs hw => ?_)
  refine lv_if_eq (tgt := 32) hx hb dX11_thrower_7 (by decide) (fun c_6 => ?_) (fun c_6 => ?_)
  · have hf := (if_pos c_6).symm.trans hf
    refine lv_iconst hx hb dX11_thrower_32 ki_m1 ?_
    obtain ⟨e1, e2⟩ := Prod.mk.inj (Option.some.inj hf)
    exact hret _ _ _ _ _ dX11_thrower_33 e1 (by rw [← e2]; exact hw)
  · have hf := (if_neg c_6).symm.trans hf
    refine lv_aload_n hx hb dX11_thrower_10 rfl (lv_at hl 0 rfl) ?_
    refine gF G hw h0 KX11 0 (k2 := 1) rfl (by decide) rfl fl_X11_10 dX11_thrower_11 ?_
    refine gI G hw (sub_PF_now hZ h0) KX10 5 (by decide) rfl fl_X11_62 dX11_thrower_14 ?_
    refine lv_bipush hx hb dX11_thrower_17 kb_8 ?_
    refine lv_icmp_ge (tgt := 32) hx hb dX11_thrower_19 (by decide) (fun c_5 => ?_) (fun c_5 => ?_)
    · have hf := (if_pos c_5).symm.trans hf
      refine lv_iconst hx hb dX11_thrower_32 ki_m1 ?_
      obtain ⟨e1, e2⟩ := Prod.mk.inj (Option.some.inj hf)
      exact hret _ _ _ _ _ dX11_thrower_33 e1 (by rw [← e2]; exact hw)
    · have hf := (if_neg c_5).symm.trans hf
      refine lv_aload_n hx hb dX11_thrower_22 rfl (lv_at hl 0 rfl) ?_
      refine gF G hw h0 KX11 0 (k2 := 1) rfl (by decide) rfl fl_X11_10 dX11_thrower_23 ?_
      refine kVi (rest := []) G hw (wX10_begun hZ S 1 (F10_begun S 1) (sub_PF_now hZ h0) rfl) cw_X11_65 (sub_PF_now hZ h0) KX10 ⟨Nat.le_of_ble_eq_true rfl, Nat.le_of_ble_eq_true rfl⟩ rfl hl.1 rfl (Nat.le_of_ble_eq_true rfl) ⟨Nat.le_refl _, Nat.le_refl _⟩ dX11_thrower_26 (fun H locs hw => ?_)
      refine lv_if_eq (tgt := 34) hx hb dX11_thrower_29 (by decide) (fun c_4 => ?_) (fun c_4 => ?_)
      · have hf := (if_pos c_4).symm.trans hf
        refine lv_aload_n hx hb dX11_thrower_34 rfl (lv_at hl 0 rfl) ?_
        refine gF G hw h0 KX11 4 (k2 := 65) rfl (by decide) rfl fl_X11_40 dX11_thrower_35 ?_
        obtain ⟨S_1, hS_1, hf⟩ := bL_e hf
        refine kVv (rest := []) G hw (wX4_forget hZ S 65 S_1 (sub_PF_past hZ h0) hS_1.symm) cw_X11_48 (sub_PF_past hZ h0) KX4 ⟨Nat.le_of_ble_eq_true rfl, Nat.le_of_ble_eq_true rfl⟩ rfl hl.1 rfl (Nat.le_of_ble_eq_true rfl) ⟨Nat.le_refl _, Nat.le_refl _⟩ dX11_thrower_38 (fun H locs hw => ?_)
        refine lv_aload_n hx hb dX11_thrower_41 rfl (lv_at hl 0 rfl) ?_
        refine gF G hw h0 KX11 0 (k2 := 1) rfl (by decide) rfl fl_X11_10 dX11_thrower_42 ?_
        refine lv_iload_n hx hb dX11_thrower_45 rfl (lv_at hl 1 rfl) ?_
        obtain ⟨r_2, S_3, hr_2, hf⟩ := bB2_e hf
        refine kVi (rest := []) G hw (wX10_addThrower hZ S_1 1 a1 r_2 S_3 (sub_PF_now hZ h0) hr_2) cw_X11_69 (sub_PF_now hZ h0) KX10 ⟨Nat.le_of_ble_eq_true rfl, Nat.le_of_ble_eq_true rfl⟩ rfl hl.1 rfl (Nat.le_of_ble_eq_true rfl) ⟨Nat.le_refl _, Nat.le_refl _⟩ dX11_thrower_46 (fun H locs hw => ?_)
        obtain ⟨e1, e2⟩ := Prod.mk.inj (Option.some.inj hf)
        exact hret _ _ _ _ _ dX11_thrower_49 e1 (by rw [← e2]; exact hw)
      · have hf := (if_neg c_4).symm.trans hf
        refine lv_iconst hx hb dX11_thrower_32 ki_m1 ?_
        obtain ⟨e1, e2⟩ := Prod.mk.inj (Option.some.inj hf)
        exact hret _ _ _ _ _ dX11_thrower_33 e1 (by rw [← e2]; exact hw)
noncomputable def F10_one (S : pS) (k0 : Nat) (a1 : Int32) : Option (Option Nat) :=
  bL (fun (_ : Unit) =>
    some none) fun j27 =>
  if a1 < 0 then
    j27 ()
  else
    if (S k0 5) ≤ a1 then
      j27 ()
    else
      if 8 ≤ a1 then
        j27 ()
      else
        bG (vp_in a1 8) <|
        some (some ((k0 + 28) + 2 * a1.toNatClampNeg))
set_option maxRecDepth 100000 in
set_option maxHeartbeats 4000000 in
theorem wX10_one {l : Launch} {Z : pZ}  (hZ : CC Z) (S : pS) (k0 : Nat) (a1 : Int32) (r : Option Nat) (h0 : isA Z K_World k0) (hf : F10_one S k0 a1 = some r) : CQ l Z yX10_one cX10_one 2 (.object RX8) 3 60 [.ref (za Z k0), .int a1] S r S := by
  unfold F10_one at hf
  refine eQ (own := RX10) (by decide) rfl (Nat.le_of_ble_eq_true rfl) (fun p e s m args below meth c Q ls G hl hw hret => ?_)
  obtain ⟨hx, hb, hml, hown, hts⟩ := G.1
  have hl : lv_has ls 2 [(0, .ref (za Z k0)), (1, .int a1)] := hl
  refine lv_iload_n hx hb dX10_one_0 rfl (lv_at hl 1 rfl) ?_
  obtain ⟨j27, ej, hf⟩ := bL_e hf
  have R27 : ∀ (H : Heap) (locs : List Loc) (ls : Array Slot), Wd Z s S H locs → lv_has ls 2 [] → j27 () = some r → W p l e { frames := 3, cells := 0, slots := 0, locals := 60 } s m args below meth c H locs 0 0 Q (F0 m 27 ls []) := by
    intro  H locs ls hw hl hf
    have hf := (congrFun ej ()).symm.trans hf
    refine lv_null hx hb dX10_one_27 ?_
    exact hret none _ _ _ _ dX10_one_28 (Option.some.inj hf) hw
  clear ej
  refine lv_if_lt (tgt := 27) hx hb dX10_one_1 (by decide) (fun c_4 => ?_) (fun c_4 => ?_)
  · have hf := (if_pos c_4).symm.trans hf
    exact R27 _ _ _ hw (lv_sub hl [] rfl) hf
  · have hf := (if_neg c_4).symm.trans hf
    refine lv_iload_n hx hb dX10_one_4 rfl (lv_at hl 1 rfl) ?_
    refine lv_aload_n hx hb dX10_one_5 rfl (lv_at hl 0 rfl) ?_
    refine gI G hw h0 KX10 5 (by decide) rfl fl_X10_63 dX10_one_6 ?_
    refine lv_icmp_ge (tgt := 27) hx hb dX10_one_9 (by decide) (fun c_3 => ?_) (fun c_3 => ?_)
    · have hf := (if_pos c_3).symm.trans hf
      exact R27 _ _ _ hw (lv_sub hl [] rfl) hf
    · have hf := (if_neg c_3).symm.trans hf
      refine lv_iload_n hx hb dX10_one_12 rfl (lv_at hl 1 rfl) ?_
      refine lv_bipush hx hb dX10_one_13 kb_8 ?_
      refine lv_icmp_ge (tgt := 27) hx hb dX10_one_15 (by decide) (fun c_2 => ?_) (fun c_2 => ?_)
      · have hf := (if_pos c_2).symm.trans hf
        exact R27 _ _ _ hw (lv_sub hl [] rfl) hf
      · have hf := (if_neg c_2).symm.trans hf
        refine lv_aload_n hx hb dX10_one_18 rfl (lv_at hl 0 rfl) ?_
        refine gF G hw h0 KX10 11 (k2 := (k0 + 4)) rfl (by decide) rfl fl_X10_23 dX10_one_19 ?_
        refine lv_iload_n hx hb dX10_one_22 rfl (lv_at hl 1 rfl) ?_
        obtain ⟨hg_1, hf⟩ := bG_e hf
        refine aR G hw (sub_World_team hZ h0) hg_1 (j := a1.toNatClampNeg) (k2 := ((k0 + 28) + 2 * a1.toNatClampNeg)) rfl rfl dX10_one_23 ?_
        refine lv_goto (tgt := 28) hx hb dX10_one_24 (by decide) ?_
        exact hret (some ((k0 + 28) + 2 * a1.toNatClampNeg)) _ _ _ _ dX10_one_28 (Option.some.inj hf) hw
theorem ret_X10_one {Z : pZ} (hZ : CC Z) (S : pS) (k0 : Nat) (a1 : Int32) (h0 : isA Z K_World k0) {x : Nat} (hf : F10_one S k0 a1 = some (some x)) : isA Z K_Thrower x := by
  unfold F10_one at hf
  simp only [bL] at hf
  by_cases c1 : a1 < 0
  · rw [if_pos c1] at hf; cases hf
  rw [if_neg c1] at hf
  by_cases c2 : S k0 5 ≤ a1
  · rw [if_pos c2] at hf; cases hf
  rw [if_neg c2] at hf
  by_cases c3 : 8 ≤ a1
  · rw [if_pos c3] at hf; cases hf
  rw [if_neg c3] at hf
  obtain ⟨hg, hf⟩ := bG_e hf
  cases hf
  exact tm hZ (sub_World_team hZ h0) (vin_lt hg)
noncomputable def F11_tellThrower (S : pS) (a1 : Int32) (a2 : Int32) (a3 : Int32) : Option (Int32 × pS) :=
  bB (F10_one S 1 a2) fun r_1 =>
  bO r_1 (
    some ((0 : Int32), S)) fun o_2 =>
  bL (fun (_ : Unit) =>
    if a1 = 6 then
      if (F11_within a3 0 1000) = 0 then
        some ((0 : Int32), S)
      else
        bL (sU S o_2 1 a3) fun S_3 =>
        some ((1 : Int32), S_3)
    else
      some ((0 : Int32), S)) fun j40 =>
  if a1 = 5 then
    if (F11_within a3 0 99) = 0 then
      j40 ()
    else
      bL (sU S o_2 0 a3) fun S_6 =>
      some ((1 : Int32), S_6)
  else
    j40 ()
set_option maxRecDepth 100000 in
set_option maxHeartbeats 4000000 in
theorem wX11_tellThrower {l : Launch} {Z : pZ}  (hZ : CC Z) (S : pS) (a1 : Int32) (a2 : Int32) (a3 : Int32) (r : Int32) (S2 : pS) (h0 : isA Z K_PF 0) (hf : F11_tellThrower S a1 a2 a3 = some (r, S2)) : CI l Z yX11_tellThrower cX11_tellThrower 5 .boolean 4 82 [.ref (za Z 0), .int a1, .int a2, .int a3] S r S2 := by
  unfold F11_tellThrower at hf
  refine eZ (own := RX11) (by decide) rfl (Nat.le_of_ble_eq_true rfl) (fun p e s m args below meth c Q ls G hl hw hret => ?_)
  obtain ⟨hx, hb, hml, hown, hts⟩ := G.1
  have hl : lv_has ls 5 [(0, .ref (za Z 0)), (1, .int a1), (2, .int a2), (3, .int a3)] := hl
  refine lv_aload_n hx hb dX11_tellThrower_0 rfl (lv_at hl 0 rfl) ?_
  refine gF G hw h0 KX11 0 (k2 := 1) rfl (by decide) rfl fl_X11_10 dX11_tellThrower_1 ?_
  refine lv_iload_n hx hb dX11_tellThrower_4 rfl (lv_at hl 2 rfl) ?_
  obtain ⟨r_1, hr_1, hf⟩ := bB_e hf
  refine kVq (rest := []) G hw (wX10_one hZ S 1 a2 r_1 (sub_PF_now hZ h0) hr_1) cw_X11_80 (sub_PF_now hZ h0) KX10 ⟨Nat.le_of_ble_eq_true rfl, Nat.le_of_ble_eq_true rfl⟩ rfl hl.1 rfl (Nat.le_of_ble_eq_true rfl) ⟨Nat.le_refl _, Nat.le_refl _⟩ dX11_tellThrower_5 (fun H locs hw => ?_)
  refine astQ (lv' := [(4, va_rf (Option.map (za Z) r_1)), (0, .ref (za Z 0)), (1, .int a1), (2, .int a2), (3, .int a3)]) hx hb dX11_tellThrower_8 hl (by decide) rfl (fun ls hl => ?_)
  refine aldQ hx hb dX11_tellThrower_10 (lv_at hl 0 rfl) ?_
  refine ifnnQ (tgt := 17) hx hb dX11_tellThrower_12 (by decide) (fun e_9 => ?_) (fun o_2 e_9 => ?_)
  · subst e_9
    have hf := bO_n rfl hf
    refine lv_iconst hx hb dX11_tellThrower_15 ki_0 ?_
    obtain ⟨e1, e2⟩ := Prod.mk.inj (Option.some.inj hf)
    exact hret _ _ _ _ _ dX11_tellThrower_16 ((by decide : (0 : Int32) &&& 1 = 0).trans e1) (by rw [← e2]; exact hw)
  · subst e_9
    have hf := bO_s rfl hf
    have ho_2 := ret_X10_one hZ S 1 a2 (sub_PF_now hZ h0) (hr_1.trans (congrArg some rfl))
    refine lv_iload_n hx hb dX11_tellThrower_17 rfl (lv_at hl 2 rfl) ?_
    refine lv_iconst hx hb dX11_tellThrower_18 ki_5 ?_
    obtain ⟨j40, ej, hf⟩ := bL_e hf
    have R40 : ∀ (H : Heap) (locs : List Loc) (ls : Array Slot), Wd Z s S H locs → lv_has ls 5 [(1, .int a1), (3, .int a3), (4, .ref (za Z o_2))] → j40 () = some (r, S2) → W p l e { frames := 4, cells := 0, slots := 0, locals := 82 } s m args below meth c H locs 0 0 Q (F0 m 40 ls []) := by
      intro  H locs ls hw hl hf
      have hf := (congrFun ej ()).symm.trans hf
      refine lv_iload_n hx hb dX11_tellThrower_40 rfl (lv_at hl 0 rfl) ?_
      refine lv_bipush hx hb dX11_tellThrower_41 kb_6 ?_
      refine lv_icmp_ne (tgt := 65) hx hb dX11_tellThrower_43 (by decide) (fun c_5 => ?_) (fun c_5 => ?_)
      · have hf := (if_neg c_5).symm.trans hf
        refine lv_iconst hx hb dX11_tellThrower_65 ki_0 ?_
        obtain ⟨e1, e2⟩ := Prod.mk.inj (Option.some.inj hf)
        exact hret _ _ _ _ _ dX11_tellThrower_66 ((by decide : (0 : Int32) &&& 1 = 0).trans e1) (by rw [← e2]; exact hw)
      · have hf := (if_pos c_5).symm.trans hf
        refine lv_iload_n hx hb dX11_tellThrower_46 rfl (lv_at hl 1 rfl) ?_
        refine lv_iconst hx hb dX11_tellThrower_47 ki_0 ?_
        refine lv_sipush hx hb dX11_tellThrower_48 ks_1000 ?_
        refine kSi (rest := []) G hw (wX11_within hZ S a3 0 1000 (F11_within a3 0 1000) rfl) cw_X11_51 ⟨Nat.le_of_ble_eq_true rfl, Nat.le_of_ble_eq_true rfl⟩ rfl hl.1 rfl (Nat.le_of_ble_eq_true rfl) ⟨Nat.le_refl _, Nat.le_refl _⟩ dX11_tellThrower_51 (fun H locs hw => ?_)
        refine lv_if_eq (tgt := 65) hx hb dX11_tellThrower_54 (by decide) (fun c_4 => ?_) (fun c_4 => ?_)
        · have hf := (if_pos c_4).symm.trans hf
          refine lv_iconst hx hb dX11_tellThrower_65 ki_0 ?_
          obtain ⟨e1, e2⟩ := Prod.mk.inj (Option.some.inj hf)
          exact hret _ _ _ _ _ dX11_tellThrower_66 ((by decide : (0 : Int32) &&& 1 = 0).trans e1) (by rw [← e2]; exact hw)
        · have hf := (if_neg c_4).symm.trans hf
          refine lv_aload hx hb dX11_tellThrower_57 (lv_at hl 2 rfl) ?_
          refine lv_iload_n hx hb dX11_tellThrower_59 rfl (lv_at hl 1 rfl) ?_
          obtain ⟨S_3, eS_3, hf⟩ := bL_e hf
          refine pI G hw ho_2 KX8 1 (by decide) rfl rfl rfl eS_3 fl_X11_89 dX11_tellThrower_60 (fun H locs hw => ?_)
          refine lv_iconst hx hb dX11_tellThrower_63 ki_1 ?_
          obtain ⟨e1, e2⟩ := Prod.mk.inj (Option.some.inj hf)
          exact hret _ _ _ _ _ dX11_tellThrower_64 ((by decide : (1 : Int32) &&& 1 = 1).trans e1) (by rw [← e2]; exact hw)
    clear ej
    refine lv_icmp_ne (tgt := 40) hx hb dX11_tellThrower_19 (by decide) (fun c_8 => ?_) (fun c_8 => ?_)
    · have hf := (if_neg c_8).symm.trans hf
      exact R40 _ _ _ hw (lv_sub hl [2, 4, 0] rfl) hf
    · have hf := (if_pos c_8).symm.trans hf
      refine lv_iload_n hx hb dX11_tellThrower_22 rfl (lv_at hl 4 rfl) ?_
      refine lv_iconst hx hb dX11_tellThrower_23 ki_0 ?_
      refine lv_bipush hx hb dX11_tellThrower_24 kb_99 ?_
      refine kSi (rest := []) G hw (wX11_within hZ S a3 0 99 (F11_within a3 0 99) rfl) cw_X11_51 ⟨Nat.le_of_ble_eq_true rfl, Nat.le_of_ble_eq_true rfl⟩ rfl hl.1 rfl (Nat.le_of_ble_eq_true rfl) ⟨Nat.le_refl _, Nat.le_refl _⟩ dX11_tellThrower_26 (fun H locs hw => ?_)
      refine lv_if_eq (tgt := 40) hx hb dX11_tellThrower_29 (by decide) (fun c_7 => ?_) (fun c_7 => ?_)
      · have hf := (if_pos c_7).symm.trans hf
        exact R40 _ _ _ hw (lv_sub hl [2, 4, 0] rfl) hf
      · have hf := (if_neg c_7).symm.trans hf
        refine lv_aload hx hb dX11_tellThrower_32 (lv_at hl 0 rfl) ?_
        refine lv_iload_n hx hb dX11_tellThrower_34 rfl (lv_at hl 4 rfl) ?_
        obtain ⟨S_6, eS_6, hf⟩ := bL_e hf
        refine pI G hw ho_2 KX8 0 (by decide) rfl rfl rfl eS_6 fl_X11_84 dX11_tellThrower_35 (fun H locs hw => ?_)
        refine lv_iconst hx hb dX11_tellThrower_38 ki_1 ?_
        obtain ⟨e1, e2⟩ := Prod.mk.inj (Option.some.inj hf)
        exact hret _ _ _ _ _ dX11_tellThrower_39 ((by decide : (1 : Int32) &&& 1 = 1).trans e1) (by rw [← e2]; exact hw)
noncomputable def F10_tell (S : pS) (k0 : Nat) (a1 : Int32) (a2 : Int32) : Option (Int32 × pS) :=
  bL (fun (t_1 : Int32) =>
    if t_1 = 0 then
      some ((0 : Int32), S)
    else
      if (F11_within a1 0 4) = 0 then
        some ((0 : Int32), S)
      else
        bG (vp_in a1 5) <|
        bL (sU S (k0 + 1) a1.toNatClampNeg a2) fun S_3 =>
        some ((1 : Int32), S_3)) fun j38 =>
  if 1 < a1 then
    if 3 < a1 then
      j38 (F11_within a2 1 20)
    else
      j38 (F11_within a2 0 9)
  else
    j38 (F11_within a2 (-20) 20)
set_option maxRecDepth 100000 in
set_option maxHeartbeats 4000000 in
theorem wX10_tell {l : Launch} {Z : pZ}  (hZ : CC Z) (S : pS) (k0 : Nat) (a1 : Int32) (a2 : Int32) (r : Int32) (S2 : pS) (h0 : isA Z K_World k0) (hf : F10_tell S k0 a1 a2 = some (r, S2)) : CI l Z yX10_tell cX10_tell 4 .boolean 4 82 [.ref (za Z k0), .int a1, .int a2] S r S2 := by
  unfold F10_tell at hf
  refine eZ (own := RX10) (by decide) rfl (Nat.le_of_ble_eq_true rfl) (fun p e s m args below meth c Q ls G hl hw hret => ?_)
  obtain ⟨hx, hb, hml, hown, hts⟩ := G.1
  have hl : lv_has ls 4 [(0, .ref (za Z k0)), (1, .int a1), (2, .int a2)] := hl
  refine lv_iload_n hx hb dX10_tell_0 rfl (lv_at hl 1 rfl) ?_
  refine lv_iconst hx hb dX10_tell_1 ki_1 ?_
  obtain ⟨j38, ej, hf⟩ := bL_e hf
  have R38 : ∀ (t_1 : Int32) (H : Heap) (locs : List Loc) (ls : Array Slot), Wd Z s S H locs → lv_has ls 4 [(0, .ref (za Z k0)), (1, .int a1), (2, .int a2)] → j38 t_1 = some (r, S2) → W p l e { frames := 4, cells := 0, slots := 0, locals := 82 } s m args below meth c H locs 0 0 Q (F0 m 38 ls [.int t_1]) := by
    intro t_1 H locs ls hw hl hf
    have hf := (congrFun ej t_1).symm.trans hf
    refine lv_istore_n (lv' := [(3, .int t_1), (0, .ref (za Z k0)), (1, .int a1), (2, .int a2)]) hx hb dX10_tell_38 rfl hl (by decide) rfl (fun ls hl => ?_)
    refine lv_iload_n hx hb dX10_tell_39 rfl (lv_at hl 0 rfl) ?_
    refine lv_if_eq (tgt := 52) hx hb dX10_tell_40 (by decide) (fun c_5 => ?_) (fun c_5 => ?_)
    · have hf := (if_pos c_5).symm.trans hf
      refine lv_iconst hx hb dX10_tell_52 ki_0 ?_
      obtain ⟨e1, e2⟩ := Prod.mk.inj (Option.some.inj hf)
      exact hret _ _ _ _ _ dX10_tell_53 ((by decide : (0 : Int32) &&& 1 = 0).trans e1) (by rw [← e2]; exact hw)
    · have hf := (if_neg c_5).symm.trans hf
      refine lv_iload_n hx hb dX10_tell_43 rfl (lv_at hl 2 rfl) ?_
      refine lv_iconst hx hb dX10_tell_44 ki_0 ?_
      refine lv_iconst hx hb dX10_tell_45 ki_4 ?_
      refine kNi (rest := []) G hw (wX11_within hZ S a1 0 4 (F11_within a1 0 4) rfl) cw_X10_89 ⟨Nat.le_of_ble_eq_true rfl, Nat.le_of_ble_eq_true rfl⟩ rfl hl.1 rfl (Nat.le_of_ble_eq_true rfl) ⟨Nat.le_refl _, Nat.le_refl _⟩ dX10_tell_46 (fun H locs hw => ?_)
      refine lv_if_ne (tgt := 54) hx hb dX10_tell_49 (by decide) (fun c_4 => ?_) (fun c_4 => ?_)
      · have hf := (if_neg c_4).symm.trans hf
        refine lv_aload_n hx hb dX10_tell_54 rfl (lv_at hl 1 rfl) ?_
        refine gF G hw h0 KX10 8 (k2 := (k0 + 1)) rfl (by decide) rfl fl_X10_9 dX10_tell_55 ?_
        refine lv_iload_n hx hb dX10_tell_58 rfl (lv_at hl 2 rfl) ?_
        refine lv_iload_n hx hb dX10_tell_59 rfl (lv_at hl 3 rfl) ?_
        obtain ⟨hg_2, hf⟩ := bG_e hf
        obtain ⟨S_3, eS_3, hf⟩ := bL_e hf
        refine sI G hw (sub_World_told hZ h0) hg_2 (j := a1.toNatClampNeg) rfl eS_3 dX10_tell_60 (fun H locs hw => ?_)
        refine lv_iconst hx hb dX10_tell_61 ki_1 ?_
        obtain ⟨e1, e2⟩ := Prod.mk.inj (Option.some.inj hf)
        exact hret _ _ _ _ _ dX10_tell_62 ((by decide : (1 : Int32) &&& 1 = 1).trans e1) (by rw [← e2]; exact hw)
      · have hf := (if_pos c_4).symm.trans hf
        refine lv_iconst hx hb dX10_tell_52 ki_0 ?_
        obtain ⟨e1, e2⟩ := Prod.mk.inj (Option.some.inj hf)
        exact hret _ _ _ _ _ dX10_tell_53 ((by decide : (0 : Int32) &&& 1 = 0).trans e1) (by rw [← e2]; exact hw)
  clear ej
  refine lv_icmp_gt (tgt := 16) hx hb dX10_tell_2 (by decide) (fun c_7 => ?_) (fun c_7 => ?_)
  · have hf := (if_pos c_7).symm.trans hf
    refine lv_iload_n hx hb dX10_tell_16 rfl (lv_at hl 1 rfl) ?_
    refine lv_iconst hx hb dX10_tell_17 ki_3 ?_
    refine lv_icmp_gt (tgt := 31) hx hb dX10_tell_18 (by decide) (fun c_6 => ?_) (fun c_6 => ?_)
    · have hf := (if_pos c_6).symm.trans hf
      refine lv_iload_n hx hb dX10_tell_31 rfl (lv_at hl 2 rfl) ?_
      refine lv_iconst hx hb dX10_tell_32 ki_1 ?_
      refine lv_bipush hx hb dX10_tell_33 kb_20 ?_
      refine kNi (rest := []) G hw (wX11_within hZ S a2 1 20 (F11_within a2 1 20) rfl) cw_X10_89 ⟨Nat.le_of_ble_eq_true rfl, Nat.le_of_ble_eq_true rfl⟩ rfl hl.1 rfl (Nat.le_of_ble_eq_true rfl) ⟨Nat.le_refl _, Nat.le_refl _⟩ dX10_tell_35 (fun H locs hw => ?_)
      exact R38 _ _ _ _ hw (lv_sub hl [0, 1, 2] rfl) hf
    · have hf := (if_neg c_6).symm.trans hf
      refine lv_iload_n hx hb dX10_tell_21 rfl (lv_at hl 2 rfl) ?_
      refine lv_iconst hx hb dX10_tell_22 ki_0 ?_
      refine lv_bipush hx hb dX10_tell_23 kb_9 ?_
      refine kNi (rest := []) G hw (wX11_within hZ S a2 0 9 (F11_within a2 0 9) rfl) cw_X10_89 ⟨Nat.le_of_ble_eq_true rfl, Nat.le_of_ble_eq_true rfl⟩ rfl hl.1 rfl (Nat.le_of_ble_eq_true rfl) ⟨Nat.le_refl _, Nat.le_refl _⟩ dX10_tell_25 (fun H locs hw => ?_)
      refine lv_goto (tgt := 38) hx hb dX10_tell_28 (by decide) ?_
      exact R38 _ _ _ _ hw (lv_sub hl [0, 1, 2] rfl) hf
  · have hf := (if_neg c_7).symm.trans hf
    refine lv_iload_n hx hb dX10_tell_5 rfl (lv_at hl 2 rfl) ?_
    refine lv_bipush hx hb dX10_tell_6 kb_m20 ?_
    refine lv_bipush hx hb dX10_tell_8 kb_20 ?_
    refine kNi (rest := []) G hw (wX11_within hZ S a2 (-20) 20 (F11_within a2 (-20) 20) rfl) cw_X10_89 ⟨Nat.le_of_ble_eq_true rfl, Nat.le_of_ble_eq_true rfl⟩ rfl hl.1 rfl (Nat.le_of_ble_eq_true rfl) ⟨Nat.le_refl _, Nat.le_refl _⟩ dX10_tell_10 (fun H locs hw => ?_)
    refine lv_goto (tgt := 38) hx hb dX10_tell_13 (by decide) ?_
    exact R38 _ _ _ _ hw (lv_sub hl [0, 1, 2] rfl) hf
noncomputable def F11_set (S : pS) (a1 : Int32) (a2 : Int32) (a3 : Int32) : Option (Int32 × pS) :=
  bL (fun (t_1 : Int32) (S_2 : pS) =>
    if t_1 = 0 then
      some ((t_1 &&& 1), S_2)
    else
      bL (F4_forget S_2 65) fun S_3 =>
      some ((t_1 &&& 1), S_3)) fun j28 =>
  if (F11_within a1 0 4) = 0 then
    bB2 (F11_tellThrower S a1 a2 a3) fun r_5 S_6 =>
    j28 r_5 S_6
  else
    bB2 (F10_tell S 1 a1 a3) fun r_7 S_8 =>
    j28 r_7 S_8
set_option maxRecDepth 100000 in
set_option maxHeartbeats 4000000 in
theorem wX11_set {l : Launch} {Z : pZ}  (hZ : CC Z) (S : pS) (a1 : Int32) (a2 : Int32) (a3 : Int32) (r : Int32) (S2 : pS) (h0 : isA Z K_PF 0) (hf : F11_set S a1 a2 a3 = some (r, S2)) : CI l Z yX11_set cX11_set 5 .boolean 5 106 [.ref (za Z 0), .int a1, .int a2, .int a3] S r S2 := by
  unfold F11_set at hf
  refine eZ (own := RX11) (by decide) rfl (Nat.le_of_ble_eq_true rfl) (fun p e s m args below meth c Q ls G hl hw hret => ?_)
  obtain ⟨hx, hb, hml, hown, hts⟩ := G.1
  have hl : lv_has ls 5 [(0, .ref (za Z 0)), (1, .int a1), (2, .int a2), (3, .int a3)] := hl
  refine lv_iload_n hx hb dX11_set_0 rfl (lv_at hl 1 rfl) ?_
  refine lv_iconst hx hb dX11_set_1 ki_0 ?_
  refine lv_iconst hx hb dX11_set_2 ki_4 ?_
  refine kSi (rest := []) G hw (wX11_within hZ S a1 0 4 (F11_within a1 0 4) rfl) cw_X11_51 ⟨Nat.le_of_ble_eq_true rfl, Nat.le_of_ble_eq_true rfl⟩ rfl hl.1 rfl (Nat.le_of_ble_eq_true rfl) ⟨Nat.le_refl _, Nat.le_refl _⟩ dX11_set_3 (fun H locs hw => ?_)
  obtain ⟨j28, ej, hf⟩ := bL_e hf
  have R28 : ∀ (t_1 : Int32) (S_2 : pS) (H : Heap) (locs : List Loc) (ls : Array Slot), Wd Z s S_2 H locs → lv_has ls 5 [(0, .ref (za Z 0))] → j28 t_1 S_2 = some (r, S2) → W p l e { frames := 5, cells := 0, slots := 0, locals := 106 } s m args below meth c H locs 0 0 Q (F0 m 28 ls [.int t_1]) := by
    intro t_1 S_2 H locs ls hw hl hf
    have hf := (congrFun (congrFun ej t_1) S_2).symm.trans hf
    refine lv_istore (lv' := [(4, .int t_1), (0, .ref (za Z 0))]) hx hb dX11_set_28 hl (by decide) rfl (fun ls hl => ?_)
    refine lv_iload hx hb dX11_set_30 (lv_at hl 0 rfl) ?_
    refine lv_if_eq (tgt := 42) hx hb dX11_set_32 (by decide) (fun c_4 => ?_) (fun c_4 => ?_)
    · have hf := (if_pos c_4).symm.trans hf
      refine lv_iload hx hb dX11_set_42 (lv_at hl 0 rfl) ?_
      obtain ⟨e1, e2⟩ := Prod.mk.inj (Option.some.inj hf)
      exact hret _ _ _ _ _ dX11_set_44 e1 (by rw [← e2]; exact hw)
    · have hf := (if_neg c_4).symm.trans hf
      refine lv_aload_n hx hb dX11_set_35 rfl (lv_at hl 1 rfl) ?_
      refine gF G hw h0 KX11 4 (k2 := 65) rfl (by decide) rfl fl_X11_40 dX11_set_36 ?_
      obtain ⟨S_3, hS_3, hf⟩ := bL_e hf
      refine kVv (rest := []) G hw (wX4_forget hZ S_2 65 S_3 (sub_PF_past hZ h0) hS_3.symm) cw_X11_48 (sub_PF_past hZ h0) KX4 ⟨Nat.le_of_ble_eq_true rfl, Nat.le_of_ble_eq_true rfl⟩ rfl hl.1 rfl (Nat.le_of_ble_eq_true rfl) ⟨Nat.le_refl _, Nat.le_refl _⟩ dX11_set_39 (fun H locs hw => ?_)
      refine lv_iload hx hb dX11_set_42 (lv_at hl 0 rfl) ?_
      obtain ⟨e1, e2⟩ := Prod.mk.inj (Option.some.inj hf)
      exact hret _ _ _ _ _ dX11_set_44 e1 (by rw [← e2]; exact hw)
  clear ej
  refine lv_if_eq (tgt := 21) hx hb dX11_set_6 (by decide) (fun c_9 => ?_) (fun c_9 => ?_)
  · have hf := (if_pos c_9).symm.trans hf
    refine lv_aload_n hx hb dX11_set_21 rfl (lv_at hl 0 rfl) ?_
    refine lv_iload_n hx hb dX11_set_22 rfl (lv_at hl 1 rfl) ?_
    refine lv_iload_n hx hb dX11_set_23 rfl (lv_at hl 2 rfl) ?_
    refine lv_iload_n hx hb dX11_set_24 rfl (lv_at hl 3 rfl) ?_
    obtain ⟨r_5, S_6, hr_5, hf⟩ := bB2_e hf
    refine kVi (rest := []) G hw (wX11_tellThrower hZ S a1 a2 a3 r_5 S_6 h0 hr_5) cw_X11_77 h0 KX11 ⟨Nat.le_of_ble_eq_true rfl, Nat.le_of_ble_eq_true rfl⟩ rfl hl.1 rfl (Nat.le_of_ble_eq_true rfl) ⟨Nat.le_refl _, Nat.le_refl _⟩ dX11_set_25 (fun H locs hw => ?_)
    exact R28 _ _ _ _ _ hw (lv_sub hl [0] rfl) hf
  · have hf := (if_neg c_9).symm.trans hf
    refine lv_aload_n hx hb dX11_set_9 rfl (lv_at hl 0 rfl) ?_
    refine gF G hw h0 KX11 0 (k2 := 1) rfl (by decide) rfl fl_X11_10 dX11_set_10 ?_
    refine lv_iload_n hx hb dX11_set_13 rfl (lv_at hl 1 rfl) ?_
    refine lv_iload_n hx hb dX11_set_14 rfl (lv_at hl 3 rfl) ?_
    obtain ⟨r_7, S_8, hr_7, hf⟩ := bB2_e hf
    refine kVi (rest := []) G hw (wX10_tell hZ S 1 a1 a3 r_7 S_8 (sub_PF_now hZ h0) hr_7) cw_X11_73 (sub_PF_now hZ h0) KX10 ⟨Nat.le_of_ble_eq_true rfl, Nat.le_of_ble_eq_true rfl⟩ rfl hl.1 rfl (Nat.le_of_ble_eq_true rfl) ⟨Nat.le_refl _, Nat.le_refl _⟩ dX11_set_15 (fun H locs hw => ?_)
    refine lv_goto (tgt := 28) hx hb dX11_set_18 (by decide) ?_
    exact R28 _ _ _ _ _ hw (lv_sub hl [0] rfl) hf
noncomputable def F6_add (S : pS) (k0 : Nat) (a1 : Int32) : Option (pS) :=
  bL (fun (S_1 : pS) =>
    some S_1) fun g46_3 =>
  bL (u2 fun (l2_2 : Int32) (S_3 : pS) =>
    if l2_2 < 0 then
      some (.inr S_3)
    else
      bL (fun (S_5 : pS) =>
        bL (l2_2 + (-8)) fun l2_6 =>
        some (.inl (l2_6, S_5))) fun j40 =>
      if 400 ≤ (S_3 k0 0) then
        j40 S_3
      else
        bG (vp_in (S_3 k0 0) 400) <|
        bL (sU S_3 (k0 + 1) ((S_3 k0 0).toNatClampNeg) ((((a1.toUInt32 >>> ((l2_2 : Int32).toUInt32 &&& Int32.toUInt32 31)).toInt32 : Int32).toInt8.toInt32 : Int32).toInt8.toInt32)) fun S_8 =>
        bL (sU S_8 k0 0 ((S_8 k0 0) + 1)) fun S_9 =>
        j40 S_9) fun b3 =>
  bB (bP b3 ((24 : Int32), S)) (u1 g46_3)
set_option maxRecDepth 100000 in
set_option maxHeartbeats 4000000 in
theorem wX6_add {l : Launch} {Z : pZ}  (hZ : CC Z) (S : pS) (k0 : Nat) (a1 : Int32) (S2 : pS) (h0 : isA Z K_Tape k0) (hf : F6_add S k0 a1 = some S2) : CV l Z yX6_add cX6_add 3 3 60 [.ref (za Z k0), .int a1] S S2 := by
  unfold F6_add at hf
  refine eV (own := RX6) (by decide) rfl (Nat.le_of_ble_eq_true rfl) (fun p e s m args below meth c Q ls G hl hw hret => ?_)
  obtain ⟨hx, hb, hml, hown, hts⟩ := G.1
  have hl : lv_has ls 3 [(0, .ref (za Z k0)), (1, .int a1)] := hl
  refine lv_bipush hx hb dX6_add_0 kb_24 ?_
  refine lv_istore_n (lv' := [(2, .int 24), (0, .ref (za Z k0)), (1, .int a1)]) hx hb dX6_add_2 rfl hl (by decide) rfl (fun ls hl => ?_)
  obtain ⟨g46_3, ej, hf⟩ := bL_e hf
  have R46_3 : ∀ (S_1 : pS) (H : Heap) (locs : List Loc) (ls : Array Slot), Wd Z s S_1 H locs → lv_has ls 3 [] → g46_3 S_1 = some S2 → W p l e { frames := 3, cells := 0, slots := 0, locals := 60 } s m args below meth c H locs 0 0 Q (F0 m 46 ls []) := by
    intro S_1 H locs ls hw hl hf
    have hf := (congrFun ej S_1).symm.trans hf
    exact hret _ _ _ _ dX6_add_46 (by rw [← (Option.some.inj hf)]; exact hw)
  clear ej
  obtain ⟨b3, eb, hf⟩ := bL_e hf
  have RL3 : ∀ (n : Nat) z, (u1 g46_3) z = some S2 → ∀ (l2_2 : Int32) (S_3 : pS) (H : Heap) (locs : List Loc) (ls : Array Slot), Wd Z s S_3 H locs → lv_has ls 3 [(0, .ref (za Z k0)), (1, .int a1), (2, .int l2_2)] → bPn b3 n (l2_2, S_3) = some z → W p l e { frames := 3, cells := 0, slots := 0, locals := 60 } s m args below meth c H locs 0 0 Q (F0 m 3 ls []) := by
    intro n
    induction n with
    | zero =>
      intro z hg l2_2 S_3 H locs ls hw hl hz
      exact bPn_0 hz
    | succ n ih =>
      intro z hg l2_2 S_3 H locs ls hw hl hz
      obtain ⟨q_4, hf, hz⟩ := bPn_e hz
      have hf := u2_e ((congrFun eb _).symm.trans hf)
      refine lv_iload_n hx hb dX6_add_3 rfl (lv_at hl 2 rfl) ?_
      refine lv_if_lt (tgt := 46) hx hb dX6_add_4 (by decide) (fun c_11 => ?_) (fun c_11 => ?_)
      · have hf := (if_pos c_11).symm.trans hf
        obtain rfl := Option.some.inj hf
        obtain rfl := Option.some.inj (hz : some _ = some _)
        exact R46_3 _ _ _ _ hw (lv_sub hl [] rfl) hg
      · have hf := (if_neg c_11).symm.trans hf
        refine lv_aload_n hx hb dX6_add_7 rfl (lv_at hl 0 rfl) ?_
        refine gI G hw h0 KX6 0 (by decide) rfl fl_X6_25 dX6_add_8 ?_
        refine lv_sipush hx hb dX6_add_11 ks_400 ?_
        obtain ⟨j40, ej, hf⟩ := bL_e hf
        have R40 : ∀ (S_5 : pS) (H : Heap) (locs : List Loc) (ls : Array Slot), Wd Z s S_5 H locs → lv_has ls 3 [(0, .ref (za Z k0)), (1, .int a1), (2, .int l2_2)] → j40 S_5 = some q_4 → W p l e { frames := 3, cells := 0, slots := 0, locals := 60 } s m args below meth c H locs 0 0 Q (F0 m 40 ls []) := by
          intro S_5 H locs ls hw hl hf
          have hf := (congrFun ej S_5).symm.trans hf
          obtain ⟨l2_6, el2_6, hf⟩ := bL_e hf
          refine lv_iinc (v := l2_6) (lv' := [(2, .int l2_6), (0, .ref (za Z k0)), (1, .int a1)]) hx hb dX6_add_40 hl (k := 2) rfl (by rw [el2_6]; rfl) (by decide) rfl (fun ls hl => ?_)
          refine lv_goto (tgt := 3) hx hb dX6_add_43 (by decide) ?_
          obtain rfl := Option.some.inj hf
          exact ih _ hg _ _ _ _ _ hw (lv_sub hl [1, 2, 0] rfl) hz
        clear ej
        refine lv_icmp_ge (tgt := 40) hx hb dX6_add_14 (by decide) (fun c_10 => ?_) (fun c_10 => ?_)
        · have hf := (if_pos c_10).symm.trans hf
          exact R40 _ _ _ _ hw (lv_sub hl [0, 1, 2] rfl) hf
        · have hf := (if_neg c_10).symm.trans hf
          refine lv_aload_n hx hb dX6_add_17 rfl (lv_at hl 0 rfl) ?_
          refine gF G hw h0 KX6 4 (k2 := (k0 + 1)) rfl (by decide) rfl fl_X6_11 dX6_add_18 ?_
          refine lv_aload_n hx hb dX6_add_21 rfl (lv_at hl 0 rfl) ?_
          refine gI G hw h0 KX6 0 (by decide) rfl fl_X6_25 dX6_add_22 ?_
          refine lv_iload_n hx hb dX6_add_25 rfl (lv_at hl 1 rfl) ?_
          refine lv_iload_n hx hb dX6_add_26 rfl (lv_at hl 2 rfl) ?_
          refine lv_iushr hx hb dX6_add_27 rfl ?_
          refine lv_i2b hx hb dX6_add_28 rfl ?_
          obtain ⟨hg_7, hf⟩ := bG_e hf
          obtain ⟨S_8, eS_8, hf⟩ := bL_e hf
          refine sB G hw (sub_Tape_bytes hZ h0) hg_7 (j := (S_3 k0 0).toNatClampNeg) rfl eS_8 dX6_add_29 (fun H locs hw => ?_)
          refine lv_aload_n hx hb dX6_add_30 rfl (lv_at hl 0 rfl) ?_
          refine lv_dup hx hb dX6_add_31 rfl ?_
          refine gI G hw h0 KX6 0 (by decide) rfl fl_X6_25 dX6_add_32 ?_
          refine lv_iconst hx hb dX6_add_35 ki_1 ?_
          refine lv_iadd hx hb dX6_add_36 ?_
          obtain ⟨S_9, eS_9, hf⟩ := bL_e hf
          refine pI G hw h0 KX6 0 (by decide) rfl rfl rfl eS_9 fl_X6_25 dX6_add_37 (fun H locs hw => ?_)
          exact R40 _ _ _ _ hw (lv_sub hl [0, 1, 2] rfl) hf
  clear eb
  obtain ⟨z, hz, hf⟩ := bB_e hf
  obtain ⟨n, hz⟩ := bP_e hz
  exact RL3 n z hf _ _ _ _ _ hw (lv_sub hl [1, 2, 0] rfl) hz
noncomputable def F11_feed (S : pS) (a1 : Int32) (a2 : Int32) (a3 : Int32) (a4 : Int32) (a5 : Int32) : Option (Int32 × pS) :=
  if ((S 46 0) + 20) ≤ 400 then
    bB (F6_add S 46 a1) fun S_1 =>
    bB (F6_add S_1 46 a2) fun S_2 =>
    bB (F6_add S_2 46 a3) fun S_3 =>
    bB (F6_add S_3 46 a4) fun S_4 =>
    bB (F6_add S_4 46 a5) fun S_5 =>
    some (S_5 46 0, S_5)
  else
    some (((-1) : Int32), S)
set_option maxRecDepth 100000 in
set_option maxHeartbeats 4000000 in
theorem wX11_feed {l : Launch} {Z : pZ}  (hZ : CC Z) (S : pS) (a1 : Int32) (a2 : Int32) (a3 : Int32) (a4 : Int32) (a5 : Int32) (r : Int32) (S2 : pS) (h0 : isA Z K_PF 0) (hf : F11_feed S a1 a2 a3 a4 a5 = some (r, S2)) : CI l Z yX11_feed cX11_feed 7 .int 4 82 [.ref (za Z 0), .int a1, .int a2, .int a3, .int a4, .int a5] S r S2 := by
  unfold F11_feed at hf
  refine eI (own := RX11) (by decide) rfl (Nat.le_of_ble_eq_true rfl) (fun p e s m args below meth c Q ls G hl hw hret => ?_)
  obtain ⟨hx, hb, hml, hown, hts⟩ := G.1
  have hl : lv_has ls 7 [(0, .ref (za Z 0)), (1, .int a1), (2, .int a2), (3, .int a3), (4, .int a4), (5, .int a5)] := hl
  refine lv_aload_n hx hb dX11_feed_0 rfl (lv_at hl 0 rfl) ?_
  refine gF G hw h0 KX11 1 (k2 := 45) rfl (by decide) rfl fl_X11_19 dX11_feed_1 ?_
  refine gF G hw (sub_PF_reader hZ h0) KX5 0 (k2 := 46) rfl (by decide) rfl fl_X11_92 dX11_feed_4 ?_
  refine lv_astore (lv' := [(6, .ref (za Z 46)), (0, .ref (za Z 0)), (1, .int a1), (2, .int a2), (3, .int a3), (4, .int a4), (5, .int a5)]) hx hb dX11_feed_7 hl (by decide) rfl (fun ls hl => ?_)
  refine lv_aload hx hb dX11_feed_9 (lv_at hl 0 rfl) ?_
  refine gI G hw (sub_Reader_tape hZ (sub_PF_reader hZ h0)) KX6 0 (by decide) rfl fl_X11_96 dX11_feed_11 ?_
  refine lv_bipush hx hb dX11_feed_14 kb_20 ?_
  refine lv_iadd hx hb dX11_feed_16 ?_
  refine lv_sipush hx hb dX11_feed_17 ks_400 ?_
  refine lv_icmp_le (tgt := 25) hx hb dX11_feed_20 (by decide) (fun c_6 => ?_) (fun c_6 => ?_)
  · have hf := (if_pos c_6).symm.trans hf
    refine lv_aload hx hb dX11_feed_25 (lv_at hl 0 rfl) ?_
    refine lv_iload_n hx hb dX11_feed_27 rfl (lv_at hl 2 rfl) ?_
    obtain ⟨S_1, hS_1, hf⟩ := bB_e hf
    refine kVv (rest := []) G hw (wX6_add hZ S 46 a1 S_1 (sub_Reader_tape hZ (sub_PF_reader hZ h0)) hS_1) cw_X11_101 (sub_Reader_tape hZ (sub_PF_reader hZ h0)) KX6 ⟨Nat.le_of_ble_eq_true rfl, Nat.le_of_ble_eq_true rfl⟩ rfl hl.1 rfl (Nat.le_of_ble_eq_true rfl) ⟨Nat.le_refl _, Nat.le_refl _⟩ dX11_feed_28 (fun H locs hw => ?_)
    refine lv_aload hx hb dX11_feed_31 (lv_at hl 0 rfl) ?_
    refine lv_iload_n hx hb dX11_feed_33 rfl (lv_at hl 3 rfl) ?_
    obtain ⟨S_2, hS_2, hf⟩ := bB_e hf
    refine kVv (rest := []) G hw (wX6_add hZ S_1 46 a2 S_2 (sub_Reader_tape hZ (sub_PF_reader hZ h0)) hS_2) cw_X11_101 (sub_Reader_tape hZ (sub_PF_reader hZ h0)) KX6 ⟨Nat.le_of_ble_eq_true rfl, Nat.le_of_ble_eq_true rfl⟩ rfl hl.1 rfl (Nat.le_of_ble_eq_true rfl) ⟨Nat.le_refl _, Nat.le_refl _⟩ dX11_feed_34 (fun H locs hw => ?_)
    refine lv_aload hx hb dX11_feed_37 (lv_at hl 0 rfl) ?_
    refine lv_iload_n hx hb dX11_feed_39 rfl (lv_at hl 4 rfl) ?_
    obtain ⟨S_3, hS_3, hf⟩ := bB_e hf
    refine kVv (rest := []) G hw (wX6_add hZ S_2 46 a3 S_3 (sub_Reader_tape hZ (sub_PF_reader hZ h0)) hS_3) cw_X11_101 (sub_Reader_tape hZ (sub_PF_reader hZ h0)) KX6 ⟨Nat.le_of_ble_eq_true rfl, Nat.le_of_ble_eq_true rfl⟩ rfl hl.1 rfl (Nat.le_of_ble_eq_true rfl) ⟨Nat.le_refl _, Nat.le_refl _⟩ dX11_feed_40 (fun H locs hw => ?_)
    refine lv_aload hx hb dX11_feed_43 (lv_at hl 0 rfl) ?_
    refine lv_iload hx hb dX11_feed_45 (lv_at hl 5 rfl) ?_
    obtain ⟨S_4, hS_4, hf⟩ := bB_e hf
    refine kVv (rest := []) G hw (wX6_add hZ S_3 46 a4 S_4 (sub_Reader_tape hZ (sub_PF_reader hZ h0)) hS_4) cw_X11_101 (sub_Reader_tape hZ (sub_PF_reader hZ h0)) KX6 ⟨Nat.le_of_ble_eq_true rfl, Nat.le_of_ble_eq_true rfl⟩ rfl hl.1 rfl (Nat.le_of_ble_eq_true rfl) ⟨Nat.le_refl _, Nat.le_refl _⟩ dX11_feed_47 (fun H locs hw => ?_)
    refine lv_aload hx hb dX11_feed_50 (lv_at hl 0 rfl) ?_
    refine lv_iload hx hb dX11_feed_52 (lv_at hl 6 rfl) ?_
    obtain ⟨S_5, hS_5, hf⟩ := bB_e hf
    refine kVv (rest := []) G hw (wX6_add hZ S_4 46 a5 S_5 (sub_Reader_tape hZ (sub_PF_reader hZ h0)) hS_5) cw_X11_101 (sub_Reader_tape hZ (sub_PF_reader hZ h0)) KX6 ⟨Nat.le_of_ble_eq_true rfl, Nat.le_of_ble_eq_true rfl⟩ rfl hl.1 rfl (Nat.le_of_ble_eq_true rfl) ⟨Nat.le_refl _, Nat.le_refl _⟩ dX11_feed_54 (fun H locs hw => ?_)
    refine lv_aload hx hb dX11_feed_57 (lv_at hl 0 rfl) ?_
    refine gI G hw (sub_Reader_tape hZ (sub_PF_reader hZ h0)) KX6 0 (by decide) rfl fl_X11_96 dX11_feed_59 ?_
    obtain ⟨e1, e2⟩ := Prod.mk.inj (Option.some.inj hf)
    exact hret _ _ _ _ _ dX11_feed_62 e1 (by rw [← e2]; exact hw)
  · have hf := (if_neg c_6).symm.trans hf
    refine lv_iconst hx hb dX11_feed_23 ki_m1 ?_
    obtain ⟨e1, e2⟩ := Prod.mk.inj (Option.some.inj hf)
    exact hret _ _ _ _ _ dX11_feed_24 e1 (by rw [← e2]; exact hw)
noncomputable def F11_end (S : pS) (a1 : Int32) : Int32 × pS :=
  if (F11_within a1 0 (S 46 0)) = 0 then
    ((0 : Int32), S)
  else
    bL (sU S 46 0 a1) fun S_1 =>
    ((1 : Int32), S_1)
set_option maxRecDepth 100000 in
set_option maxHeartbeats 4000000 in
theorem wX11_end {l : Launch} {Z : pZ}  (hZ : CC Z) (S : pS) (a1 : Int32) (r : Int32) (S2 : pS) (h0 : isA Z K_PF 0) (hf : F11_end S a1 = (r, S2)) : CI l Z yX11_end cX11_end 2 .boolean 4 82 [.ref (za Z 0), .int a1] S r S2 := by
  unfold F11_end at hf
  refine eZ (own := RX11) (by decide) rfl (Nat.le_of_ble_eq_true rfl) (fun p e s m args below meth c Q ls G hl hw hret => ?_)
  obtain ⟨hx, hb, hml, hown, hts⟩ := G.1
  have hl : lv_has ls 2 [(0, .ref (za Z 0)), (1, .int a1)] := hl
  refine lv_iload_n hx hb dX11_end_0 rfl (lv_at hl 1 rfl) ?_
  refine lv_iconst hx hb dX11_end_1 ki_0 ?_
  refine lv_aload_n hx hb dX11_end_2 rfl (lv_at hl 0 rfl) ?_
  refine gF G hw h0 KX11 1 (k2 := 45) rfl (by decide) rfl fl_X11_19 dX11_end_3 ?_
  refine gF G hw (sub_PF_reader hZ h0) KX5 0 (k2 := 46) rfl (by decide) rfl fl_X11_92 dX11_end_6 ?_
  refine gI G hw (sub_Reader_tape hZ (sub_PF_reader hZ h0)) KX6 0 (by decide) rfl fl_X11_96 dX11_end_9 ?_
  refine kSi (rest := []) G hw (wX11_within hZ S a1 0 (S 46 0) (F11_within a1 0 (S 46 0)) rfl) cw_X11_51 ⟨Nat.le_of_ble_eq_true rfl, Nat.le_of_ble_eq_true rfl⟩ rfl hl.1 rfl (Nat.le_of_ble_eq_true rfl) ⟨Nat.le_refl _, Nat.le_refl _⟩ dX11_end_12 (fun H locs hw => ?_)
  refine lv_if_ne (tgt := 20) hx hb dX11_end_15 (by decide) (fun c_2 => ?_) (fun c_2 => ?_)
  · have hf := (if_neg c_2).symm.trans hf
    refine lv_aload_n hx hb dX11_end_20 rfl (lv_at hl 0 rfl) ?_
    refine gF G hw h0 KX11 1 (k2 := 45) rfl (by decide) rfl fl_X11_19 dX11_end_21 ?_
    refine gF G hw (sub_PF_reader hZ h0) KX5 0 (k2 := 46) rfl (by decide) rfl fl_X11_92 dX11_end_24 ?_
    refine lv_iload_n hx hb dX11_end_27 rfl (lv_at hl 1 rfl) ?_
    obtain ⟨S_1, eS_1, hf⟩ := bL_e hf
    refine pI G hw (sub_Reader_tape hZ (sub_PF_reader hZ h0)) KX6 0 (by decide) rfl rfl rfl eS_1 fl_X11_96 dX11_end_28 (fun H locs hw => ?_)
    refine lv_iconst hx hb dX11_end_31 ki_1 ?_
    obtain ⟨e1, e2⟩ := Prod.mk.inj hf
    exact hret _ _ _ _ _ dX11_end_32 ((by decide : (1 : Int32) &&& 1 = 1).trans e1) (by rw [← e2]; exact hw)
  · have hf := (if_pos c_2).symm.trans hf
    refine lv_iconst hx hb dX11_end_18 ki_0 ?_
    obtain ⟨e1, e2⟩ := Prod.mk.inj hf
    exact hret _ _ _ _ _ dX11_end_19 ((by decide : (0 : Int32) &&& 1 = 0).trans e1) (by rw [← e2]; exact hw)
noncomputable def F3_copy (S : pS) (k0 : Nat) (k1 : Nat) : pS :=
  bL (sU S k0 0 (S k1 0)) fun S_1 =>
  bL (sU S_1 k0 1 (S_1 k1 1)) fun S_2 =>
  bL (sR S_2 (k0 + 1) (va_cpy (S_2 (k1 + 1)) (S_2 (k0 + 1)) 0 0 16)) fun S_3 =>
  bL (sR S_3 (k0 + 2) (va_cpy (S_3 (k1 + 2)) (S_3 (k0 + 2)) 0 0 16)) fun S_4 =>
  bL (sR S_4 (k0 + 3) (va_cpy (S_4 (k1 + 3)) (S_4 (k0 + 3)) 0 0 16)) fun S_5 =>
  bL (sR S_5 (k0 + 4) (va_cpy (S_5 (k1 + 4)) (S_5 (k0 + 4)) 0 0 16)) fun S_6 =>
  bL (sR S_6 (k0 + 5) (va_cpy (S_6 (k1 + 5)) (S_6 (k0 + 5)) 0 0 400)) fun S_7 =>
  S_7
set_option maxRecDepth 100000 in
set_option maxHeartbeats 4000000 in
theorem wX3_copy {l : Launch} {Z : pZ}  (hZ : CC Z) (S : pS) (k0 : Nat) (k1 : Nat) (S2 : pS) (h0 : isA Z K_Law k0) (h1 : isA Z K_Law k1) (hf : F3_copy S k0 k1 = S2) : CV l Z yX3_copy cX3_copy 2 3 60 [.ref (za Z k0), .ref (za Z k1)] S S2 := by
  unfold F3_copy at hf
  refine eV (own := RX3) (by decide) rfl (Nat.le_of_ble_eq_true rfl) (fun p e s m args below meth c Q ls G hl hw hret => ?_)
  obtain ⟨hx, hb, hml, hown, hts⟩ := G.1
  have hl : lv_has ls 2 [(0, .ref (za Z k0)), (1, .ref (za Z k1))] := hl
  refine lv_aload_n hx hb dX3_copy_0 rfl (lv_at hl 0 rfl) ?_
  refine lv_aload_n hx hb dX3_copy_1 rfl (lv_at hl 1 rfl) ?_
  refine gI G hw h1 KX3 0 (by decide) rfl fl_X3_30 dX3_copy_2 ?_
  obtain ⟨S_1, eS_1, hf⟩ := bL_e hf
  refine pI G hw h0 KX3 0 (by decide) rfl rfl rfl eS_1 fl_X3_30 dX3_copy_5 (fun H locs hw => ?_)
  refine lv_aload_n hx hb dX3_copy_8 rfl (lv_at hl 0 rfl) ?_
  refine lv_aload_n hx hb dX3_copy_9 rfl (lv_at hl 1 rfl) ?_
  refine gI G hw h1 KX3 1 (by decide) rfl fl_X3_34 dX3_copy_10 ?_
  obtain ⟨S_2, eS_2, hf⟩ := bL_e hf
  refine pI G hw h0 KX3 1 (by decide) rfl rfl rfl eS_2 fl_X3_34 dX3_copy_13 (fun H locs hw => ?_)
  refine lv_aload_n hx hb dX3_copy_16 rfl (lv_at hl 1 rfl) ?_
  refine gF G hw h1 KX3 2 (k2 := (k1 + 1)) rfl (by decide) rfl fl_X3_9 dX3_copy_17 ?_
  refine lv_iconst hx hb dX3_copy_20 ki_0 ?_
  refine lv_aload_n hx hb dX3_copy_21 rfl (lv_at hl 0 rfl) ?_
  refine gF G hw h0 KX3 2 (k2 := (k0 + 1)) rfl (by decide) rfl fl_X3_9 dX3_copy_22 ?_
  refine lv_iconst hx hb dX3_copy_25 ki_0 ?_
  refine lv_aload_n hx hb dX3_copy_26 rfl (lv_at hl 0 rfl) ?_
  refine gF G hw h0 KX3 2 (k2 := (k0 + 1)) rfl (by decide) rfl fl_X3_9 dX3_copy_27 ?_
  refine aL G hw (t := 0) (sub_Law_word hZ h0) rfl (v := 16) (by decide) dX3_copy_30 ?_
  obtain ⟨S_3, eS_3, hf⟩ := bL_e hf
  refine xcpy G hw hl.1 (sub_Law_word hZ h1) (sub_Law_word hZ h0) ml_X3_37 (Nat.le_of_ble_eq_true rfl) (by decide) (by decide) (by decide) (by decide) eS_3 dX3_copy_31 (fun H locs hw => ?_)
  refine lv_aload_n hx hb dX3_copy_34 rfl (lv_at hl 1 rfl) ?_
  refine gF G hw h1 KX3 3 (k2 := (k1 + 2)) rfl (by decide) rfl fl_X3_13 dX3_copy_35 ?_
  refine lv_iconst hx hb dX3_copy_38 ki_0 ?_
  refine lv_aload_n hx hb dX3_copy_39 rfl (lv_at hl 0 rfl) ?_
  refine gF G hw h0 KX3 3 (k2 := (k0 + 2)) rfl (by decide) rfl fl_X3_13 dX3_copy_40 ?_
  refine lv_iconst hx hb dX3_copy_43 ki_0 ?_
  refine lv_aload_n hx hb dX3_copy_44 rfl (lv_at hl 0 rfl) ?_
  refine gF G hw h0 KX3 3 (k2 := (k0 + 2)) rfl (by decide) rfl fl_X3_13 dX3_copy_45 ?_
  refine aL G hw (t := 0) (sub_Law_from hZ h0) rfl (v := 16) (by decide) dX3_copy_48 ?_
  obtain ⟨S_4, eS_4, hf⟩ := bL_e hf
  refine xcpy G hw hl.1 (sub_Law_from hZ h1) (sub_Law_from hZ h0) ml_X3_37 (Nat.le_of_ble_eq_true rfl) (by decide) (by decide) (by decide) (by decide) eS_4 dX3_copy_49 (fun H locs hw => ?_)
  refine lv_aload_n hx hb dX3_copy_52 rfl (lv_at hl 1 rfl) ?_
  refine gF G hw h1 KX3 4 (k2 := (k1 + 3)) rfl (by decide) rfl fl_X3_16 dX3_copy_53 ?_
  refine lv_iconst hx hb dX3_copy_56 ki_0 ?_
  refine lv_aload_n hx hb dX3_copy_57 rfl (lv_at hl 0 rfl) ?_
  refine gF G hw h0 KX3 4 (k2 := (k0 + 3)) rfl (by decide) rfl fl_X3_16 dX3_copy_58 ?_
  refine lv_iconst hx hb dX3_copy_61 ki_0 ?_
  refine lv_aload_n hx hb dX3_copy_62 rfl (lv_at hl 0 rfl) ?_
  refine gF G hw h0 KX3 4 (k2 := (k0 + 3)) rfl (by decide) rfl fl_X3_16 dX3_copy_63 ?_
  refine aL G hw (t := 0) (sub_Law_when hZ h0) rfl (v := 16) (by decide) dX3_copy_66 ?_
  obtain ⟨S_5, eS_5, hf⟩ := bL_e hf
  refine xcpy G hw hl.1 (sub_Law_when hZ h1) (sub_Law_when hZ h0) ml_X3_37 (Nat.le_of_ble_eq_true rfl) (by decide) (by decide) (by decide) (by decide) eS_5 dX3_copy_67 (fun H locs hw => ?_)
  refine lv_aload_n hx hb dX3_copy_70 rfl (lv_at hl 1 rfl) ?_
  refine gF G hw h1 KX3 5 (k2 := (k1 + 4)) rfl (by decide) rfl fl_X3_19 dX3_copy_71 ?_
  refine lv_iconst hx hb dX3_copy_74 ki_0 ?_
  refine lv_aload_n hx hb dX3_copy_75 rfl (lv_at hl 0 rfl) ?_
  refine gF G hw h0 KX3 5 (k2 := (k0 + 4)) rfl (by decide) rfl fl_X3_19 dX3_copy_76 ?_
  refine lv_iconst hx hb dX3_copy_79 ki_0 ?_
  refine lv_aload_n hx hb dX3_copy_80 rfl (lv_at hl 0 rfl) ?_
  refine gF G hw h0 KX3 5 (k2 := (k0 + 4)) rfl (by decide) rfl fl_X3_19 dX3_copy_81 ?_
  refine aL G hw (t := 0) (sub_Law_to hZ h0) rfl (v := 16) (by decide) dX3_copy_84 ?_
  obtain ⟨S_6, eS_6, hf⟩ := bL_e hf
  refine xcpy G hw hl.1 (sub_Law_to hZ h1) (sub_Law_to hZ h0) ml_X3_37 (Nat.le_of_ble_eq_true rfl) (by decide) (by decide) (by decide) (by decide) eS_6 dX3_copy_85 (fun H locs hw => ?_)
  refine lv_aload_n hx hb dX3_copy_88 rfl (lv_at hl 1 rfl) ?_
  refine gF G hw h1 KX3 6 (k2 := (k1 + 5)) rfl (by decide) rfl fl_X3_24 dX3_copy_89 ?_
  refine lv_iconst hx hb dX3_copy_92 ki_0 ?_
  refine lv_aload_n hx hb dX3_copy_93 rfl (lv_at hl 0 rfl) ?_
  refine gF G hw h0 KX3 6 (k2 := (k0 + 5)) rfl (by decide) rfl fl_X3_24 dX3_copy_94 ?_
  refine lv_iconst hx hb dX3_copy_97 ki_0 ?_
  refine lv_aload_n hx hb dX3_copy_98 rfl (lv_at hl 0 rfl) ?_
  refine gF G hw h0 KX3 6 (k2 := (k0 + 5)) rfl (by decide) rfl fl_X3_24 dX3_copy_99 ?_
  refine aL G hw (t := 0) (sub_Law_step hZ h0) rfl (v := 400) (by decide) dX3_copy_102 ?_
  obtain ⟨S_7, eS_7, hf⟩ := bL_e hf
  refine xcpy G hw hl.1 (sub_Law_step hZ h1) (sub_Law_step hZ h0) ml_X3_37 (Nat.le_of_ble_eq_true rfl) (by decide) (by decide) (by decide) (by decide) eS_7 dX3_copy_103 (fun H locs hw => ?_)
  exact hret _ _ _ _ dX3_copy_106 (by rw [← hf]; exact hw)
noncomputable def F11_keepLaw (S : pS) (k1 : Nat) : Int32 × pS :=
  bL (F3_copy S k1 51) fun S_1 =>
  (S_1 k1 0, S_1)
set_option maxRecDepth 100000 in
set_option maxHeartbeats 4000000 in
theorem wX11_keepLaw {l : Launch} {Z : pZ}  (hZ : CC Z) (S : pS) (k1 : Nat) (r : Int32) (S2 : pS) (h0 : isA Z K_PF 0) (h1 : isA Z K_Law k1) (hf : F11_keepLaw S k1 = (r, S2)) : CI l Z yX11_keepLaw cX11_keepLaw 2 .int 4 81 [.ref (za Z 0), .ref (za Z k1)] S r S2 := by
  unfold F11_keepLaw at hf
  refine eI (own := RX11) (by decide) rfl (Nat.le_of_ble_eq_true rfl) (fun p e s m args below meth c Q ls G hl hw hret => ?_)
  obtain ⟨hx, hb, hml, hown, hts⟩ := G.1
  have hl : lv_has ls 2 [(0, .ref (za Z 0)), (1, .ref (za Z k1))] := hl
  refine lv_aload_n hx hb dX11_keepLaw_0 rfl (lv_at hl 1 rfl) ?_
  refine lv_aload_n hx hb dX11_keepLaw_1 rfl (lv_at hl 0 rfl) ?_
  refine gF G hw h0 KX11 1 (k2 := 45) rfl (by decide) rfl fl_X11_19 dX11_keepLaw_2 ?_
  refine gF G hw (sub_PF_reader hZ h0) KX5 3 (k2 := 51) rfl (by decide) rfl fl_X11_139 dX11_keepLaw_5 ?_
  obtain ⟨S_1, hS_1, hf⟩ := bL_e hf
  refine kVv (rest := []) G hw (wX3_copy hZ S k1 51 S_1 h1 (sub_Reader_law hZ (sub_PF_reader hZ h0)) hS_1.symm) cw_X11_141 h1 KX3 ⟨Nat.le_of_ble_eq_true rfl, Nat.le_of_ble_eq_true rfl⟩ rfl hl.1 rfl (Nat.le_of_ble_eq_true rfl) ⟨Nat.le_refl _, Nat.le_refl _⟩ dX11_keepLaw_8 (fun H locs hw => ?_)
  refine lv_aload_n hx hb dX11_keepLaw_11 rfl (lv_at hl 1 rfl) ?_
  refine gI G hw h1 KX3 0 (by decide) rfl fl_X11_147 dX11_keepLaw_12 ?_
  obtain ⟨e1, e2⟩ := Prod.mk.inj hf
  exact hret _ _ _ _ _ dX11_keepLaw_15 e1 (by rw [← e2]; exact hw)
noncomputable def F11_keepPlan (S : pS) (k1 : Nat) : Int32 × pS :=
  bL (sR S (k1 + 1) (va_cpy (S 58) (S (k1 + 1)) 0 0 60)) fun S_1 =>
  bL (sU S_1 k1 4 (S_1 45 5)) fun S_2 =>
  bL (sU S_2 k1 5 0) fun S_3 =>
  bL (F4_forget S_3 65) fun S_4 =>
  (S_4 k1 4, S_4)
set_option maxRecDepth 100000 in
set_option maxHeartbeats 4000000 in
theorem wX11_keepPlan {l : Launch} {Z : pZ}  (hZ : CC Z) (S : pS) (k1 : Nat) (r : Int32) (S2 : pS) (h0 : isA Z K_PF 0) (h1 : isA Z K_Thrower k1) (hf : F11_keepPlan S k1 = (r, S2)) : CI l Z yX11_keepPlan cX11_keepPlan 2 .int 4 80 [.ref (za Z 0), .ref (za Z k1)] S r S2 := by
  unfold F11_keepPlan at hf
  refine eI (own := RX11) (by decide) rfl (Nat.le_of_ble_eq_true rfl) (fun p e s m args below meth c Q ls G hl hw hret => ?_)
  obtain ⟨hx, hb, hml, hown, hts⟩ := G.1
  have hl : lv_has ls 2 [(0, .ref (za Z 0)), (1, .ref (za Z k1))] := hl
  refine lv_aload_n hx hb dX11_keepPlan_0 rfl (lv_at hl 0 rfl) ?_
  refine gF G hw h0 KX11 1 (k2 := 45) rfl (by decide) rfl fl_X11_19 dX11_keepPlan_1 ?_
  refine gF G hw (sub_PF_reader hZ h0) KX5 4 (k2 := 58) rfl (by decide) rfl fl_X11_150 dX11_keepPlan_4 ?_
  refine lv_iconst hx hb dX11_keepPlan_7 ki_0 ?_
  refine lv_aload_n hx hb dX11_keepPlan_8 rfl (lv_at hl 1 rfl) ?_
  refine gF G hw h1 KX8 6 (k2 := (k1 + 1)) rfl (by decide) rfl fl_X11_154 dX11_keepPlan_9 ?_
  refine lv_iconst hx hb dX11_keepPlan_12 ki_0 ?_
  refine lv_aload_n hx hb dX11_keepPlan_13 rfl (lv_at hl 1 rfl) ?_
  refine gF G hw h1 KX8 6 (k2 := (k1 + 1)) rfl (by decide) rfl fl_X11_154 dX11_keepPlan_14 ?_
  refine aL G hw (t := 0) (sub_Thrower_plan hZ h1) rfl (v := 60) (by decide) dX11_keepPlan_17 ?_
  obtain ⟨S_1, eS_1, hf⟩ := bL_e hf
  refine xcpy G hw hl.1 (sub_Reader_orders hZ (sub_PF_reader hZ h0)) (sub_Thrower_plan hZ h1) ml_X11_156 (Nat.le_of_ble_eq_true rfl) (by decide) (by decide) (by decide) (by decide) eS_1 dX11_keepPlan_18 (fun H locs hw => ?_)
  refine lv_aload_n hx hb dX11_keepPlan_21 rfl (lv_at hl 1 rfl) ?_
  refine lv_aload_n hx hb dX11_keepPlan_22 rfl (lv_at hl 0 rfl) ?_
  refine gF G hw h0 KX11 1 (k2 := 45) rfl (by decide) rfl fl_X11_19 dX11_keepPlan_23 ?_
  refine gI G hw (sub_PF_reader hZ h0) KX5 5 (by decide) rfl fl_X11_162 dX11_keepPlan_26 ?_
  obtain ⟨S_2, eS_2, hf⟩ := bL_e hf
  refine pI G hw h1 KX8 4 (by decide) rfl rfl rfl eS_2 fl_X11_165 dX11_keepPlan_29 (fun H locs hw => ?_)
  refine lv_aload_n hx hb dX11_keepPlan_32 rfl (lv_at hl 1 rfl) ?_
  refine lv_iconst hx hb dX11_keepPlan_33 ki_0 ?_
  obtain ⟨S_3, eS_3, hf⟩ := bL_e hf
  refine pI G hw h1 KX8 5 (by decide) rfl rfl rfl eS_3 fl_X11_167 dX11_keepPlan_34 (fun H locs hw => ?_)
  refine lv_aload_n hx hb dX11_keepPlan_37 rfl (lv_at hl 0 rfl) ?_
  refine gF G hw h0 KX11 4 (k2 := 65) rfl (by decide) rfl fl_X11_40 dX11_keepPlan_38 ?_
  obtain ⟨S_4, hS_4, hf⟩ := bL_e hf
  refine kVv (rest := []) G hw (wX4_forget hZ S_3 65 S_4 (sub_PF_past hZ h0) hS_4.symm) cw_X11_48 (sub_PF_past hZ h0) KX4 ⟨Nat.le_of_ble_eq_true rfl, Nat.le_of_ble_eq_true rfl⟩ rfl hl.1 rfl (Nat.le_of_ble_eq_true rfl) ⟨Nat.le_refl _, Nat.le_refl _⟩ dX11_keepPlan_41 (fun H locs hw => ?_)
  refine lv_aload_n hx hb dX11_keepPlan_44 rfl (lv_at hl 1 rfl) ?_
  refine gI G hw h1 KX8 4 (by decide) rfl fl_X11_165 dX11_keepPlan_45 ?_
  obtain ⟨e1, e2⟩ := Prod.mk.inj hf
  exact hret _ _ _ _ _ dX11_keepPlan_48 e1 (by rw [← e2]; exact hw)
noncomputable def F3_clear (S : pS) (k0 : Nat) : pS :=
  bL (sU S k0 0 0) fun S_1 =>
  bL (sU S_1 k0 1 0) fun S_2 =>
  S_2
set_option maxRecDepth 100000 in
set_option maxHeartbeats 4000000 in
theorem wX3_clear {l : Launch} {Z : pZ}  (hZ : CC Z) (S : pS) (k0 : Nat) (S2 : pS) (h0 : isA Z K_Law k0) (hf : F3_clear S k0 = S2) : CV l Z yX3_clear cX3_clear 1 3 60 [.ref (za Z k0)] S S2 := by
  unfold F3_clear at hf
  refine eV (own := RX3) (by decide) rfl (Nat.le_of_ble_eq_true rfl) (fun p e s m args below meth c Q ls G hl hw hret => ?_)
  obtain ⟨hx, hb, hml, hown, hts⟩ := G.1
  have hl : lv_has ls 1 [(0, .ref (za Z k0))] := hl
  refine lv_aload_n hx hb dX3_clear_0 rfl (lv_at hl 0 rfl) ?_
  refine lv_iconst hx hb dX3_clear_1 ki_0 ?_
  obtain ⟨S_1, eS_1, hf⟩ := bL_e hf
  refine pI G hw h0 KX3 0 (by decide) rfl rfl rfl eS_1 fl_X3_30 dX3_clear_2 (fun H locs hw => ?_)
  refine lv_aload_n hx hb dX3_clear_5 rfl (lv_at hl 0 rfl) ?_
  refine lv_iconst hx hb dX3_clear_6 ki_0 ?_
  obtain ⟨S_2, eS_2, hf⟩ := bL_e hf
  refine pI G hw h0 KX3 1 (by decide) rfl rfl rfl eS_2 fl_X3_34 dX3_clear_7 (fun H locs hw => ?_)
  exact hret _ _ _ _ dX3_clear_10 (by rw [← hf]; exact hw)
noncomputable def F5_begin (S : pS) (k0 : Nat) : pS :=
  bL (sU S k0 1 0) fun S_1 =>
  bL (sU S_1 k0 2 (-1)) fun S_2 =>
  bL (sU S_2 k0 5 0) fun S_3 =>
  bL (F3_clear S_3 (k0 + 6)) fun S_4 =>
  S_4
set_option maxRecDepth 100000 in
set_option maxHeartbeats 4000000 in
theorem wX5_begin {l : Launch} {Z : pZ}  (hZ : CC Z) (S : pS) (k0 : Nat) (S2 : pS) (h0 : isA Z K_Reader k0) (hf : F5_begin S k0 = S2) : CV l Z yX5_begin cX5_begin 1 4 80 [.ref (za Z k0)] S S2 := by
  unfold F5_begin at hf
  refine eV (own := RX5) (by decide) rfl (Nat.le_of_ble_eq_true rfl) (fun p e s m args below meth c Q ls G hl hw hret => ?_)
  obtain ⟨hx, hb, hml, hown, hts⟩ := G.1
  have hl : lv_has ls 1 [(0, .ref (za Z k0))] := hl
  refine lv_aload_n hx hb dX5_begin_0 rfl (lv_at hl 0 rfl) ?_
  refine lv_iconst hx hb dX5_begin_1 ki_0 ?_
  obtain ⟨S_1, eS_1, hf⟩ := bL_e hf
  refine pI G hw h0 KX5 1 (by decide) rfl rfl rfl eS_1 fl_X5_35 dX5_begin_2 (fun H locs hw => ?_)
  refine lv_aload_n hx hb dX5_begin_5 rfl (lv_at hl 0 rfl) ?_
  refine lv_iconst hx hb dX5_begin_6 ki_m1 ?_
  obtain ⟨S_2, eS_2, hf⟩ := bL_e hf
  refine pI G hw h0 KX5 2 (by decide) rfl rfl rfl eS_2 fl_X5_18 dX5_begin_7 (fun H locs hw => ?_)
  refine lv_aload_n hx hb dX5_begin_10 rfl (lv_at hl 0 rfl) ?_
  refine lv_iconst hx hb dX5_begin_11 ki_0 ?_
  obtain ⟨S_3, eS_3, hf⟩ := bL_e hf
  refine pI G hw h0 KX5 5 (by decide) rfl rfl rfl eS_3 fl_X5_38 dX5_begin_12 (fun H locs hw => ?_)
  refine lv_aload_n hx hb dX5_begin_15 rfl (lv_at hl 0 rfl) ?_
  refine gF G hw h0 KX5 3 (k2 := (k0 + 6)) rfl (by decide) rfl fl_X5_25 dX5_begin_16 ?_
  obtain ⟨S_4, hS_4, hf⟩ := bL_e hf
  refine kVv (rest := []) G hw (wX3_clear hZ S_3 (k0 + 6) S_4 (sub_Reader_law hZ h0) hS_4.symm) cw_X5_41 (sub_Reader_law hZ h0) KX3 ⟨Nat.le_of_ble_eq_true rfl, Nat.le_of_ble_eq_true rfl⟩ rfl hl.1 rfl (Nat.le_of_ble_eq_true rfl) ⟨Nat.le_refl _, Nat.le_refl _⟩ dX5_begin_19 (fun H locs hw => ?_)
  exact hret _ _ _ _ dX5_begin_22 (by rw [← hf]; exact hw)
noncomputable def F3_beginLine (S : pS) (k0 : Nat) (a1 : Int32) : Option (pS) :=
  if 16 ≤ (S k0 0) then
    some S
  else
    bG (vp_in (S k0 0) 16) <|
    bL (sU S (k0 + 1) ((S k0 0).toNatClampNeg) a1) fun S_2 =>
    bG (vp_in (S_2 k0 0) 16) <|
    bL (sU S_2 (k0 + 2) ((S_2 k0 0).toNatClampNeg) (S_2 k0 1)) fun S_4 =>
    some S_4
set_option maxRecDepth 100000 in
set_option maxHeartbeats 4000000 in
theorem wX3_beginLine {l : Launch} {Z : pZ}  (hZ : CC Z) (S : pS) (k0 : Nat) (a1 : Int32) (S2 : pS) (h0 : isA Z K_Law k0) (hf : F3_beginLine S k0 a1 = some S2) : CV l Z yX3_beginLine cX3_beginLine 2 3 60 [.ref (za Z k0), .int a1] S S2 := by
  unfold F3_beginLine at hf
  refine eV (own := RX3) (by decide) rfl (Nat.le_of_ble_eq_true rfl) (fun p e s m args below meth c Q ls G hl hw hret => ?_)
  obtain ⟨hx, hb, hml, hown, hts⟩ := G.1
  have hl : lv_has ls 2 [(0, .ref (za Z k0)), (1, .int a1)] := hl
  refine lv_aload_n hx hb dX3_beginLine_0 rfl (lv_at hl 0 rfl) ?_
  refine gI G hw h0 KX3 0 (by decide) rfl fl_X3_30 dX3_beginLine_1 ?_
  refine lv_bipush hx hb dX3_beginLine_4 kb_16 ?_
  refine lv_icmp_ge (tgt := 32) hx hb dX3_beginLine_6 (by decide) (fun c_5 => ?_) (fun c_5 => ?_)
  · have hf := (if_pos c_5).symm.trans hf
    exact hret _ _ _ _ dX3_beginLine_32 (by rw [← (Option.some.inj hf)]; exact hw)
  · have hf := (if_neg c_5).symm.trans hf
    refine lv_aload_n hx hb dX3_beginLine_9 rfl (lv_at hl 0 rfl) ?_
    refine gF G hw h0 KX3 2 (k2 := (k0 + 1)) rfl (by decide) rfl fl_X3_9 dX3_beginLine_10 ?_
    refine lv_aload_n hx hb dX3_beginLine_13 rfl (lv_at hl 0 rfl) ?_
    refine gI G hw h0 KX3 0 (by decide) rfl fl_X3_30 dX3_beginLine_14 ?_
    refine lv_iload_n hx hb dX3_beginLine_17 rfl (lv_at hl 1 rfl) ?_
    obtain ⟨hg_1, hf⟩ := bG_e hf
    obtain ⟨S_2, eS_2, hf⟩ := bL_e hf
    refine sI G hw (sub_Law_word hZ h0) hg_1 (j := (S k0 0).toNatClampNeg) rfl eS_2 dX3_beginLine_18 (fun H locs hw => ?_)
    refine lv_aload_n hx hb dX3_beginLine_19 rfl (lv_at hl 0 rfl) ?_
    refine gF G hw h0 KX3 3 (k2 := (k0 + 2)) rfl (by decide) rfl fl_X3_13 dX3_beginLine_20 ?_
    refine lv_aload_n hx hb dX3_beginLine_23 rfl (lv_at hl 0 rfl) ?_
    refine gI G hw h0 KX3 0 (by decide) rfl fl_X3_30 dX3_beginLine_24 ?_
    refine lv_aload_n hx hb dX3_beginLine_27 rfl (lv_at hl 0 rfl) ?_
    refine gI G hw h0 KX3 1 (by decide) rfl fl_X3_34 dX3_beginLine_28 ?_
    obtain ⟨hg_3, hf⟩ := bG_e hf
    obtain ⟨S_4, eS_4, hf⟩ := bL_e hf
    refine sI G hw (sub_Law_from hZ h0) hg_3 (j := (S_2 k0 0).toNatClampNeg) rfl eS_4 dX3_beginLine_31 (fun H locs hw => ?_)
    exact hret _ _ _ _ dX3_beginLine_32 (by rw [← (Option.some.inj hf)]; exact hw)
noncomputable def F3_beginWhen (S : pS) (k0 : Nat) : Option (pS) :=
  if 16 ≤ (S k0 0) then
    some S
  else
    bG (vp_in (S k0 0) 16) <|
    bL (sU S (k0 + 3) ((S k0 0).toNatClampNeg) (S k0 1)) fun S_2 =>
    some S_2
set_option maxRecDepth 100000 in
set_option maxHeartbeats 4000000 in
theorem wX3_beginWhen {l : Launch} {Z : pZ}  (hZ : CC Z) (S : pS) (k0 : Nat) (S2 : pS) (h0 : isA Z K_Law k0) (hf : F3_beginWhen S k0 = some S2) : CV l Z yX3_beginWhen cX3_beginWhen 1 3 60 [.ref (za Z k0)] S S2 := by
  unfold F3_beginWhen at hf
  refine eV (own := RX3) (by decide) rfl (Nat.le_of_ble_eq_true rfl) (fun p e s m args below meth c Q ls G hl hw hret => ?_)
  obtain ⟨hx, hb, hml, hown, hts⟩ := G.1
  have hl : lv_has ls 1 [(0, .ref (za Z k0))] := hl
  refine lv_aload_n hx hb dX3_beginWhen_0 rfl (lv_at hl 0 rfl) ?_
  refine gI G hw h0 KX3 0 (by decide) rfl fl_X3_30 dX3_beginWhen_1 ?_
  refine lv_bipush hx hb dX3_beginWhen_4 kb_16 ?_
  refine lv_icmp_ge (tgt := 22) hx hb dX3_beginWhen_6 (by decide) (fun c_3 => ?_) (fun c_3 => ?_)
  · have hf := (if_pos c_3).symm.trans hf
    exact hret _ _ _ _ dX3_beginWhen_22 (by rw [← (Option.some.inj hf)]; exact hw)
  · have hf := (if_neg c_3).symm.trans hf
    refine lv_aload_n hx hb dX3_beginWhen_9 rfl (lv_at hl 0 rfl) ?_
    refine gF G hw h0 KX3 4 (k2 := (k0 + 3)) rfl (by decide) rfl fl_X3_16 dX3_beginWhen_10 ?_
    refine lv_aload_n hx hb dX3_beginWhen_13 rfl (lv_at hl 0 rfl) ?_
    refine gI G hw h0 KX3 0 (by decide) rfl fl_X3_30 dX3_beginWhen_14 ?_
    refine lv_aload_n hx hb dX3_beginWhen_17 rfl (lv_at hl 0 rfl) ?_
    refine gI G hw h0 KX3 1 (by decide) rfl fl_X3_34 dX3_beginWhen_18 ?_
    obtain ⟨hg_1, hf⟩ := bG_e hf
    obtain ⟨S_2, eS_2, hf⟩ := bL_e hf
    refine sI G hw (sub_Law_when hZ h0) hg_1 (j := (S k0 0).toNatClampNeg) rfl eS_2 dX3_beginWhen_21 (fun H locs hw => ?_)
    exact hret _ _ _ _ dX3_beginWhen_22 (by rw [← (Option.some.inj hf)]; exact hw)
noncomputable def F3_endLine (S : pS) (k0 : Nat) : Option (pS) :=
  if 16 ≤ (S k0 0) then
    some S
  else
    bG (vp_in (S k0 0) 16) <|
    bL (sU S (k0 + 4) ((S k0 0).toNatClampNeg) (S k0 1)) fun S_2 =>
    bL (sU S_2 k0 0 ((S_2 k0 0) + 1)) fun S_3 =>
    some S_3
set_option maxRecDepth 100000 in
set_option maxHeartbeats 4000000 in
theorem wX3_endLine {l : Launch} {Z : pZ}  (hZ : CC Z) (S : pS) (k0 : Nat) (S2 : pS) (h0 : isA Z K_Law k0) (hf : F3_endLine S k0 = some S2) : CV l Z yX3_endLine cX3_endLine 1 3 60 [.ref (za Z k0)] S S2 := by
  unfold F3_endLine at hf
  refine eV (own := RX3) (by decide) rfl (Nat.le_of_ble_eq_true rfl) (fun p e s m args below meth c Q ls G hl hw hret => ?_)
  obtain ⟨hx, hb, hml, hown, hts⟩ := G.1
  have hl : lv_has ls 1 [(0, .ref (za Z k0))] := hl
  refine lv_aload_n hx hb dX3_endLine_0 rfl (lv_at hl 0 rfl) ?_
  refine gI G hw h0 KX3 0 (by decide) rfl fl_X3_30 dX3_endLine_1 ?_
  refine lv_bipush hx hb dX3_endLine_4 kb_16 ?_
  refine lv_icmp_ge (tgt := 32) hx hb dX3_endLine_6 (by decide) (fun c_4 => ?_) (fun c_4 => ?_)
  · have hf := (if_pos c_4).symm.trans hf
    exact hret _ _ _ _ dX3_endLine_32 (by rw [← (Option.some.inj hf)]; exact hw)
  · have hf := (if_neg c_4).symm.trans hf
    refine lv_aload_n hx hb dX3_endLine_9 rfl (lv_at hl 0 rfl) ?_
    refine gF G hw h0 KX3 5 (k2 := (k0 + 4)) rfl (by decide) rfl fl_X3_19 dX3_endLine_10 ?_
    refine lv_aload_n hx hb dX3_endLine_13 rfl (lv_at hl 0 rfl) ?_
    refine gI G hw h0 KX3 0 (by decide) rfl fl_X3_30 dX3_endLine_14 ?_
    refine lv_aload_n hx hb dX3_endLine_17 rfl (lv_at hl 0 rfl) ?_
    refine gI G hw h0 KX3 1 (by decide) rfl fl_X3_34 dX3_endLine_18 ?_
    obtain ⟨hg_1, hf⟩ := bG_e hf
    obtain ⟨S_2, eS_2, hf⟩ := bL_e hf
    refine sI G hw (sub_Law_to hZ h0) hg_1 (j := (S k0 0).toNatClampNeg) rfl eS_2 dX3_endLine_21 (fun H locs hw => ?_)
    refine lv_aload_n hx hb dX3_endLine_22 rfl (lv_at hl 0 rfl) ?_
    refine lv_dup hx hb dX3_endLine_23 rfl ?_
    refine gI G hw h0 KX3 0 (by decide) rfl fl_X3_30 dX3_endLine_24 ?_
    refine lv_iconst hx hb dX3_endLine_27 ki_1 ?_
    refine lv_iadd hx hb dX3_endLine_28 ?_
    obtain ⟨S_3, eS_3, hf⟩ := bL_e hf
    refine pI G hw h0 KX3 0 (by decide) rfl rfl rfl eS_3 fl_X3_30 dX3_endLine_29 (fun H locs hw => ?_)
    exact hret _ _ _ _ dX3_endLine_32 (by rw [← (Option.some.inj hf)]; exact hw)
noncomputable def F3_put (S : pS) (k0 : Nat) (a1 : Int32) (a2 : Int32) : Option (pS) :=
  if 400 ≤ (S k0 1) then
    some S
  else
    bG (vp_in (S k0 1) 400) <|
    bL (sU S (k0 + 5) ((S k0 1).toNatClampNeg) (a1 + (16 * a2))) fun S_2 =>
    bL (sU S_2 k0 1 ((S_2 k0 1) + 1)) fun S_3 =>
    some S_3
set_option maxRecDepth 100000 in
set_option maxHeartbeats 4000000 in
theorem wX3_put {l : Launch} {Z : pZ}  (hZ : CC Z) (S : pS) (k0 : Nat) (a1 : Int32) (a2 : Int32) (S2 : pS) (h0 : isA Z K_Law k0) (hf : F3_put S k0 a1 a2 = some S2) : CV l Z yX3_put cX3_put 3 3 60 [.ref (za Z k0), .int a1, .int a2] S S2 := by
  unfold F3_put at hf
  refine eV (own := RX3) (by decide) rfl (Nat.le_of_ble_eq_true rfl) (fun p e s m args below meth c Q ls G hl hw hret => ?_)
  obtain ⟨hx, hb, hml, hown, hts⟩ := G.1
  have hl : lv_has ls 3 [(0, .ref (za Z k0)), (1, .int a1), (2, .int a2)] := hl
  refine lv_aload_n hx hb dX3_put_0 rfl (lv_at hl 0 rfl) ?_
  refine gI G hw h0 KX3 1 (by decide) rfl fl_X3_34 dX3_put_1 ?_
  refine lv_aload_n hx hb dX3_put_4 rfl (lv_at hl 0 rfl) ?_
  refine gF G hw h0 KX3 6 (k2 := (k0 + 5)) rfl (by decide) rfl fl_X3_24 dX3_put_5 ?_
  refine aL G hw (t := 0) (sub_Law_step hZ h0) rfl (v := 400) (by decide) dX3_put_8 ?_
  refine lv_icmp_ge (tgt := 37) hx hb dX3_put_9 (by decide) (fun c_4 => ?_) (fun c_4 => ?_)
  · have hf := (if_pos c_4).symm.trans hf
    exact hret _ _ _ _ dX3_put_37 (by rw [← (Option.some.inj hf)]; exact hw)
  · have hf := (if_neg c_4).symm.trans hf
    refine lv_aload_n hx hb dX3_put_12 rfl (lv_at hl 0 rfl) ?_
    refine gF G hw h0 KX3 6 (k2 := (k0 + 5)) rfl (by decide) rfl fl_X3_24 dX3_put_13 ?_
    refine lv_aload_n hx hb dX3_put_16 rfl (lv_at hl 0 rfl) ?_
    refine gI G hw h0 KX3 1 (by decide) rfl fl_X3_34 dX3_put_17 ?_
    refine lv_iload_n hx hb dX3_put_20 rfl (lv_at hl 1 rfl) ?_
    refine lv_bipush hx hb dX3_put_21 kb_16 ?_
    refine lv_iload_n hx hb dX3_put_23 rfl (lv_at hl 2 rfl) ?_
    refine lv_imul hx hb dX3_put_24 ?_
    refine lv_iadd hx hb dX3_put_25 ?_
    obtain ⟨hg_1, hf⟩ := bG_e hf
    obtain ⟨S_2, eS_2, hf⟩ := bL_e hf
    refine sI G hw (sub_Law_step hZ h0) hg_1 (j := (S k0 1).toNatClampNeg) rfl eS_2 dX3_put_26 (fun H locs hw => ?_)
    refine lv_aload_n hx hb dX3_put_27 rfl (lv_at hl 0 rfl) ?_
    refine lv_dup hx hb dX3_put_28 rfl ?_
    refine gI G hw h0 KX3 1 (by decide) rfl fl_X3_34 dX3_put_29 ?_
    refine lv_iconst hx hb dX3_put_32 ki_1 ?_
    refine lv_iadd hx hb dX3_put_33 ?_
    obtain ⟨S_3, eS_3, hf⟩ := bL_e hf
    refine pI G hw h0 KX3 1 (by decide) rfl rfl rfl eS_3 fl_X3_34 dX3_put_34 (fun H locs hw => ?_)
    exact hret _ _ _ _ dX3_put_37 (by rw [← (Option.some.inj hf)]; exact hw)
noncomputable def F5_fail (S : pS) (k0 : Nat) (a1 : Int32) : pS :=
  if (S k0 1) = 0 then
    bL (sU S k0 1 a1) fun S_1 =>
    bL (sU S_1 k0 2 (S_1 (k0 + 1) 3)) fun S_2 =>
    S_2
  else
    S
set_option maxRecDepth 100000 in
set_option maxHeartbeats 4000000 in
theorem wX5_fail {l : Launch} {Z : pZ}  (hZ : CC Z) (S : pS) (k0 : Nat) (a1 : Int32) (S2 : pS) (h0 : isA Z K_Reader k0) (hf : F5_fail S k0 a1 = S2) : CV l Z yX5_fail cX5_fail 2 3 60 [.ref (za Z k0), .int a1] S S2 := by
  unfold F5_fail at hf
  refine eV (own := RX5) (by decide) rfl (Nat.le_of_ble_eq_true rfl) (fun p e s m args below meth c Q ls G hl hw hret => ?_)
  obtain ⟨hx, hb, hml, hown, hts⟩ := G.1
  have hl : lv_has ls 2 [(0, .ref (za Z k0)), (1, .int a1)] := hl
  refine lv_aload_n hx hb dX5_fail_0 rfl (lv_at hl 0 rfl) ?_
  refine gI G hw h0 KX5 1 (by decide) rfl fl_X5_35 dX5_fail_1 ?_
  refine lv_if_ne (tgt := 23) hx hb dX5_fail_4 (by decide) (fun c_3 => ?_) (fun c_3 => ?_)
  · have hf := (if_neg c_3).symm.trans hf
    exact hret _ _ _ _ dX5_fail_23 (by rw [← hf]; exact hw)
  · have hf := (if_pos c_3).symm.trans hf
    refine lv_aload_n hx hb dX5_fail_7 rfl (lv_at hl 0 rfl) ?_
    refine lv_iload_n hx hb dX5_fail_8 rfl (lv_at hl 1 rfl) ?_
    obtain ⟨S_1, eS_1, hf⟩ := bL_e hf
    refine pI G hw h0 KX5 1 (by decide) rfl rfl rfl eS_1 fl_X5_35 dX5_fail_9 (fun H locs hw => ?_)
    refine lv_aload_n hx hb dX5_fail_12 rfl (lv_at hl 0 rfl) ?_
    refine lv_aload_n hx hb dX5_fail_13 rfl (lv_at hl 0 rfl) ?_
    refine gF G hw h0 KX5 0 (k2 := (k0 + 1)) rfl (by decide) rfl fl_X5_12 dX5_fail_14 ?_
    refine gI G hw (sub_Reader_tape hZ h0) KX6 3 (by decide) rfl fl_X5_44 dX5_fail_17 ?_
    obtain ⟨S_2, eS_2, hf⟩ := bL_e hf
    refine pI G hw h0 KX5 2 (by decide) rfl rfl rfl eS_2 fl_X5_18 dX5_fail_20 (fun H locs hw => ?_)
    exact hret _ _ _ _ dX5_fail_23 (by rw [← hf]; exact hw)
noncomputable def F6_next (S : pS) (k0 : Nat) : Option (pS) :=
  bL (sU S k0 6 ((S k0 6) + 1)) fun S_1 =>
  if (S_1 k0 6) < 0 then
    some S_1
  else
    if (S_1 k0 6) < (S_1 k0 5) then
      bG (vp_in (S_1 k0 6) 401) <|
      bL (sU S_1 k0 1 (S_1 (k0 + 2) ((S_1 k0 6).toNatClampNeg))) fun S_3 =>
      bG (vp_in (S_3 k0 6) 401) <|
      bL (sU S_3 k0 2 (S_3 (k0 + 3) ((S_3 k0 6).toNatClampNeg))) fun S_5 =>
      bG (vp_in (S_5 k0 6) 401) <|
      bL (sU S_5 k0 3 (S_5 (k0 + 4) ((S_5 k0 6).toNatClampNeg))) fun S_7 =>
      some S_7
    else
      some S_1
set_option maxRecDepth 100000 in
set_option maxHeartbeats 4000000 in
theorem wX6_next {l : Launch} {Z : pZ}  (hZ : CC Z) (S : pS) (k0 : Nat) (S2 : pS) (h0 : isA Z K_Tape k0) (hf : F6_next S k0 = some S2) : CV l Z yX6_next cX6_next 1 3 60 [.ref (za Z k0)] S S2 := by
  unfold F6_next at hf
  refine eV (own := RX6) (by decide) rfl (Nat.le_of_ble_eq_true rfl) (fun p e s m args below meth c Q ls G hl hw hret => ?_)
  obtain ⟨hx, hb, hml, hown, hts⟩ := G.1
  have hl : lv_has ls 1 [(0, .ref (za Z k0))] := hl
  refine lv_aload_n hx hb dX6_next_0 rfl (lv_at hl 0 rfl) ?_
  refine lv_dup hx hb dX6_next_1 rfl ?_
  refine gI G hw h0 KX6 6 (by decide) rfl fl_X6_29 dX6_next_2 ?_
  refine lv_iconst hx hb dX6_next_5 ki_1 ?_
  refine lv_iadd hx hb dX6_next_6 ?_
  obtain ⟨S_1, eS_1, hf⟩ := bL_e hf
  refine pI G hw h0 KX6 6 (by decide) rfl rfl rfl eS_1 fl_X6_29 dX6_next_7 (fun H locs hw => ?_)
  refine lv_aload_n hx hb dX6_next_10 rfl (lv_at hl 0 rfl) ?_
  refine gI G hw h0 KX6 6 (by decide) rfl fl_X6_29 dX6_next_11 ?_
  refine lv_if_lt (tgt := 28) hx hb dX6_next_14 (by decide) (fun c_9 => ?_) (fun c_9 => ?_)
  · have hf := (if_pos c_9).symm.trans hf
    exact hret _ _ _ _ dX6_next_28 (by rw [← (Option.some.inj hf)]; exact hw)
  · have hf := (if_neg c_9).symm.trans hf
    refine lv_aload_n hx hb dX6_next_17 rfl (lv_at hl 0 rfl) ?_
    refine gI G hw h0 KX6 6 (by decide) rfl fl_X6_29 dX6_next_18 ?_
    refine lv_aload_n hx hb dX6_next_21 rfl (lv_at hl 0 rfl) ?_
    refine gI G hw h0 KX6 5 (by decide) rfl fl_X6_32 dX6_next_22 ?_
    refine lv_icmp_lt (tgt := 29) hx hb dX6_next_25 (by decide) (fun c_8 => ?_) (fun c_8 => ?_)
    · have hf := (if_pos c_8).symm.trans hf
      refine lv_aload_n hx hb dX6_next_29 rfl (lv_at hl 0 rfl) ?_
      refine lv_aload_n hx hb dX6_next_30 rfl (lv_at hl 0 rfl) ?_
      refine gF G hw h0 KX6 7 (k2 := (k0 + 2)) rfl (by decide) rfl fl_X6_15 dX6_next_31 ?_
      refine lv_aload_n hx hb dX6_next_34 rfl (lv_at hl 0 rfl) ?_
      refine gI G hw h0 KX6 6 (by decide) rfl fl_X6_29 dX6_next_35 ?_
      obtain ⟨hg_2, hf⟩ := bG_e hf
      refine aI G hw (sub_Tape_kinds hZ h0) hg_2 (j := (S_1 k0 6).toNatClampNeg) rfl dX6_next_38 ?_
      obtain ⟨S_3, eS_3, hf⟩ := bL_e hf
      refine pI G hw h0 KX6 1 (by decide) rfl rfl rfl eS_3 fl_X6_35 dX6_next_39 (fun H locs hw => ?_)
      refine lv_aload_n hx hb dX6_next_42 rfl (lv_at hl 0 rfl) ?_
      refine lv_aload_n hx hb dX6_next_43 rfl (lv_at hl 0 rfl) ?_
      refine gF G hw h0 KX6 8 (k2 := (k0 + 3)) rfl (by decide) rfl fl_X6_19 dX6_next_44 ?_
      refine lv_aload_n hx hb dX6_next_47 rfl (lv_at hl 0 rfl) ?_
      refine gI G hw h0 KX6 6 (by decide) rfl fl_X6_29 dX6_next_48 ?_
      obtain ⟨hg_4, hf⟩ := bG_e hf
      refine aI G hw (sub_Tape_values hZ h0) hg_4 (j := (S_3 k0 6).toNatClampNeg) rfl dX6_next_51 ?_
      obtain ⟨S_5, eS_5, hf⟩ := bL_e hf
      refine pI G hw h0 KX6 2 (by decide) rfl rfl rfl eS_5 fl_X6_38 dX6_next_52 (fun H locs hw => ?_)
      refine lv_aload_n hx hb dX6_next_55 rfl (lv_at hl 0 rfl) ?_
      refine lv_aload_n hx hb dX6_next_56 rfl (lv_at hl 0 rfl) ?_
      refine gF G hw h0 KX6 9 (k2 := (k0 + 4)) rfl (by decide) rfl fl_X6_22 dX6_next_57 ?_
      refine lv_aload_n hx hb dX6_next_60 rfl (lv_at hl 0 rfl) ?_
      refine gI G hw h0 KX6 6 (by decide) rfl fl_X6_29 dX6_next_61 ?_
      obtain ⟨hg_6, hf⟩ := bG_e hf
      refine aI G hw (sub_Tape_places hZ h0) hg_6 (j := (S_5 k0 6).toNatClampNeg) rfl dX6_next_64 ?_
      obtain ⟨S_7, eS_7, hf⟩ := bL_e hf
      refine pI G hw h0 KX6 3 (by decide) rfl rfl rfl eS_7 fl_X6_41 dX6_next_65 (fun H locs hw => ?_)
      exact hret _ _ _ _ dX6_next_68 (by rw [← (Option.some.inj hf)]; exact hw)
    · have hf := (if_neg c_8).symm.trans hf
      exact hret _ _ _ _ dX6_next_28 (by rw [← (Option.some.inj hf)]; exact hw)

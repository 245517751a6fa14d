noncomputable def F11_fault (S : pS) (a1 : Int32) : Int32 :=
  if a1 = 0 then
    S 45 1
  else
    if a1 = 1 then
      S 45 2
    else
      ((-1) : Int32)
set_option maxRecDepth 100000 in
set_option maxHeartbeats 4000000 in
theorem wX11_fault {l : Launch} {Z : pZ}  (hZ : CC Z) (S : pS) (a1 : Int32) (r : Int32) (h0 : isA Z K_PF 0) (hf : F11_fault S a1 = r) : CI l Z yX11_fault cX11_fault 2 .int 3 60 [.ref (za Z 0), .int a1] S r S := by
  unfold F11_fault at hf
  refine eI (own := RX11) (by decide) rfl (Nat.le_of_ble_eq_true rfl) (fun p e s m args below meth c Q ls G hl hw hret => ?_)
  obtain ⟨hx, hb, hml, hown, hts⟩ := G.1
  have hl : lv_has ls 2 [(0, .ref (za Z 0)), (1, .int a1)] := hl
  refine lv_iload_n hx hb dX11_fault_0 rfl (lv_at hl 1 rfl) ?_
  refine lv_if_ne (tgt := 12) hx hb dX11_fault_1 (by decide) (fun c_2 => ?_) (fun c_2 => ?_)
  · have hf := (if_neg c_2).symm.trans hf
    refine lv_iload_n hx hb dX11_fault_12 rfl (lv_at hl 1 rfl) ?_
    refine lv_iconst hx hb dX11_fault_13 ki_1 ?_
    refine lv_icmp_ne (tgt := 27) hx hb dX11_fault_14 (by decide) (fun c_1 => ?_) (fun c_1 => ?_)
    · have hf := (if_neg c_1).symm.trans hf
      refine lv_iconst hx hb dX11_fault_27 ki_m1 ?_
      exact hret _ _ _ _ _ dX11_fault_28 hf hw
    · have hf := (if_pos c_1).symm.trans hf
      refine lv_aload_n hx hb dX11_fault_17 rfl (lv_at hl 0 rfl) ?_
      refine gF G hw h0 KX11 1 (k2 := 45) rfl (by decide) rfl fl_X11_19 dX11_fault_18 ?_
      refine gI G hw (sub_PF_reader hZ h0) KX5 2 (by decide) rfl fl_X11_173 dX11_fault_21 ?_
      refine lv_goto (tgt := 28) hx hb dX11_fault_24 (by decide) ?_
      exact hret _ _ _ _ _ dX11_fault_28 hf hw
  · have hf := (if_pos c_2).symm.trans hf
    refine lv_aload_n hx hb dX11_fault_4 rfl (lv_at hl 0 rfl) ?_
    refine gF G hw h0 KX11 1 (k2 := 45) rfl (by decide) rfl fl_X11_19 dX11_fault_5 ?_
    refine gI G hw (sub_PF_reader hZ h0) KX5 1 (by decide) rfl fl_X11_170 dX11_fault_8 ?_
    exact hret _ _ _ _ _ dX11_fault_11 hf hw
noncomputable def F11_gust (S : pS) (a1 : Int32) : Option (Int32 × pS) :=
  if a1 = (-100) then
    bL (sU S 1 7 0) fun S_6 =>
    some ((0 : Int32), S_6)
  else
    if (F11_within a1 (-29) 29) = 0 then
      some (((-1) : Int32), S)
    else
      if (S 1 7) < 60 then
        bG (vp_in (S 1 7) 60) <|
        bL (sU S 7 ((S 1 7).toNatClampNeg) a1) fun S_2 =>
        bL (sU S_2 1 7 ((S_2 1 7) + 1)) fun S_3 =>
        some (S_3 1 7, S_3)
      else
        some (((-1) : Int32), S)
set_option maxRecDepth 100000 in
set_option maxHeartbeats 4000000 in
theorem wX11_gust {l : Launch} {Z : pZ}  (hZ : CC Z) (S : pS) (a1 : Int32) (r : Int32) (S2 : pS) (h0 : isA Z K_PF 0) (hf : F11_gust S a1 = some (r, S2)) : CI l Z yX11_gust cX11_gust 2 .int 4 82 [.ref (za Z 0), .int a1] S r S2 := by
  unfold F11_gust at hf
  refine eI (own := RX11) (by decide) rfl (Nat.le_of_ble_eq_true rfl) (fun p e s m args below meth c Q ls G hl hw hret => ?_)
  obtain ⟨hx, hb, hml, hown, hts⟩ := G.1
  have hl : lv_has ls 2 [(0, .ref (za Z 0)), (1, .int a1)] := hl
  refine lv_iload_n hx hb dX11_gust_0 rfl (lv_at hl 1 rfl) ?_
  refine lv_bipush hx hb dX11_gust_1 kb_m100 ?_
  refine lv_icmp_ne (tgt := 16) hx hb dX11_gust_3 (by decide) (fun c_7 => ?_) (fun c_7 => ?_)
  · have hf := (if_neg c_7).symm.trans hf
    refine lv_iload_n hx hb dX11_gust_16 rfl (lv_at hl 1 rfl) ?_
    refine lv_bipush hx hb dX11_gust_17 kb_m29 ?_
    refine lv_bipush hx hb dX11_gust_19 kb_29 ?_
    refine kSi (rest := []) G hw (wX11_within hZ S a1 (-29) 29 (F11_within a1 (-29) 29) rfl) cw_X11_51 ⟨Nat.le_of_ble_eq_true rfl, Nat.le_of_ble_eq_true rfl⟩ rfl hl.1 rfl (Nat.le_of_ble_eq_true rfl) ⟨Nat.le_refl _, Nat.le_refl _⟩ dX11_gust_21 (fun H locs hw => ?_)
    refine lv_if_eq (tgt := 39) hx hb dX11_gust_24 (by decide) (fun c_5 => ?_) (fun c_5 => ?_)
    · have hf := (if_pos c_5).symm.trans hf
      refine lv_iconst hx hb dX11_gust_39 ki_m1 ?_
      obtain ⟨e1, e2⟩ := Prod.mk.inj (Option.some.inj hf)
      exact hret _ _ _ _ _ dX11_gust_40 e1 (by rw [← e2]; exact hw)
    · have hf := (if_neg c_5).symm.trans hf
      refine lv_aload_n hx hb dX11_gust_27 rfl (lv_at hl 0 rfl) ?_
      refine gF G hw h0 KX11 0 (k2 := 1) rfl (by decide) rfl fl_X11_10 dX11_gust_28 ?_
      refine gI G hw (sub_PF_now hZ h0) KX10 7 (by decide) rfl fl_X11_176 dX11_gust_31 ?_
      refine lv_bipush hx hb dX11_gust_34 kb_60 ?_
      refine lv_icmp_lt (tgt := 41) hx hb dX11_gust_36 (by decide) (fun c_4 => ?_) (fun c_4 => ?_)
      · have hf := (if_pos c_4).symm.trans hf
        refine lv_aload_n hx hb dX11_gust_41 rfl (lv_at hl 0 rfl) ?_
        refine gF G hw h0 KX11 0 (k2 := 1) rfl (by decide) rfl fl_X11_10 dX11_gust_42 ?_
        refine gF G hw (sub_PF_now hZ h0) KX10 13 (k2 := 7) rfl (by decide) rfl fl_X11_179 dX11_gust_45 ?_
        refine lv_aload_n hx hb dX11_gust_48 rfl (lv_at hl 0 rfl) ?_
        refine gF G hw h0 KX11 0 (k2 := 1) rfl (by decide) rfl fl_X11_10 dX11_gust_49 ?_
        refine gI G hw (sub_PF_now hZ h0) KX10 7 (by decide) rfl fl_X11_176 dX11_gust_52 ?_
        refine lv_iload_n hx hb dX11_gust_55 rfl (lv_at hl 1 rfl) ?_
        obtain ⟨hg_1, hf⟩ := bG_e hf
        obtain ⟨S_2, eS_2, hf⟩ := bL_e hf
        refine sI G hw (sub_World_minute hZ (sub_PF_now hZ h0)) hg_1 (j := (S 1 7).toNatClampNeg) rfl eS_2 dX11_gust_56 (fun H locs hw => ?_)
        refine lv_aload_n hx hb dX11_gust_57 rfl (lv_at hl 0 rfl) ?_
        refine gF G hw h0 KX11 0 (k2 := 1) rfl (by decide) rfl fl_X11_10 dX11_gust_58 ?_
        refine lv_dup hx hb dX11_gust_61 rfl ?_
        refine gI G hw (sub_PF_now hZ h0) KX10 7 (by decide) rfl fl_X11_176 dX11_gust_62 ?_
        refine lv_iconst hx hb dX11_gust_65 ki_1 ?_
        refine lv_iadd hx hb dX11_gust_66 ?_
        obtain ⟨S_3, eS_3, hf⟩ := bL_e hf
        refine pI G hw (sub_PF_now hZ h0) KX10 7 (by decide) rfl rfl rfl eS_3 fl_X11_176 dX11_gust_67 (fun H locs hw => ?_)
        refine lv_aload_n hx hb dX11_gust_70 rfl (lv_at hl 0 rfl) ?_
        refine gF G hw h0 KX11 0 (k2 := 1) rfl (by decide) rfl fl_X11_10 dX11_gust_71 ?_
        refine gI G hw (sub_PF_now hZ h0) KX10 7 (by decide) rfl fl_X11_176 dX11_gust_74 ?_
        obtain ⟨e1, e2⟩ := Prod.mk.inj (Option.some.inj hf)
        exact hret _ _ _ _ _ dX11_gust_77 e1 (by rw [← e2]; exact hw)
      · have hf := (if_neg c_4).symm.trans hf
        refine lv_iconst hx hb dX11_gust_39 ki_m1 ?_
        obtain ⟨e1, e2⟩ := Prod.mk.inj (Option.some.inj hf)
        exact hret _ _ _ _ _ dX11_gust_40 e1 (by rw [← e2]; exact hw)
  · have hf := (if_pos c_7).symm.trans hf
    refine lv_aload_n hx hb dX11_gust_6 rfl (lv_at hl 0 rfl) ?_
    refine gF G hw h0 KX11 0 (k2 := 1) rfl (by decide) rfl fl_X11_10 dX11_gust_7 ?_
    refine lv_iconst hx hb dX11_gust_10 ki_0 ?_
    obtain ⟨S_6, eS_6, hf⟩ := bL_e hf
    refine pI G hw (sub_PF_now hZ h0) KX10 7 (by decide) rfl rfl rfl eS_6 fl_X11_176 dX11_gust_11 (fun H locs hw => ?_)
    refine lv_iconst hx hb dX11_gust_14 ki_0 ?_
    obtain ⟨e1, e2⟩ := Prod.mk.inj (Option.some.inj hf)
    exact hret _ _ _ _ _ dX11_gust_15 e1 (by rw [← e2]; exact hw)
noncomputable def F10_hasSpear (S : pS) (k0 : Nat) (a1 : Int32) : Int32 :=
  bL (fun (_ : Unit) =>
    (0 : Int32)) fun j22 =>
  if a1 < 0 then
    j22 ()
  else
    if (S k0 4) ≤ a1 then
      j22 ()
    else
      if 6 ≤ a1 then
        j22 ()
      else
        (1 : Int32)
set_option maxRecDepth 100000 in
set_option maxHeartbeats 4000000 in
theorem wX10_hasSpear {l : Launch} {Z : pZ}  (hZ : CC Z) (S : pS) (k0 : Nat) (a1 : Int32) (r : Int32) (h0 : isA Z K_World k0) (hf : F10_hasSpear S k0 a1 = r) : CI l Z yX10_hasSpear cX10_hasSpear 2 .boolean 3 60 [.ref (za Z k0), .int a1] S r S := by
  unfold F10_hasSpear at hf
  refine eZ (own := RX10) (by decide) rfl (Nat.le_of_ble_eq_true rfl) (fun p e s m args below meth c Q ls G hl hw hret => ?_)
  obtain ⟨hx, hb, hml, hown, hts⟩ := G.1
  have hl : lv_has ls 2 [(0, .ref (za Z k0)), (1, .int a1)] := hl
  refine lv_iload_n hx hb dX10_hasSpear_0 rfl (lv_at hl 1 rfl) ?_
  obtain ⟨j22, ej, hf⟩ := bL_e hf
  have R22 : ∀ (H : Heap) (locs : List Loc) (ls : Array Slot), Wd Z s S H locs → lv_has ls 2 [] → j22 () = r → W p l e { frames := 3, cells := 0, slots := 0, locals := 60 } s m args below meth c H locs 0 0 Q (F0 m 22 ls []) := by
    intro  H locs ls hw hl hf
    have hf := (congrFun ej ()).symm.trans hf
    refine lv_iconst hx hb dX10_hasSpear_22 ki_0 ?_
    exact hret _ _ _ _ _ dX10_hasSpear_23 ((by decide : (0 : Int32) &&& 1 = 0).trans hf) hw
  clear ej
  refine lv_if_lt (tgt := 22) hx hb dX10_hasSpear_1 (by decide) (fun c_3 => ?_) (fun c_3 => ?_)
  · have hf := (if_pos c_3).symm.trans hf
    exact R22 _ _ _ hw (lv_sub hl [] rfl) hf
  · have hf := (if_neg c_3).symm.trans hf
    refine lv_iload_n hx hb dX10_hasSpear_4 rfl (lv_at hl 1 rfl) ?_
    refine lv_aload_n hx hb dX10_hasSpear_5 rfl (lv_at hl 0 rfl) ?_
    refine gI G hw h0 KX10 4 (by decide) rfl fl_X10_60 dX10_hasSpear_6 ?_
    refine lv_icmp_ge (tgt := 22) hx hb dX10_hasSpear_9 (by decide) (fun c_2 => ?_) (fun c_2 => ?_)
    · have hf := (if_pos c_2).symm.trans hf
      exact R22 _ _ _ hw (lv_sub hl [] rfl) hf
    · have hf := (if_neg c_2).symm.trans hf
      refine lv_iload_n hx hb dX10_hasSpear_12 rfl (lv_at hl 1 rfl) ?_
      refine lv_bipush hx hb dX10_hasSpear_13 kb_6 ?_
      refine lv_icmp_ge (tgt := 22) hx hb dX10_hasSpear_15 (by decide) (fun c_1 => ?_) (fun c_1 => ?_)
      · have hf := (if_pos c_1).symm.trans hf
        exact R22 _ _ _ hw (lv_sub hl [] rfl) hf
      · have hf := (if_neg c_1).symm.trans hf
        refine lv_iconst hx hb dX10_hasSpear_18 ki_1 ?_
        refine lv_goto (tgt := 23) hx hb dX10_hasSpear_19 (by decide) ?_
        exact hret _ _ _ _ _ dX10_hasSpear_23 ((by decide : (1 : Int32) &&& 1 = 1).trans hf) hw
noncomputable def F11_canThrow (S : pS) (a1 : Int32) (a2 : Int32) (a3 : Int32) : Int32 :=
  bL (fun (_ : Unit) =>
    (0 : Int32)) fun j35 =>
  if (F11_within a1 0 99) = 0 then
    j35 ()
  else
    if (F11_within a2 0 60) = 0 then
      j35 ()
    else
      if (F10_hasSpear S 1 a3) = 0 then
        j35 ()
      else
        (1 : Int32)
set_option maxRecDepth 100000 in
set_option maxHeartbeats 4000000 in
theorem wX11_canThrow {l : Launch} {Z : pZ}  (hZ : CC Z) (S : pS) (a1 : Int32) (a2 : Int32) (a3 : Int32) (r : Int32) (h0 : isA Z K_PF 0) (hf : F11_canThrow S a1 a2 a3 = r) : CI l Z yX11_canThrow cX11_canThrow 4 .boolean 4 82 [.ref (za Z 0), .int a1, .int a2, .int a3] S r S := by
  unfold F11_canThrow at hf
  refine eZ (own := RX11) (by decide) rfl (Nat.le_of_ble_eq_true rfl) (fun p e s m args below meth c Q ls G hl hw hret => ?_)
  obtain ⟨hx, hb, hml, hown, hts⟩ := G.1
  have hl : lv_has ls 4 [(0, .ref (za Z 0)), (1, .int a1), (2, .int a2), (3, .int a3)] := hl
  refine lv_iload_n hx hb dX11_canThrow_0 rfl (lv_at hl 1 rfl) ?_
  refine lv_iconst hx hb dX11_canThrow_1 ki_0 ?_
  refine lv_bipush hx hb dX11_canThrow_2 kb_99 ?_
  refine kSi (rest := []) G hw (wX11_within hZ S a1 0 99 (F11_within a1 0 99) rfl) cw_X11_51 ⟨Nat.le_of_ble_eq_true rfl, Nat.le_of_ble_eq_true rfl⟩ rfl hl.1 rfl (Nat.le_of_ble_eq_true rfl) ⟨Nat.le_refl _, Nat.le_refl _⟩ dX11_canThrow_4 (fun H locs hw => ?_)
  obtain ⟨j35, ej, hf⟩ := bL_e hf
  have R35 : ∀ (H : Heap) (locs : List Loc) (ls : Array Slot), Wd Z s S H locs → lv_has ls 4 [] → j35 () = r → W p l e { frames := 4, cells := 0, slots := 0, locals := 82 } s m args below meth c H locs 0 0 Q (F0 m 35 ls []) := by
    intro  H locs ls hw hl hf
    have hf := (congrFun ej ()).symm.trans hf
    refine lv_iconst hx hb dX11_canThrow_35 ki_0 ?_
    exact hret _ _ _ _ _ dX11_canThrow_36 ((by decide : (0 : Int32) &&& 1 = 0).trans hf) hw
  clear ej
  refine lv_if_eq (tgt := 35) hx hb dX11_canThrow_7 (by decide) (fun c_3 => ?_) (fun c_3 => ?_)
  · have hf := (if_pos c_3).symm.trans hf
    exact R35 _ _ _ hw (lv_sub hl [] rfl) hf
  · have hf := (if_neg c_3).symm.trans hf
    refine lv_iload_n hx hb dX11_canThrow_10 rfl (lv_at hl 2 rfl) ?_
    refine lv_iconst hx hb dX11_canThrow_11 ki_0 ?_
    refine lv_bipush hx hb dX11_canThrow_12 kb_60 ?_
    refine kSi (rest := []) G hw (wX11_within hZ S a2 0 60 (F11_within a2 0 60) rfl) cw_X11_51 ⟨Nat.le_of_ble_eq_true rfl, Nat.le_of_ble_eq_true rfl⟩ rfl hl.1 rfl (Nat.le_of_ble_eq_true rfl) ⟨Nat.le_refl _, Nat.le_refl _⟩ dX11_canThrow_14 (fun H locs hw => ?_)
    refine lv_if_eq (tgt := 35) hx hb dX11_canThrow_17 (by decide) (fun c_2 => ?_) (fun c_2 => ?_)
    · have hf := (if_pos c_2).symm.trans hf
      exact R35 _ _ _ hw (lv_sub hl [] rfl) hf
    · have hf := (if_neg c_2).symm.trans hf
      refine lv_aload_n hx hb dX11_canThrow_20 rfl (lv_at hl 0 rfl) ?_
      refine gF G hw h0 KX11 0 (k2 := 1) rfl (by decide) rfl fl_X11_10 dX11_canThrow_21 ?_
      refine lv_iload_n hx hb dX11_canThrow_24 rfl (lv_at hl 3 rfl) ?_
      refine kVi (rest := []) G hw (wX10_hasSpear hZ S 1 a3 (F10_hasSpear S 1 a3) (sub_PF_now hZ h0) rfl) cw_X11_193 (sub_PF_now hZ h0) KX10 ⟨Nat.le_of_ble_eq_true rfl, Nat.le_of_ble_eq_true rfl⟩ rfl hl.1 rfl (Nat.le_of_ble_eq_true rfl) ⟨Nat.le_refl _, Nat.le_refl _⟩ dX11_canThrow_25 (fun H locs hw => ?_)
      refine lv_if_eq (tgt := 35) hx hb dX11_canThrow_28 (by decide) (fun c_1 => ?_) (fun c_1 => ?_)
      · have hf := (if_pos c_1).symm.trans hf
        exact R35 _ _ _ hw (lv_sub hl [] rfl) hf
      · have hf := (if_neg c_1).symm.trans hf
        refine lv_iconst hx hb dX11_canThrow_31 ki_1 ?_
        refine lv_goto (tgt := 36) hx hb dX11_canThrow_32 (by decide) ?_
        exact hret _ _ _ _ _ dX11_canThrow_36 ((by decide : (1 : Int32) &&& 1 = 1).trans hf) hw
noncomputable def F11_hold (a0 : Int32) (a1 : Int32) (a2 : Int32) : Int32 :=
  if a1 ≤ a0 then
    if a0 ≤ a2 then
      a0
    else
      a2
  else
    a1
set_option maxRecDepth 100000 in
set_option maxHeartbeats 4000000 in
theorem wX11_hold {l : Launch} {Z : pZ}  (hZ : CC Z) (S : pS) (a0 : Int32) (a1 : Int32) (a2 : Int32) (r : Int32)  (hf : F11_hold a0 a1 a2 = r) : CI l Z yX11_hold cX11_hold 3 .int 3 60 [.int a0, .int a1, .int a2] S r S := by
  unfold F11_hold at hf
  refine eI (own := RX11) (by decide) rfl (Nat.le_of_ble_eq_true rfl) (fun p e s m args below meth c Q ls G hl hw hret => ?_)
  obtain ⟨hx, hb, hml, hown, hts⟩ := G.1
  have hl : lv_has ls 3 [(0, .int a0), (1, .int a1), (2, .int a2)] := hl
  refine lv_iload_n hx hb dX11_hold_0 rfl (lv_at hl 0 rfl) ?_
  refine lv_iload_n hx hb dX11_hold_1 rfl (lv_at hl 1 rfl) ?_
  refine lv_icmp_ge (tgt := 9) hx hb dX11_hold_2 (by decide) (fun c_2 => ?_) (fun c_2 => ?_)
  · have hf := (if_pos c_2).symm.trans hf
    refine lv_iload_n hx hb dX11_hold_9 rfl (lv_at hl 0 rfl) ?_
    refine lv_iload_n hx hb dX11_hold_10 rfl (lv_at hl 2 rfl) ?_
    refine lv_icmp_le (tgt := 18) hx hb dX11_hold_11 (by decide) (fun c_1 => ?_) (fun c_1 => ?_)
    · have hf := (if_pos c_1).symm.trans hf
      refine lv_iload_n hx hb dX11_hold_18 rfl (lv_at hl 0 rfl) ?_
      exact hret _ _ _ _ _ dX11_hold_19 hf hw
    · have hf := (if_neg c_1).symm.trans hf
      refine lv_iload_n hx hb dX11_hold_14 rfl (lv_at hl 2 rfl) ?_
      refine lv_goto (tgt := 19) hx hb dX11_hold_15 (by decide) ?_
      exact hret _ _ _ _ _ dX11_hold_19 hf hw
  · have hf := (if_neg c_2).symm.trans hf
    refine lv_iload_n hx hb dX11_hold_5 rfl (lv_at hl 1 rfl) ?_
    refine lv_goto (tgt := 19) hx hb dX11_hold_6 (by decide) ?_
    exact hret _ _ _ _ _ dX11_hold_19 hf hw
noncomputable def F0_askBest (S : pS) (k0 : Nat) (a1 : Int32) : pS :=
  bL (sU S (k0 + 1) 6 (a1 / 100)) fun S_1 =>
  S_1
set_option maxRecDepth 100000 in
set_option maxHeartbeats 4000000 in
theorem wX0_askBest {l : Launch} {Z : pZ}  (hZ : CC Z) (S : pS) (k0 : Nat) (a1 : Int32) (S2 : pS) (h0 : isA Z K_Arms k0) (hf : F0_askBest S k0 a1 = S2) : CV l Z yX0_askBest cX0_askBest 2 3 60 [.ref (za Z k0), .int a1] S S2 := by
  unfold F0_askBest at hf
  refine eV (own := RX0) (by decide) rfl (Nat.le_of_ble_eq_true rfl) (fun p e s m args below meth c Q ls G hl hw hret => ?_)
  obtain ⟨hx, hb, hml, hown, hts⟩ := G.1
  have hl : lv_has ls 2 [(0, .ref (za Z k0)), (1, .int a1)] := hl
  refine lv_aload_n hx hb dX0_askBest_0 rfl (lv_at hl 0 rfl) ?_
  refine gF G hw h0 KX0 0 (k2 := (k0 + 1)) rfl (by decide) rfl fl_X0_7 dX0_askBest_1 ?_
  refine lv_bipush hx hb dX0_askBest_4 kb_6 ?_
  refine lv_iload_n hx hb dX0_askBest_6 rfl (lv_at hl 1 rfl) ?_
  refine lv_bipush hx hb dX0_askBest_7 kb_100 ?_
  refine lv_idiv hx hb dX0_askBest_9 (by decide) ?_
  obtain ⟨S_1, eS_1, hf⟩ := bL_e hf
  refine sI G hw (sub_Arms_asked hZ h0) (vin_e (by decide)) (j := 6) (by decide) eS_1 dX0_askBest_10 (fun H locs hw => ?_)
  exact hret _ _ _ _ dX0_askBest_11 (by rw [← hf]; exact hw)
noncomputable def F0_askState (S : pS) (k0 : Nat) (a1 : Int32) (a2 : Int32) : pS :=
  bL (sU S (k0 + 1) 3 a1) fun S_1 =>
  bL (sU S_1 (k0 + 1) 5 a2) fun S_2 =>
  S_2
set_option maxRecDepth 100000 in
set_option maxHeartbeats 4000000 in
theorem wX0_askState {l : Launch} {Z : pZ}  (hZ : CC Z) (S : pS) (k0 : Nat) (a1 : Int32) (a2 : Int32) (S2 : pS) (h0 : isA Z K_Arms k0) (hf : F0_askState S k0 a1 a2 = S2) : CV l Z yX0_askState cX0_askState 3 3 60 [.ref (za Z k0), .int a1, .int a2] S S2 := by
  unfold F0_askState at hf
  refine eV (own := RX0) (by decide) rfl (Nat.le_of_ble_eq_true rfl) (fun p e s m args below meth c Q ls G hl hw hret => ?_)
  obtain ⟨hx, hb, hml, hown, hts⟩ := G.1
  have hl : lv_has ls 3 [(0, .ref (za Z k0)), (1, .int a1), (2, .int a2)] := hl
  refine lv_aload_n hx hb dX0_askState_0 rfl (lv_at hl 0 rfl) ?_
  refine gF G hw h0 KX0 0 (k2 := (k0 + 1)) rfl (by decide) rfl fl_X0_7 dX0_askState_1 ?_
  refine lv_iconst hx hb dX0_askState_4 ki_3 ?_
  refine lv_iload_n hx hb dX0_askState_5 rfl (lv_at hl 1 rfl) ?_
  obtain ⟨S_1, eS_1, hf⟩ := bL_e hf
  refine sI G hw (sub_Arms_asked hZ h0) (vin_e (by decide)) (j := 3) (by decide) eS_1 dX0_askState_6 (fun H locs hw => ?_)
  refine lv_aload_n hx hb dX0_askState_7 rfl (lv_at hl 0 rfl) ?_
  refine gF G hw h0 KX0 0 (k2 := (k0 + 1)) rfl (by decide) rfl fl_X0_7 dX0_askState_8 ?_
  refine lv_iconst hx hb dX0_askState_11 ki_5 ?_
  refine lv_iload_n hx hb dX0_askState_12 rfl (lv_at hl 2 rfl) ?_
  obtain ⟨S_2, eS_2, hf⟩ := bL_e hf
  refine sI G hw (sub_Arms_asked hZ h0) (vin_e (by decide)) (j := 5) (by decide) eS_2 dX0_askState_13 (fun H locs hw => ?_)
  exact hret _ _ _ _ dX0_askState_14 (by rw [← hf]; exact hw)
noncomputable def F0_askThrow (S : pS) (k0 : Nat) (a1 : Int32) (a2 : Int32) (a3 : Int32) : pS :=
  bL (sU S (k0 + 1) 0 a1) fun S_1 =>
  bL (sU S_1 (k0 + 1) 1 a2) fun S_2 =>
  bL (sU S_2 (k0 + 1) 2 a3) fun S_3 =>
  S_3
set_option maxRecDepth 100000 in
set_option maxHeartbeats 4000000 in
theorem wX0_askThrow {l : Launch} {Z : pZ}  (hZ : CC Z) (S : pS) (k0 : Nat) (a1 : Int32) (a2 : Int32) (a3 : Int32) (S2 : pS) (h0 : isA Z K_Arms k0) (hf : F0_askThrow S k0 a1 a2 a3 = S2) : CV l Z yX0_askThrow cX0_askThrow 4 3 60 [.ref (za Z k0), .int a1, .int a2, .int a3] S S2 := by
  unfold F0_askThrow at hf
  refine eV (own := RX0) (by decide) rfl (Nat.le_of_ble_eq_true rfl) (fun p e s m args below meth c Q ls G hl hw hret => ?_)
  obtain ⟨hx, hb, hml, hown, hts⟩ := G.1
  have hl : lv_has ls 4 [(0, .ref (za Z k0)), (1, .int a1), (2, .int a2), (3, .int a3)] := hl
  refine lv_aload_n hx hb dX0_askThrow_0 rfl (lv_at hl 0 rfl) ?_
  refine gF G hw h0 KX0 0 (k2 := (k0 + 1)) rfl (by decide) rfl fl_X0_7 dX0_askThrow_1 ?_
  refine lv_iconst hx hb dX0_askThrow_4 ki_0 ?_
  refine lv_iload_n hx hb dX0_askThrow_5 rfl (lv_at hl 1 rfl) ?_
  obtain ⟨S_1, eS_1, hf⟩ := bL_e hf
  refine sI G hw (sub_Arms_asked hZ h0) (vin_e (by decide)) (j := 0) (by decide) eS_1 dX0_askThrow_6 (fun H locs hw => ?_)
  refine lv_aload_n hx hb dX0_askThrow_7 rfl (lv_at hl 0 rfl) ?_
  refine gF G hw h0 KX0 0 (k2 := (k0 + 1)) rfl (by decide) rfl fl_X0_7 dX0_askThrow_8 ?_
  refine lv_iconst hx hb dX0_askThrow_11 ki_1 ?_
  refine lv_iload_n hx hb dX0_askThrow_12 rfl (lv_at hl 2 rfl) ?_
  obtain ⟨S_2, eS_2, hf⟩ := bL_e hf
  refine sI G hw (sub_Arms_asked hZ h0) (vin_e (by decide)) (j := 1) (by decide) eS_2 dX0_askThrow_13 (fun H locs hw => ?_)
  refine lv_aload_n hx hb dX0_askThrow_14 rfl (lv_at hl 0 rfl) ?_
  refine gF G hw h0 KX0 0 (k2 := (k0 + 1)) rfl (by decide) rfl fl_X0_7 dX0_askThrow_15 ?_
  refine lv_iconst hx hb dX0_askThrow_18 ki_2 ?_
  refine lv_iload_n hx hb dX0_askThrow_19 rfl (lv_at hl 3 rfl) ?_
  obtain ⟨S_3, eS_3, hf⟩ := bL_e hf
  refine sI G hw (sub_Arms_asked hZ h0) (vin_e (by decide)) (j := 2) (by decide) eS_3 dX0_askThrow_20 (fun H locs hw => ?_)
  exact hret _ _ _ _ dX0_askThrow_21 (by rw [← hf]; exact hw)
noncomputable def F0_ask (S : pS) (k0 : Nat) (k1 : Nat) (a2 : Int32) : pS :=
  bL (F0_askThrow S k0 0 0 0) fun S_1 =>
  bL (F0_askState S_1 k0 (S_1 k1 1) (S_1 k1 3)) fun S_2 =>
  bL (F0_askBest S_2 k0 (S_2 k1 2)) fun S_3 =>
  bL (sU S_3 (k0 + 1) 4 (S_3 k1 0)) fun S_4 =>
  bL (sU S_4 (k0 + 1) 7 a2) fun S_5 =>
  S_5
set_option maxRecDepth 100000 in
set_option maxHeartbeats 4000000 in
theorem wX0_ask {l : Launch} {Z : pZ}  (hZ : CC Z) (S : pS) (k0 : Nat) (k1 : Nat) (a2 : Int32) (S2 : pS) (h0 : isA Z K_Arms k0) (h1 : isA Z K_Thrower k1) (hf : F0_ask S k0 k1 a2 = S2) : CV l Z yX0_ask cX0_ask 3 4 83 [.ref (za Z k0), .ref (za Z k1), .int a2] S S2 := by
  unfold F0_ask at hf
  refine eV (own := RX0) (by decide) rfl (Nat.le_of_ble_eq_true rfl) (fun p e s m args below meth c Q ls G hl hw hret => ?_)
  obtain ⟨hx, hb, hml, hown, hts⟩ := G.1
  have hl : lv_has ls 3 [(0, .ref (za Z k0)), (1, .ref (za Z k1)), (2, .int a2)] := hl
  refine lv_aload_n hx hb dX0_ask_0 rfl (lv_at hl 0 rfl) ?_
  refine lv_iconst hx hb dX0_ask_1 ki_0 ?_
  refine lv_iconst hx hb dX0_ask_2 ki_0 ?_
  refine lv_iconst hx hb dX0_ask_3 ki_0 ?_
  obtain ⟨S_1, hS_1, hf⟩ := bL_e hf
  refine kVv (rest := []) G hw (wX0_askThrow hZ S k0 0 0 0 S_1 h0 hS_1.symm) cw_X0_13 h0 KX0 ⟨Nat.le_of_ble_eq_true rfl, Nat.le_of_ble_eq_true rfl⟩ rfl hl.1 rfl (Nat.le_of_ble_eq_true rfl) ⟨Nat.le_refl _, Nat.le_refl _⟩ dX0_ask_4 (fun H locs hw => ?_)
  refine lv_aload_n hx hb dX0_ask_7 rfl (lv_at hl 0 rfl) ?_
  refine lv_aload_n hx hb dX0_ask_8 rfl (lv_at hl 1 rfl) ?_
  refine gI G hw h1 KX8 1 (by decide) rfl fl_X0_17 dX0_ask_9 ?_
  refine lv_aload_n hx hb dX0_ask_12 rfl (lv_at hl 1 rfl) ?_
  refine gI G hw h1 KX8 3 (by decide) rfl fl_X0_23 dX0_ask_13 ?_
  obtain ⟨S_2, hS_2, hf⟩ := bL_e hf
  refine kVv (rest := []) G hw (wX0_askState hZ S_1 k0 (S_1 k1 1) (S_1 k1 3) S_2 h0 hS_2.symm) cw_X0_26 h0 KX0 ⟨Nat.le_of_ble_eq_true rfl, Nat.le_of_ble_eq_true rfl⟩ rfl hl.1 rfl (Nat.le_of_ble_eq_true rfl) ⟨Nat.le_refl _, Nat.le_refl _⟩ dX0_ask_16 (fun H locs hw => ?_)
  refine lv_aload_n hx hb dX0_ask_19 rfl (lv_at hl 0 rfl) ?_
  refine lv_aload_n hx hb dX0_ask_20 rfl (lv_at hl 1 rfl) ?_
  refine gI G hw h1 KX8 2 (by decide) rfl fl_X0_30 dX0_ask_21 ?_
  obtain ⟨S_3, hS_3, hf⟩ := bL_e hf
  refine kVv (rest := []) G hw (wX0_askBest hZ S_2 k0 (S_2 k1 2) S_3 h0 hS_3.symm) cw_X0_33 h0 KX0 ⟨Nat.le_of_ble_eq_true rfl, Nat.le_of_ble_eq_true rfl⟩ rfl hl.1 rfl (Nat.le_of_ble_eq_true rfl) ⟨Nat.le_refl _, Nat.le_refl _⟩ dX0_ask_24 (fun H locs hw => ?_)
  refine lv_aload_n hx hb dX0_ask_27 rfl (lv_at hl 0 rfl) ?_
  refine gF G hw h0 KX0 0 (k2 := (k0 + 1)) rfl (by decide) rfl fl_X0_7 dX0_ask_28 ?_
  refine lv_iconst hx hb dX0_ask_31 ki_4 ?_
  refine lv_aload_n hx hb dX0_ask_32 rfl (lv_at hl 1 rfl) ?_
  refine gI G hw h1 KX8 0 (by decide) rfl fl_X0_37 dX0_ask_33 ?_
  obtain ⟨S_4, eS_4, hf⟩ := bL_e hf
  refine sI G hw (sub_Arms_asked hZ h0) (vin_e (by decide)) (j := 4) (by decide) eS_4 dX0_ask_36 (fun H locs hw => ?_)
  refine lv_aload_n hx hb dX0_ask_37 rfl (lv_at hl 0 rfl) ?_
  refine gF G hw h0 KX0 0 (k2 := (k0 + 1)) rfl (by decide) rfl fl_X0_7 dX0_ask_38 ?_
  refine lv_bipush hx hb dX0_ask_41 kb_7 ?_
  refine lv_iload_n hx hb dX0_ask_43 rfl (lv_at hl 2 rfl) ?_
  obtain ⟨S_5, eS_5, hf⟩ := bL_e hf
  refine sI G hw (sub_Arms_asked hZ h0) (vin_e (by decide)) (j := 7) (by decide) eS_5 dX0_ask_44 (fun H locs hw => ?_)
  exact hret _ _ _ _ dX0_ask_45 (by rw [← hf]; exact hw)
noncomputable def F3_join (a0 : Int32) (a1 : Int32) (a2 : Int32) : Int32 :=
  if a0 = 2 then
    a1 + a2
  else if a0 = 3 then
    a1 - a2
  else if a0 = 4 then
    a1 * a2
  else if a0 = 5 then
    a1 ||| a2
  else if a0 = 6 then
    if a2 ≤ a1 then
      (0 : Int32)
    else
      (1 : Int32)
  else if a0 = 7 then
    if a1 = a2 then
      (1 : Int32)
    else
      (0 : Int32)
  else if a0 = 8 then
    if a1 ≤ a2 then
      (0 : Int32)
    else
      (1 : Int32)
  else if a0 = 9 then
    a1 ||| a2
  else if a0 = 10 then
    a1 &&& a2
  else 
    a1 ||| a2
set_option maxRecDepth 100000 in
set_option maxHeartbeats 4000000 in
theorem wX3_join {l : Launch} {Z : pZ}  (hZ : CC Z) (S : pS) (a0 : Int32) (a1 : Int32) (a2 : Int32) (r : Int32)  (hf : F3_join a0 a1 a2 = r) : CI l Z yX3_join cX3_join 3 .int 3 60 [.int a0, .int a1, .int a2] S r S := by
  unfold F3_join at hf
  refine eI (own := RX3) (by decide) rfl (Nat.le_of_ble_eq_true rfl) (fun p e s m args below meth c Q ls G hl hw hret => ?_)
  obtain ⟨hx, hb, hml, hown, hts⟩ := G.1
  have hl : lv_has ls 3 [(0, .int a0), (1, .int a1), (2, .int a2)] := hl
  refine lv_iload_n hx hb dX3_join_0 rfl (lv_at hl 0 rfl) ?_
  by_cases c_1 : a0 = 2
  · have hf := (if_pos c_1).symm.trans hf
    refine lv_tableIn (tgt := 52) hx hb dX3_join_1 (by rw [c_1]; decide) (by rw [c_1]; decide) (off := 51) (by rw [c_1]; decide) (by decide) ?_
    refine lv_iload_n hx hb dX3_join_52 rfl (lv_at hl 1 rfl) ?_
    refine lv_iload_n hx hb dX3_join_53 rfl (lv_at hl 2 rfl) ?_
    refine lv_iadd hx hb dX3_join_54 ?_
    exact hret _ _ _ _ _ dX3_join_55 hf hw
  have hf := (if_neg c_1).symm.trans hf
  by_cases c_2 : a0 = 3
  · have hf := (if_pos c_2).symm.trans hf
    refine lv_tableIn (tgt := 56) hx hb dX3_join_1 (by rw [c_2]; decide) (by rw [c_2]; decide) (off := 55) (by rw [c_2]; decide) (by decide) ?_
    refine lv_iload_n hx hb dX3_join_56 rfl (lv_at hl 1 rfl) ?_
    refine lv_iload_n hx hb dX3_join_57 rfl (lv_at hl 2 rfl) ?_
    refine lv_isub hx hb dX3_join_58 ?_
    exact hret _ _ _ _ _ dX3_join_59 hf hw
  have hf := (if_neg c_2).symm.trans hf
  by_cases c_3 : a0 = 4
  · have hf := (if_pos c_3).symm.trans hf
    refine lv_tableIn (tgt := 60) hx hb dX3_join_1 (by rw [c_3]; decide) (by rw [c_3]; decide) (off := 59) (by rw [c_3]; decide) (by decide) ?_
    refine lv_iload_n hx hb dX3_join_60 rfl (lv_at hl 1 rfl) ?_
    refine lv_iload_n hx hb dX3_join_61 rfl (lv_at hl 2 rfl) ?_
    refine lv_imul hx hb dX3_join_62 ?_
    exact hret _ _ _ _ _ dX3_join_63 hf hw
  have hf := (if_neg c_3).symm.trans hf
  by_cases c_4 : a0 = 5
  · have hf := (if_pos c_4).symm.trans hf
    refine lv_tableIn (tgt := 101) hx hb dX3_join_1 (by rw [c_4]; decide) (by rw [c_4]; decide) (off := 100) (by rw [c_4]; decide) (by decide) ?_
    refine lv_iload_n hx hb dX3_join_101 rfl (lv_at hl 1 rfl) ?_
    refine lv_iload_n hx hb dX3_join_102 rfl (lv_at hl 2 rfl) ?_
    refine lv_ior hx hb dX3_join_103 ?_
    exact hret _ _ _ _ _ dX3_join_104 hf hw
  have hf := (if_neg c_4).symm.trans hf
  by_cases c_6 : a0 = 6
  · have hf := (if_pos c_6).symm.trans hf
    refine lv_tableIn (tgt := 64) hx hb dX3_join_1 (by rw [c_6]; decide) (by rw [c_6]; decide) (off := 63) (by rw [c_6]; decide) (by decide) ?_
    refine lv_iload_n hx hb dX3_join_64 rfl (lv_at hl 1 rfl) ?_
    refine lv_iload_n hx hb dX3_join_65 rfl (lv_at hl 2 rfl) ?_
    refine lv_icmp_ge (tgt := 73) hx hb dX3_join_66 (by decide) (fun c_5 => ?_) (fun c_5 => ?_)
    · have hf := (if_pos c_5).symm.trans hf
      refine lv_iconst hx hb dX3_join_73 ki_0 ?_
      exact hret _ _ _ _ _ dX3_join_74 hf hw
    · have hf := (if_neg c_5).symm.trans hf
      refine lv_iconst hx hb dX3_join_69 ki_1 ?_
      refine lv_goto (tgt := 74) hx hb dX3_join_70 (by decide) ?_
      exact hret _ _ _ _ _ dX3_join_74 hf hw
  have hf := (if_neg c_6).symm.trans hf
  by_cases c_8 : a0 = 7
  · have hf := (if_pos c_8).symm.trans hf
    refine lv_tableIn (tgt := 75) hx hb dX3_join_1 (by rw [c_8]; decide) (by rw [c_8]; decide) (off := 74) (by rw [c_8]; decide) (by decide) ?_
    refine lv_iload_n hx hb dX3_join_75 rfl (lv_at hl 1 rfl) ?_
    refine lv_iload_n hx hb dX3_join_76 rfl (lv_at hl 2 rfl) ?_
    refine lv_icmp_ne (tgt := 84) hx hb dX3_join_77 (by decide) (fun c_7 => ?_) (fun c_7 => ?_)
    · have hf := (if_neg c_7).symm.trans hf
      refine lv_iconst hx hb dX3_join_84 ki_0 ?_
      exact hret _ _ _ _ _ dX3_join_85 hf hw
    · have hf := (if_pos c_7).symm.trans hf
      refine lv_iconst hx hb dX3_join_80 ki_1 ?_
      refine lv_goto (tgt := 85) hx hb dX3_join_81 (by decide) ?_
      exact hret _ _ _ _ _ dX3_join_85 hf hw
  have hf := (if_neg c_8).symm.trans hf
  by_cases c_10 : a0 = 8
  · have hf := (if_pos c_10).symm.trans hf
    refine lv_tableIn (tgt := 86) hx hb dX3_join_1 (by rw [c_10]; decide) (by rw [c_10]; decide) (off := 85) (by rw [c_10]; decide) (by decide) ?_
    refine lv_iload_n hx hb dX3_join_86 rfl (lv_at hl 1 rfl) ?_
    refine lv_iload_n hx hb dX3_join_87 rfl (lv_at hl 2 rfl) ?_
    refine lv_icmp_le (tgt := 95) hx hb dX3_join_88 (by decide) (fun c_9 => ?_) (fun c_9 => ?_)
    · have hf := (if_pos c_9).symm.trans hf
      refine lv_iconst hx hb dX3_join_95 ki_0 ?_
      exact hret _ _ _ _ _ dX3_join_96 hf hw
    · have hf := (if_neg c_9).symm.trans hf
      refine lv_iconst hx hb dX3_join_91 ki_1 ?_
      refine lv_goto (tgt := 96) hx hb dX3_join_92 (by decide) ?_
      exact hret _ _ _ _ _ dX3_join_96 hf hw
  have hf := (if_neg c_10).symm.trans hf
  by_cases c_11 : a0 = 9
  · have hf := (if_pos c_11).symm.trans hf
    refine lv_tableIn (tgt := 101) hx hb dX3_join_1 (by rw [c_11]; decide) (by rw [c_11]; decide) (off := 100) (by rw [c_11]; decide) (by decide) ?_
    refine lv_iload_n hx hb dX3_join_101 rfl (lv_at hl 1 rfl) ?_
    refine lv_iload_n hx hb dX3_join_102 rfl (lv_at hl 2 rfl) ?_
    refine lv_ior hx hb dX3_join_103 ?_
    exact hret _ _ _ _ _ dX3_join_104 hf hw
  have hf := (if_neg c_11).symm.trans hf
  by_cases c_12 : a0 = 10
  · have hf := (if_pos c_12).symm.trans hf
    refine lv_tableIn (tgt := 97) hx hb dX3_join_1 (by rw [c_12]; decide) (by rw [c_12]; decide) (off := 96) (by rw [c_12]; decide) (by decide) ?_
    refine lv_iload_n hx hb dX3_join_97 rfl (lv_at hl 1 rfl) ?_
    refine lv_iload_n hx hb dX3_join_98 rfl (lv_at hl 2 rfl) ?_
    refine lv_iand hx hb dX3_join_99 ?_
    exact hret _ _ _ _ _ dX3_join_100 hf hw
  have hf := (if_neg c_12).symm.trans hf
  refine lv_tableOut (tgt := 101) hx hb dX3_join_1 (sw_out [2, 3, 4, 5, 6, 7, 8, 9, 10] (by decide +kernel) (List.forall_mem_cons.mpr ⟨c_1, (List.forall_mem_cons.mpr ⟨c_2, (List.forall_mem_cons.mpr ⟨c_3, (List.forall_mem_cons.mpr ⟨c_4, (List.forall_mem_cons.mpr ⟨c_6, (List.forall_mem_cons.mpr ⟨c_8, (List.forall_mem_cons.mpr ⟨c_10, (List.forall_mem_cons.mpr ⟨c_11, (List.forall_mem_cons.mpr ⟨c_12, (fun _ h => absurd h List.not_mem_nil)⟩)⟩)⟩)⟩)⟩)⟩)⟩)⟩)⟩)) (by decide) ?_
  refine lv_iload_n hx hb dX3_join_101 rfl (lv_at hl 1 rfl) ?_
  refine lv_iload_n hx hb dX3_join_102 rfl (lv_at hl 2 rfl) ?_
  refine lv_ior hx hb dX3_join_103 ?_
  exact hret _ _ _ _ _ dX3_join_104 hf hw
noncomputable def F3_count (S : pS) (k0 : Nat) (a1 : Int32) (a2 : Int32) (k3 : Nat) (n3 : Nat) : Option (Int32 × pS) :=
  bL (fun (l4_1 : Int32) (S_2 : pS) =>
    if l4_1 ≤ 0 then
      some ((0 : Int32), S_2)
    else
      bG (vp_in (l4_1 - 1) 32) <|
      some (S_2 (k0 + 6) ((l4_1 - 1).toNatClampNeg), S_2)) fun g236_6 =>
  bL (fun (S_5 : pS) =>
    some ((0 : Int32), S_5)) fun g61_6 =>
  bL (fun (S_6 : pS) =>
    some ((0 : Int32), S_6)) fun g126_6 =>
  bL (u3 fun (l4_7 : Int32) (l5_8 : Int32) (S_9 : pS) =>
    if a2 ≤ l5_8 then
      some (.inr (.inl (l4_7, S_9)))
    else
      if 400 ≤ l5_8 then
        some (.inr (.inl (l4_7, S_9)))
      else
        bG (vp_in l5_8 400) <|
        bL ((S_9 (k0 + 5) l5_8.toNatClampNeg) &&& 15) fun l6_12 =>
        bG (vp_in l5_8 400) <|
        bL ((S_9 (k0 + 5) l5_8.toNatClampNeg) >>> (4 &&& 31)) fun l7_14 =>
        bL (fun (l4_15 : Int32) (S_16 : pS) =>
          bL (l5_8 + 1) fun l5_17 =>
          some (.inl (l4_15, l5_17, S_16))) fun j230 =>
        if 1 < l6_12 then
          if l4_7 < 1 then
            some (.inr (.inr (.inr S_9)))
          else
            bL (fun (_ : Unit) =>
              if l6_12 = 5 then
                bL (fun (t_27 : Int32) =>
                  bG (vp_in (l4_7 - 1) 32) <|
                  bL (sU S_9 (k0 + 6) ((l4_7 - 1).toNatClampNeg) t_27) fun S_29 =>
                  j230 l4_7 S_29) fun j163 =>
                if l7_14 ≤ 0 then
                  j163 0
                else
                  bG (vp_in (l4_7 - 1) 32) <|
                  bG (¬ l7_14 = 0) <|
                  j163 ((S_9 (k0 + 6) ((l4_7 - 1).toNatClampNeg)) / l7_14)
              else
                if l6_12 = 9 then
                  bG (vp_in (l4_7 - 1) 32) <|
                  bG (vp_in (l4_7 - 1) 32) <|
                  bL (sU S_9 (k0 + 6) ((l4_7 - 1).toNatClampNeg) (1 - (S_9 (k0 + 6) ((l4_7 - 1).toNatClampNeg)))) fun S_25 =>
                  j230 l4_7 S_25
                else
                  bL (l4_7 + (-1)) fun l4_18 =>
                  bG (vp_in (l4_18 - 1) 32) <|
                  bG (vp_in l4_18 32) <|
                  bG (vp_in (l4_18 - 1) 32) <|
                  bL (sU S_9 (k0 + 6) ((l4_18 - 1).toNatClampNeg) (F3_join l6_12 (S_9 (k0 + 6) ((l4_18 - 1).toNatClampNeg)) (S_9 (k0 + 6) l4_18.toNatClampNeg))) fun S_22 =>
                  j230 l4_18 S_22) fun j128 =>
            if l6_12 = 5 then
              j128 ()
            else
              if l6_12 = 9 then
                j128 ()
              else
                if 2 ≤ l4_7 then
                  j128 ()
                else
                  some (.inr (.inr (.inr S_9)))
        else
          if l4_7 < 32 then
            bL (fun (t_37 : Int32) =>
              bG (vp_in l4_7 32) <|
              bL (sU S_9 (k0 + 6) l4_7.toNatClampNeg t_37) fun S_39 =>
              bL (l4_7 + 1) fun l4_40 =>
              j230 l4_40 S_39) fun j94 =>
            if l6_12 = 0 then
              j94 l7_14
            else
              if (nI n3) ≤ l7_14 then
                j94 0
              else
                bG (vp_in l7_14 n3) <|
                j94 (S_9 k3 l7_14.toNatClampNeg)
          else
            some (.inr (.inr (.inl S_9)))) fun b6 =>
  bB (bP b6 ((0 : Int32), a1, S)) (Sum.elim (u2 g236_6) (Sum.elim (u1 g61_6) (u1 g126_6)))
set_option maxRecDepth 100000 in
set_option maxHeartbeats 4000000 in
theorem wX3_count {l : Launch} {Z : pZ}  (hZ : CC Z) (S : pS) (k0 : Nat) (a1 : Int32) (a2 : Int32) (k3 : Nat) (n3 : Nat) (r : Int32) (S2 : pS) (h0 : isA Z K_Law k0) (h3 : isA Z (.inl (0, n3)) k3) (hf : F3_count S k0 a1 a2 k3 n3 = some (r, S2)) : CI l Z yX3_count cX3_count 8 .int 4 82 [.ref (za Z k0), .int a1, .int a2, .ref (za Z k3)] S r S2 := by
  unfold F3_count at hf
  refine eI (own := RX3) (by decide) rfl (Nat.le_of_ble_eq_true rfl) (fun p e s m args below meth c Q ls G hl hw hret => ?_)
  obtain ⟨hx, hb, hml, hown, hts⟩ := G.1
  have hl : lv_has ls 8 [(0, .ref (za Z k0)), (1, .int a1), (2, .int a2), (3, .ref (za Z k3))] := hl
  refine lv_iconst hx hb dX3_count_0 ki_0 ?_
  refine lv_istore (lv' := [(4, .int 0), (0, .ref (za Z k0)), (1, .int a1), (2, .int a2), (3, .ref (za Z k3))]) hx hb dX3_count_1 hl (by decide) rfl (fun ls hl => ?_)
  refine lv_iload_n hx hb dX3_count_3 rfl (lv_at hl 2 rfl) ?_
  refine lv_istore (lv' := [(5, .int a1), (4, .int 0), (0, .ref (za Z k0)), (1, .int a1), (2, .int a2), (3, .ref (za Z k3))]) hx hb dX3_count_4 hl (by decide) rfl (fun ls hl => ?_)
  obtain ⟨g236_6, ej, hf⟩ := bL_e hf
  have R236_6 : ∀ (l4_1 : Int32) (S_2 : pS) (H : Heap) (locs : List Loc) (ls : Array Slot), Wd Z s S_2 H locs → lv_has ls 8 [(0, .ref (za Z k0)), (4, .int l4_1)] → g236_6 l4_1 S_2 = some (r, S2) → W p l e { frames := 4, cells := 0, slots := 0, locals := 82 } s m args below meth c H locs 0 0 Q (F0 m 236 ls []) := by
    intro l4_1 S_2 H locs ls hw hl hf
    have hf := (congrFun (congrFun ej l4_1) S_2).symm.trans hf
    refine lv_iload hx hb dX3_count_236 (lv_at hl 1 rfl) ?_
    refine lv_if_le (tgt := 253) hx hb dX3_count_238 (by decide) (fun c_4 => ?_) (fun c_4 => ?_)
    · have hf := (if_pos c_4).symm.trans hf
      refine lv_iconst hx hb dX3_count_253 ki_0 ?_
      obtain ⟨e1, e2⟩ := Prod.mk.inj (Option.some.inj hf)
      exact hret _ _ _ _ _ dX3_count_254 e1 (by rw [← e2]; exact hw)
    · have hf := (if_neg c_4).symm.trans hf
      refine lv_aload_n hx hb dX3_count_241 rfl (lv_at hl 0 rfl) ?_
      refine gF G hw h0 KX3 7 (k2 := (k0 + 6)) rfl (by decide) rfl fl_X3_27 dX3_count_242 ?_
      refine lv_iload hx hb dX3_count_245 (lv_at hl 1 rfl) ?_
      refine lv_iconst hx hb dX3_count_247 ki_1 ?_
      refine lv_isub hx hb dX3_count_248 ?_
      obtain ⟨hg_3, hf⟩ := bG_e hf
      refine aI G hw (sub_Law_stack hZ h0) hg_3 (j := (l4_1 - 1).toNatClampNeg) rfl dX3_count_249 ?_
      refine lv_goto (tgt := 254) hx hb dX3_count_250 (by decide) ?_
      obtain ⟨e1, e2⟩ := Prod.mk.inj (Option.some.inj hf)
      exact hret _ _ _ _ _ dX3_count_254 e1 (by rw [← e2]; exact hw)
  clear ej
  obtain ⟨g61_6, ej, hf⟩ := bL_e hf
  have R61_6 : ∀ (S_5 : pS) (H : Heap) (locs : List Loc) (ls : Array Slot), Wd Z s S_5 H locs → lv_has ls 8 [] → g61_6 S_5 = some (r, S2) → W p l e { frames := 4, cells := 0, slots := 0, locals := 82 } s m args below meth c H locs 0 0 Q (F0 m 61 ls []) := by
    intro S_5 H locs ls hw hl hf
    have hf := (congrFun ej S_5).symm.trans hf
    refine lv_iconst hx hb dX3_count_61 ki_0 ?_
    obtain ⟨e1, e2⟩ := Prod.mk.inj (Option.some.inj hf)
    exact hret _ _ _ _ _ dX3_count_62 e1 (by rw [← e2]; exact hw)
  clear ej
  obtain ⟨g126_6, ej, hf⟩ := bL_e hf
  have R126_6 : ∀ (S_6 : pS) (H : Heap) (locs : List Loc) (ls : Array Slot), Wd Z s S_6 H locs → lv_has ls 8 [] → g126_6 S_6 = some (r, S2) → W p l e { frames := 4, cells := 0, slots := 0, locals := 82 } s m args below meth c H locs 0 0 Q (F0 m 126 ls []) := by
    intro S_6 H locs ls hw hl hf
    have hf := (congrFun ej S_6).symm.trans hf
    refine lv_iconst hx hb dX3_count_126 ki_0 ?_
    obtain ⟨e1, e2⟩ := Prod.mk.inj (Option.some.inj hf)
    exact hret _ _ _ _ _ dX3_count_127 e1 (by rw [← e2]; exact hw)
  clear ej
  obtain ⟨b6, eb, hf⟩ := bL_e hf
  have RL6 : ∀ (n : Nat) z, (Sum.elim (u2 g236_6) (Sum.elim (u1 g61_6) (u1 g126_6))) z = some (r, S2) → ∀ (l4_7 : Int32) (l5_8 : Int32) (S_9 : pS) (H : Heap) (locs : List Loc) (ls : Array Slot), Wd Z s S_9 H locs → lv_has ls 8 [(0, .ref (za Z k0)), (2, .int a2), (3, .ref (za Z k3)), (4, .int l4_7), (5, .int l5_8)] → bPn b6 n (l4_7, l5_8, S_9) = some z → W p l e { frames := 4, cells := 0, slots := 0, locals := 82 } s m args below meth c H locs 0 0 Q (F0 m 6 ls []) := by
    intro n
    induction n with
    | zero =>
      intro z hg l4_7 l5_8 S_9 H locs ls hw hl hz
      exact bPn_0 hz
    | succ n ih =>
      intro z hg l4_7 l5_8 S_9 H locs ls hw hl hz
      obtain ⟨q_10, hf, hz⟩ := bPn_e hz
      have hf := u3_e ((congrFun eb _).symm.trans hf)
      refine lv_iload hx hb dX3_count_6 (lv_at hl 4 rfl) ?_
      refine lv_iload_n hx hb dX3_count_8 rfl (lv_at hl 1 rfl) ?_
      refine lv_icmp_ge (tgt := 236) hx hb dX3_count_9 (by decide) (fun c_47 => ?_) (fun c_47 => ?_)
      · have hf := (if_pos c_47).symm.trans hf
        obtain rfl := Option.some.inj hf
        obtain rfl := Option.some.inj (hz : some _ = some _)
        exact R236_6 _ _ _ _ _ hw (lv_sub hl [0, 3] rfl) hg
      · have hf := (if_neg c_47).symm.trans hf
        refine lv_iload hx hb dX3_count_12 (lv_at hl 4 rfl) ?_
        refine lv_aload_n hx hb dX3_count_14 rfl (lv_at hl 0 rfl) ?_
        refine gF G hw h0 KX3 6 (k2 := (k0 + 5)) rfl (by decide) rfl fl_X3_24 dX3_count_15 ?_
        refine aL G hw (t := 0) (sub_Law_step hZ h0) rfl (v := 400) (by decide) dX3_count_18 ?_
        refine lv_icmp_ge (tgt := 236) hx hb dX3_count_19 (by decide) (fun c_46 => ?_) (fun c_46 => ?_)
        · have hf := (if_pos c_46).symm.trans hf
          obtain rfl := Option.some.inj hf
          obtain rfl := Option.some.inj (hz : some _ = some _)
          exact R236_6 _ _ _ _ _ hw (lv_sub hl [0, 3] rfl) hg
        · have hf := (if_neg c_46).symm.trans hf
          refine lv_aload_n hx hb dX3_count_22 rfl (lv_at hl 0 rfl) ?_
          refine gF G hw h0 KX3 6 (k2 := (k0 + 5)) rfl (by decide) rfl fl_X3_24 dX3_count_23 ?_
          refine lv_iload hx hb dX3_count_26 (lv_at hl 4 rfl) ?_
          obtain ⟨hg_11, hf⟩ := bG_e hf
          refine aI G hw (sub_Law_step hZ h0) hg_11 (j := l5_8.toNatClampNeg) rfl dX3_count_28 ?_
          refine lv_bipush hx hb dX3_count_29 kb_15 ?_
          refine lv_iand hx hb dX3_count_31 ?_
          obtain ⟨l6_12, el6_12, hf⟩ := bL_e hf
          refine top_i el6_12 ?_
          refine lv_istore (lv' := [(6, .int l6_12), (0, .ref (za Z k0)), (2, .int a2), (3, .ref (za Z k3)), (4, .int l4_7), (5, .int l5_8)]) hx hb dX3_count_32 hl (by decide) rfl (fun ls hl => ?_)
          refine lv_aload_n hx hb dX3_count_34 rfl (lv_at hl 1 rfl) ?_
          refine gF G hw h0 KX3 6 (k2 := (k0 + 5)) rfl (by decide) rfl fl_X3_24 dX3_count_35 ?_
          refine lv_iload hx hb dX3_count_38 (lv_at hl 5 rfl) ?_
          obtain ⟨hg_13, hf⟩ := bG_e hf
          refine aI G hw (sub_Law_step hZ h0) hg_13 (j := l5_8.toNatClampNeg) rfl dX3_count_40 ?_
          refine lv_iconst hx hb dX3_count_41 ki_4 ?_
          refine lv_ishr hx hb dX3_count_42 ?_
          obtain ⟨l7_14, el7_14, hf⟩ := bL_e hf
          refine top_i el7_14 ?_
          refine lv_istore (lv' := [(7, .int l7_14), (6, .int l6_12), (0, .ref (za Z k0)), (2, .int a2), (3, .ref (za Z k3)), (4, .int l4_7), (5, .int l5_8)]) hx hb dX3_count_43 hl (by decide) rfl (fun ls hl => ?_)
          refine lv_iload hx hb dX3_count_45 (lv_at hl 1 rfl) ?_
          refine lv_iconst hx hb dX3_count_47 ki_1 ?_
          obtain ⟨j230, ej, hf⟩ := bL_e hf
          have R230 : ∀ (l4_15 : Int32) (S_16 : pS) (H : Heap) (locs : List Loc) (ls : Array Slot), Wd Z s S_16 H locs → lv_has ls 8 [(0, .ref (za Z k0)), (2, .int a2), (3, .ref (za Z k3)), (4, .int l4_15), (5, .int l5_8)] → j230 l4_15 S_16 = some q_10 → W p l e { frames := 4, cells := 0, slots := 0, locals := 82 } s m args below meth c H locs 0 0 Q (F0 m 230 ls []) := by
            intro l4_15 S_16 H locs ls hw hl hf
            have hf := (congrFun (congrFun ej l4_15) S_16).symm.trans hf
            obtain ⟨l5_17, el5_17, hf⟩ := bL_e hf
            refine lv_iinc (v := l5_17) (lv' := [(5, .int l5_17), (0, .ref (za Z k0)), (2, .int a2), (3, .ref (za Z k3)), (4, .int l4_15)]) hx hb dX3_count_230 hl (k := 4) rfl (by rw [el5_17]; rfl) (by decide) rfl (fun ls hl => ?_)
            refine lv_goto (tgt := 6) hx hb dX3_count_233 (by decide) ?_
            obtain rfl := Option.some.inj hf
            exact ih _ hg _ _ _ _ _ _ hw (lv_sub hl [1, 2, 3, 4, 0] rfl) hz
          clear ej
          refine lv_icmp_gt (tgt := 101) hx hb dX3_count_48 (by decide) (fun c_45 => ?_) (fun c_45 => ?_)
          · have hf := (if_pos c_45).symm.trans hf
            refine lv_iload hx hb dX3_count_101 (lv_at hl 5 rfl) ?_
            refine lv_iconst hx hb dX3_count_103 ki_1 ?_
            refine lv_icmp_lt (tgt := 126) hx hb dX3_count_104 (by decide) (fun c_36 => ?_) (fun c_36 => ?_)
            · have hf := (if_pos c_36).symm.trans hf
              obtain rfl := Option.some.inj hf
              obtain rfl := Option.some.inj (hz : some _ = some _)
              exact R126_6 _ _ _ _ hw (lv_sub hl [] rfl) hg
            · have hf := (if_neg c_36).symm.trans hf
              refine lv_iload hx hb dX3_count_107 (lv_at hl 1 rfl) ?_
              refine lv_iconst hx hb dX3_count_109 ki_5 ?_
              obtain ⟨j128, ej, hf⟩ := bL_e hf
              have R128 : ∀ (H : Heap) (locs : List Loc) (ls : Array Slot), Wd Z s S_9 H locs → lv_has ls 8 [(0, .ref (za Z k0)), (2, .int a2), (3, .ref (za Z k3)), (4, .int l4_7), (5, .int l5_8), (6, .int l6_12), (7, .int l7_14)] → j128 () = some q_10 → W p l e { frames := 4, cells := 0, slots := 0, locals := 82 } s m args below meth c H locs 0 0 Q (F0 m 128 ls []) := by
                intro  H locs ls hw hl hf
                have hf := (congrFun ej ()).symm.trans hf
                refine lv_iload hx hb dX3_count_128 (lv_at hl 5 rfl) ?_
                refine lv_iconst hx hb dX3_count_130 ki_5 ?_
                refine lv_icmp_ne (tgt := 167) hx hb dX3_count_131 (by decide) (fun c_32 => ?_) (fun c_32 => ?_)
                · have hf := (if_neg c_32).symm.trans hf
                  refine lv_iload hx hb dX3_count_167 (lv_at hl 5 rfl) ?_
                  refine lv_bipush hx hb dX3_count_169 kb_9 ?_
                  refine lv_icmp_ne (tgt := 197) hx hb dX3_count_171 (by decide) (fun c_26 => ?_) (fun c_26 => ?_)
                  · have hf := (if_neg c_26).symm.trans hf
                    obtain ⟨l4_18, el4_18, hf⟩ := bL_e hf
                    refine lv_iinc (v := l4_18) (lv' := [(4, .int l4_18), (0, .ref (za Z k0)), (2, .int a2), (3, .ref (za Z k3)), (5, .int l5_8), (6, .int l6_12), (7, .int l7_14)]) hx hb dX3_count_197 hl (k := 3) rfl (by rw [el4_18]; rfl) (by decide) rfl (fun ls hl => ?_)
                    refine lv_aload_n hx hb dX3_count_200 rfl (lv_at hl 1 rfl) ?_
                    refine gF G hw h0 KX3 7 (k2 := (k0 + 6)) rfl (by decide) rfl fl_X3_27 dX3_count_201 ?_
                    refine lv_iload hx hb dX3_count_204 (lv_at hl 0 rfl) ?_
                    refine lv_iconst hx hb dX3_count_206 ki_1 ?_
                    refine lv_isub hx hb dX3_count_207 ?_
                    refine lv_iload hx hb dX3_count_208 (lv_at hl 5 rfl) ?_
                    refine lv_aload_n hx hb dX3_count_210 rfl (lv_at hl 1 rfl) ?_
                    refine gF G hw h0 KX3 7 (k2 := (k0 + 6)) rfl (by decide) rfl fl_X3_27 dX3_count_211 ?_
                    refine lv_iload hx hb dX3_count_214 (lv_at hl 0 rfl) ?_
                    refine lv_iconst hx hb dX3_count_216 ki_1 ?_
                    refine lv_isub hx hb dX3_count_217 ?_
                    obtain ⟨hg_19, hf⟩ := bG_e hf
                    refine aI G hw (sub_Law_stack hZ h0) hg_19 (j := (l4_18 - 1).toNatClampNeg) rfl dX3_count_218 ?_
                    refine lv_aload_n hx hb dX3_count_219 rfl (lv_at hl 1 rfl) ?_
                    refine gF G hw h0 KX3 7 (k2 := (k0 + 6)) rfl (by decide) rfl fl_X3_27 dX3_count_220 ?_
                    refine lv_iload hx hb dX3_count_223 (lv_at hl 0 rfl) ?_
                    obtain ⟨hg_20, hf⟩ := bG_e hf
                    refine aI G hw (sub_Law_stack hZ h0) hg_20 (j := l4_18.toNatClampNeg) rfl dX3_count_225 ?_
                    refine kSi (rest := [.int (l4_18 - 1), .ref (za Z (k0 + 6))]) G hw (wX3_join hZ S_9 l6_12 (S_9 (k0 + 6) ((l4_18 - 1).toNatClampNeg)) (S_9 (k0 + 6) l4_18.toNatClampNeg) (F3_join l6_12 (S_9 (k0 + 6) ((l4_18 - 1).toNatClampNeg)) (S_9 (k0 + 6) l4_18.toNatClampNeg)) rfl) cw_X3_47 ⟨Nat.le_of_ble_eq_true rfl, Nat.le_of_ble_eq_true rfl⟩ rfl hl.1 rfl (Nat.le_of_ble_eq_true rfl) ⟨Nat.le_refl _, Nat.le_refl _⟩ dX3_count_226 (fun H locs hw => ?_)
                    obtain ⟨hg_21, hf⟩ := bG_e hf
                    obtain ⟨S_22, eS_22, hf⟩ := bL_e hf
                    refine sI G hw (sub_Law_stack hZ h0) hg_21 (j := (l4_18 - 1).toNatClampNeg) rfl eS_22 dX3_count_229 (fun H locs hw => ?_)
                    exact R230 _ _ _ _ _ hw (lv_sub hl [1, 2, 3, 0, 4] rfl) hf
                  · have hf := (if_pos c_26).symm.trans hf
                    refine lv_aload_n hx hb dX3_count_174 rfl (lv_at hl 0 rfl) ?_
                    refine gF G hw h0 KX3 7 (k2 := (k0 + 6)) rfl (by decide) rfl fl_X3_27 dX3_count_175 ?_
                    refine lv_iload hx hb dX3_count_178 (lv_at hl 3 rfl) ?_
                    refine lv_iconst hx hb dX3_count_180 ki_1 ?_
                    refine lv_isub hx hb dX3_count_181 ?_
                    refine lv_iconst hx hb dX3_count_182 ki_1 ?_
                    refine lv_aload_n hx hb dX3_count_183 rfl (lv_at hl 0 rfl) ?_
                    refine gF G hw h0 KX3 7 (k2 := (k0 + 6)) rfl (by decide) rfl fl_X3_27 dX3_count_184 ?_
                    refine lv_iload hx hb dX3_count_187 (lv_at hl 3 rfl) ?_
                    refine lv_iconst hx hb dX3_count_189 ki_1 ?_
                    refine lv_isub hx hb dX3_count_190 ?_
                    obtain ⟨hg_23, hf⟩ := bG_e hf
                    refine aI G hw (sub_Law_stack hZ h0) hg_23 (j := (l4_7 - 1).toNatClampNeg) rfl dX3_count_191 ?_
                    refine lv_isub hx hb dX3_count_192 ?_
                    obtain ⟨hg_24, hf⟩ := bG_e hf
                    obtain ⟨S_25, eS_25, hf⟩ := bL_e hf
                    refine sI G hw (sub_Law_stack hZ h0) hg_24 (j := (l4_7 - 1).toNatClampNeg) rfl eS_25 dX3_count_193 (fun H locs hw => ?_)
                    refine lv_goto (tgt := 230) hx hb dX3_count_194 (by decide) ?_
                    exact R230 _ _ _ _ _ hw (lv_sub hl [0, 1, 2, 3, 4] rfl) hf
                · have hf := (if_pos c_32).symm.trans hf
                  refine lv_aload_n hx hb dX3_count_134 rfl (lv_at hl 0 rfl) ?_
                  refine gF G hw h0 KX3 7 (k2 := (k0 + 6)) rfl (by decide) rfl fl_X3_27 dX3_count_135 ?_
                  refine lv_iload hx hb dX3_count_138 (lv_at hl 3 rfl) ?_
                  refine lv_iconst hx hb dX3_count_140 ki_1 ?_
                  refine lv_isub hx hb dX3_count_141 ?_
                  refine lv_iload hx hb dX3_count_142 (lv_at hl 6 rfl) ?_
                  obtain ⟨j163, ej, hf⟩ := bL_e hf
                  have R163 : ∀ (t_27 : Int32) (H : Heap) (locs : List Loc) (ls : Array Slot), Wd Z s S_9 H locs → lv_has ls 8 [(0, .ref (za Z k0)), (2, .int a2), (3, .ref (za Z k3)), (4, .int l4_7), (5, .int l5_8)] → j163 t_27 = some q_10 → W p l e { frames := 4, cells := 0, slots := 0, locals := 82 } s m args below meth c H locs 0 0 Q (F0 m 163 ls [.int t_27, .int (l4_7 - 1), .ref (za Z (k0 + 6))]) := by
                    intro t_27 H locs ls hw hl hf
                    have hf := (congrFun ej t_27).symm.trans hf
                    obtain ⟨hg_28, hf⟩ := bG_e hf
                    obtain ⟨S_29, eS_29, hf⟩ := bL_e hf
                    refine sI G hw (sub_Law_stack hZ h0) hg_28 (j := (l4_7 - 1).toNatClampNeg) rfl eS_29 dX3_count_163 (fun H locs hw => ?_)
                    refine lv_goto (tgt := 230) hx hb dX3_count_164 (by decide) ?_
                    exact R230 _ _ _ _ _ hw (lv_sub hl [0, 1, 2, 3, 4] rfl) hf
                  clear ej
                  refine lv_if_le (tgt := 162) hx hb dX3_count_144 (by decide) (fun c_31 => ?_) (fun c_31 => ?_)
                  · have hf := (if_pos c_31).symm.trans hf
                    refine lv_iconst hx hb dX3_count_162 ki_0 ?_
                    exact R163 _ _ _ _ hw (lv_sub hl [0, 1, 2, 3, 4] rfl) hf
                  · have hf := (if_neg c_31).symm.trans hf
                    refine lv_aload_n hx hb dX3_count_147 rfl (lv_at hl 0 rfl) ?_
                    refine gF G hw h0 KX3 7 (k2 := (k0 + 6)) rfl (by decide) rfl fl_X3_27 dX3_count_148 ?_
                    refine lv_iload hx hb dX3_count_151 (lv_at hl 3 rfl) ?_
                    refine lv_iconst hx hb dX3_count_153 ki_1 ?_
                    refine lv_isub hx hb dX3_count_154 ?_
                    obtain ⟨hg_30, hf⟩ := bG_e hf
                    refine aI G hw (sub_Law_stack hZ h0) hg_30 (j := (l4_7 - 1).toNatClampNeg) rfl dX3_count_155 ?_
                    refine lv_iload hx hb dX3_count_156 (lv_at hl 6 rfl) ?_
                    obtain ⟨hg1, hf⟩ := bG_e hf
                    refine lv_idiv hx hb dX3_count_158 hg1 ?_
                    refine lv_goto (tgt := 163) hx hb dX3_count_159 (by decide) ?_
                    exact R163 _ _ _ _ hw (lv_sub hl [0, 1, 2, 3, 4] rfl) hf
              clear ej
              refine lv_icmp_eq (tgt := 128) hx hb dX3_count_110 (by decide) (fun c_35 => ?_) (fun c_35 => ?_)
              · have hf := (if_pos c_35).symm.trans hf
                exact R128 _ _ _ hw (lv_sub hl [2, 3, 4, 5, 6, 1, 0] rfl) hf
              · have hf := (if_neg c_35).symm.trans hf
                refine lv_iload hx hb dX3_count_113 (lv_at hl 1 rfl) ?_
                refine lv_bipush hx hb dX3_count_115 kb_9 ?_
                refine lv_icmp_eq (tgt := 128) hx hb dX3_count_117 (by decide) (fun c_34 => ?_) (fun c_34 => ?_)
                · have hf := (if_pos c_34).symm.trans hf
                  exact R128 _ _ _ hw (lv_sub hl [2, 3, 4, 5, 6, 1, 0] rfl) hf
                · have hf := (if_neg c_34).symm.trans hf
                  refine lv_iload hx hb dX3_count_120 (lv_at hl 5 rfl) ?_
                  refine lv_iconst hx hb dX3_count_122 ki_2 ?_
                  refine lv_icmp_ge (tgt := 128) hx hb dX3_count_123 (by decide) (fun c_33 => ?_) (fun c_33 => ?_)
                  · have hf := (if_pos c_33).symm.trans hf
                    exact R128 _ _ _ hw (lv_sub hl [2, 3, 4, 5, 6, 1, 0] rfl) hf
                  · have hf := (if_neg c_33).symm.trans hf
                    obtain rfl := Option.some.inj hf
                    obtain rfl := Option.some.inj (hz : some _ = some _)
                    exact R126_6 _ _ _ _ hw (lv_sub hl [] rfl) hg
          · have hf := (if_neg c_45).symm.trans hf
            refine lv_iload hx hb dX3_count_51 (lv_at hl 5 rfl) ?_
            refine lv_aload_n hx hb dX3_count_53 rfl (lv_at hl 2 rfl) ?_
            refine gF G hw h0 KX3 7 (k2 := (k0 + 6)) rfl (by decide) rfl fl_X3_27 dX3_count_54 ?_
            refine aL G hw (t := 0) (sub_Law_stack hZ h0) rfl (v := 32) (by decide) dX3_count_57 ?_
            refine lv_icmp_lt (tgt := 63) hx hb dX3_count_58 (by decide) (fun c_44 => ?_) (fun c_44 => ?_)
            · have hf := (if_pos c_44).symm.trans hf
              refine lv_aload_n hx hb dX3_count_63 rfl (lv_at hl 2 rfl) ?_
              refine gF G hw h0 KX3 7 (k2 := (k0 + 6)) rfl (by decide) rfl fl_X3_27 dX3_count_64 ?_
              refine lv_iload hx hb dX3_count_67 (lv_at hl 5 rfl) ?_
              refine lv_iload hx hb dX3_count_69 (lv_at hl 1 rfl) ?_
              obtain ⟨j94, ej, hf⟩ := bL_e hf
              have R94 : ∀ (t_37 : Int32) (H : Heap) (locs : List Loc) (ls : Array Slot), Wd Z s S_9 H locs → lv_has ls 8 [(0, .ref (za Z k0)), (2, .int a2), (3, .ref (za Z k3)), (4, .int l4_7), (5, .int l5_8)] → j94 t_37 = some q_10 → W p l e { frames := 4, cells := 0, slots := 0, locals := 82 } s m args below meth c H locs 0 0 Q (F0 m 94 ls [.int t_37, .int l4_7, .ref (za Z (k0 + 6))]) := by
                intro t_37 H locs ls hw hl hf
                have hf := (congrFun ej t_37).symm.trans hf
                obtain ⟨hg_38, hf⟩ := bG_e hf
                obtain ⟨S_39, eS_39, hf⟩ := bL_e hf
                refine sI G hw (sub_Law_stack hZ h0) hg_38 (j := l4_7.toNatClampNeg) rfl eS_39 dX3_count_94 (fun H locs hw => ?_)
                obtain ⟨l4_40, el4_40, hf⟩ := bL_e hf
                refine lv_iinc (v := l4_40) (lv' := [(4, .int l4_40), (0, .ref (za Z k0)), (2, .int a2), (3, .ref (za Z k3)), (5, .int l5_8)]) hx hb dX3_count_95 hl (k := 3) rfl (by rw [el4_40]; rfl) (by decide) rfl (fun ls hl => ?_)
                refine lv_goto (tgt := 230) hx hb dX3_count_98 (by decide) ?_
                exact R230 _ _ _ _ _ hw (lv_sub hl [1, 2, 3, 0, 4] rfl) hf
              clear ej
              refine lv_if_ne (tgt := 79) hx hb dX3_count_71 (by decide) (fun c_43 => ?_) (fun c_43 => ?_)
              · have hf := (if_neg c_43).symm.trans hf
                refine lv_iload hx hb dX3_count_79 (lv_at hl 0 rfl) ?_
                refine lv_aload_n hx hb dX3_count_81 rfl (lv_at hl 4 rfl) ?_
                refine aL G hw (t := 0) h3 rfl (v := nI n3) rfl dX3_count_82 ?_
                refine lv_icmp_ge (tgt := 93) hx hb dX3_count_83 (by decide) (fun c_42 => ?_) (fun c_42 => ?_)
                · have hf := (if_pos c_42).symm.trans hf
                  refine lv_iconst hx hb dX3_count_93 ki_0 ?_
                  exact R94 _ _ _ _ hw (lv_sub hl [2, 3, 4, 5, 6] rfl) hf
                · have hf := (if_neg c_42).symm.trans hf
                  refine lv_aload_n hx hb dX3_count_86 rfl (lv_at hl 4 rfl) ?_
                  refine lv_iload hx hb dX3_count_87 (lv_at hl 0 rfl) ?_
                  obtain ⟨hg_41, hf⟩ := bG_e hf
                  refine aI G hw h3 hg_41 (j := l7_14.toNatClampNeg) rfl dX3_count_89 ?_
                  refine lv_goto (tgt := 94) hx hb dX3_count_90 (by decide) ?_
                  exact R94 _ _ _ _ hw (lv_sub hl [2, 3, 4, 5, 6] rfl) hf
              · have hf := (if_pos c_43).symm.trans hf
                refine lv_iload hx hb dX3_count_74 (lv_at hl 0 rfl) ?_
                refine lv_goto (tgt := 94) hx hb dX3_count_76 (by decide) ?_
                exact R94 _ _ _ _ hw (lv_sub hl [2, 3, 4, 5, 6] rfl) hf
            · have hf := (if_neg c_44).symm.trans hf
              obtain rfl := Option.some.inj hf
              obtain rfl := Option.some.inj (hz : some _ = some _)
              exact R61_6 _ _ _ _ hw (lv_sub hl [] rfl) hg
  clear eb
  obtain ⟨z, hz, hf⟩ := bB_e hf
  obtain ⟨n, hz⟩ := bP_e hz
  exact RL6 n z hf _ _ _ _ _ _ hw (lv_sub hl [2, 4, 5, 1, 0] rfl) hz
noncomputable def F3_tell (S : pS) (k0 : Nat) (a1 : Int32) (k2 : Nat) (n2 : Nat) : Option (Int32 × pS) :=
  bL (fun (S_1 : pS) =>
    some ((0 : Int32), S_1)) fun g85_2 =>
  bL (fun (l3_2 : Int32) (S_3 : pS) =>
    bG (vp_in l3_2 16) <|
    bG (vp_in l3_2 16) <|
    bB2 (F3_count S_3 k0 (S_3 (k0 + 2) l3_2.toNatClampNeg) (S_3 (k0 + 3) l3_2.toNatClampNeg) k2 n2) fun r_6 S_7 =>
    some (r_6, S_7)) fun g61_2 =>
  bL (u2 fun (l3_8 : Int32) (S_9 : pS) =>
    if (S_9 k0 0) ≤ l3_8 then
      some (.inr (.inl S_9))
    else
      if 16 ≤ l3_8 then
        some (.inr (.inl S_9))
      else
        bG (vp_in l3_8 16) <|
        bL (fun (S_12 : pS) =>
          bL (l3_8 + 1) fun l3_13 =>
          some (.inl (l3_13, S_12))) fun j79 =>
        if (S_9 (k0 + 1) l3_8.toNatClampNeg) = a1 then
          bG (vp_in l3_8 16) <|
          bG (vp_in l3_8 16) <|
          if (S_9 (k0 + 4) l3_8.toNatClampNeg) ≤ (S_9 (k0 + 3) l3_8.toNatClampNeg) then
            some (.inr (.inr (l3_8, S_9)))
          else
            bG (vp_in l3_8 16) <|
            bG (vp_in l3_8 16) <|
            bB2 (F3_count S_9 k0 (S_9 (k0 + 3) l3_8.toNatClampNeg) (S_9 (k0 + 4) l3_8.toNatClampNeg) k2 n2) fun r_18 S_19 =>
            if r_18 = 0 then
              j79 S_19
            else
              some (.inr (.inr (l3_8, S_19)))
        else
          j79 S_9) fun b2 =>
  bB (bP b2 ((0 : Int32), S)) (Sum.elim (u1 g85_2) (u2 g61_2))
set_option maxRecDepth 100000 in
set_option maxHeartbeats 4000000 in
theorem wX3_tell {l : Launch} {Z : pZ}  (hZ : CC Z) (S : pS) (k0 : Nat) (a1 : Int32) (k2 : Nat) (n2 : Nat) (r : Int32) (S2 : pS) (h0 : isA Z K_Law k0) (h2 : isA Z (.inl (0, n2)) k2) (hf : F3_tell S k0 a1 k2 n2 = some (r, S2)) : CI l Z yX3_tell cX3_tell 4 .int 5 109 [.ref (za Z k0), .int a1, .ref (za Z k2)] S r S2 := by
  unfold F3_tell at hf
  refine eI (own := RX3) (by decide) rfl (Nat.le_of_ble_eq_true rfl) (fun p e s m args below meth c Q ls G hl hw hret => ?_)
  obtain ⟨hx, hb, hml, hown, hts⟩ := G.1
  have hl : lv_has ls 4 [(0, .ref (za Z k0)), (1, .int a1), (2, .ref (za Z k2))] := hl
  refine lv_iconst hx hb dX3_tell_0 ki_0 ?_
  refine lv_istore_n (lv' := [(3, .int 0), (0, .ref (za Z k0)), (1, .int a1), (2, .ref (za Z k2))]) hx hb dX3_tell_1 rfl hl (by decide) rfl (fun ls hl => ?_)
  obtain ⟨g85_2, ej, hf⟩ := bL_e hf
  have R85_2 : ∀ (S_1 : pS) (H : Heap) (locs : List Loc) (ls : Array Slot), Wd Z s S_1 H locs → lv_has ls 4 [] → g85_2 S_1 = some (r, S2) → W p l e { frames := 5, cells := 0, slots := 0, locals := 109 } s m args below meth c H locs 0 0 Q (F0 m 85 ls []) := by
    intro S_1 H locs ls hw hl hf
    have hf := (congrFun ej S_1).symm.trans hf
    refine lv_iconst hx hb dX3_tell_85 ki_0 ?_
    obtain ⟨e1, e2⟩ := Prod.mk.inj (Option.some.inj hf)
    exact hret _ _ _ _ _ dX3_tell_86 e1 (by rw [← e2]; exact hw)
  clear ej
  obtain ⟨g61_2, ej, hf⟩ := bL_e hf
  have R61_2 : ∀ (l3_2 : Int32) (S_3 : pS) (H : Heap) (locs : List Loc) (ls : Array Slot), Wd Z s S_3 H locs → lv_has ls 4 [(0, .ref (za Z k0)), (2, .ref (za Z k2)), (3, .int l3_2)] → g61_2 l3_2 S_3 = some (r, S2) → W p l e { frames := 5, cells := 0, slots := 0, locals := 109 } s m args below meth c H locs 0 0 Q (F0 m 61 ls []) := by
    intro l3_2 S_3 H locs ls hw hl hf
    have hf := (congrFun (congrFun ej l3_2) S_3).symm.trans hf
    refine lv_aload_n hx hb dX3_tell_61 rfl (lv_at hl 0 rfl) ?_
    refine lv_aload_n hx hb dX3_tell_62 rfl (lv_at hl 0 rfl) ?_
    refine gF G hw h0 KX3 3 (k2 := (k0 + 2)) rfl (by decide) rfl fl_X3_13 dX3_tell_63 ?_
    refine lv_iload_n hx hb dX3_tell_66 rfl (lv_at hl 2 rfl) ?_
    obtain ⟨hg_4, hf⟩ := bG_e hf
    refine aI G hw (sub_Law_from hZ h0) hg_4 (j := l3_2.toNatClampNeg) rfl dX3_tell_67 ?_
    refine lv_aload_n hx hb dX3_tell_68 rfl (lv_at hl 0 rfl) ?_
    refine gF G hw h0 KX3 4 (k2 := (k0 + 3)) rfl (by decide) rfl fl_X3_16 dX3_tell_69 ?_
    refine lv_iload_n hx hb dX3_tell_72 rfl (lv_at hl 2 rfl) ?_
    obtain ⟨hg_5, hf⟩ := bG_e hf
    refine aI G hw (sub_Law_when hZ h0) hg_5 (j := l3_2.toNatClampNeg) rfl dX3_tell_73 ?_
    refine lv_aload_n hx hb dX3_tell_74 rfl (lv_at hl 1 rfl) ?_
    obtain ⟨r_6, S_7, hr_6, hf⟩ := bB2_e hf
    refine kVi (rest := []) G hw (wX3_count hZ S_3 k0 (S_3 (k0 + 2) l3_2.toNatClampNeg) (S_3 (k0 + 3) l3_2.toNatClampNeg) k2 n2 r_6 S_7 h0 h2 hr_6) cw_X3_43 h0 KX3 ⟨Nat.le_of_ble_eq_true rfl, Nat.le_of_ble_eq_true rfl⟩ rfl hl.1 rfl (Nat.le_of_ble_eq_true rfl) ⟨Nat.le_refl _, Nat.le_refl _⟩ dX3_tell_75 (fun H locs hw => ?_)
    obtain ⟨e1, e2⟩ := Prod.mk.inj (Option.some.inj hf)
    exact hret _ _ _ _ _ dX3_tell_78 e1 (by rw [← e2]; exact hw)
  clear ej
  obtain ⟨b2, eb, hf⟩ := bL_e hf
  have RL2 : ∀ (n : Nat) z, (Sum.elim (u1 g85_2) (u2 g61_2)) z = some (r, S2) → ∀ (l3_8 : Int32) (S_9 : pS) (H : Heap) (locs : List Loc) (ls : Array Slot), Wd Z s S_9 H locs → lv_has ls 4 [(0, .ref (za Z k0)), (1, .int a1), (2, .ref (za Z k2)), (3, .int l3_8)] → bPn b2 n (l3_8, S_9) = some z → W p l e { frames := 5, cells := 0, slots := 0, locals := 109 } s m args below meth c H locs 0 0 Q (F0 m 2 ls []) := by
    intro n
    induction n with
    | zero =>
      intro z hg l3_8 S_9 H locs ls hw hl hz
      exact bPn_0 hz
    | succ n ih =>
      intro z hg l3_8 S_9 H locs ls hw hl hz
      obtain ⟨q_10, hf, hz⟩ := bPn_e hz
      have hf := u2_e ((congrFun eb _).symm.trans hf)
      refine lv_iload_n hx hb dX3_tell_2 rfl (lv_at hl 3 rfl) ?_
      refine lv_aload_n hx hb dX3_tell_3 rfl (lv_at hl 0 rfl) ?_
      refine gI G hw h0 KX3 0 (by decide) rfl fl_X3_30 dX3_tell_4 ?_
      refine lv_icmp_ge (tgt := 85) hx hb dX3_tell_7 (by decide) (fun c_24 => ?_) (fun c_24 => ?_)
      · have hf := (if_pos c_24).symm.trans hf
        obtain rfl := Option.some.inj hf
        obtain rfl := Option.some.inj (hz : some _ = some _)
        exact R85_2 _ _ _ _ hw (lv_sub hl [] rfl) hg
      · have hf := (if_neg c_24).symm.trans hf
        refine lv_iload_n hx hb dX3_tell_10 rfl (lv_at hl 3 rfl) ?_
        refine lv_bipush hx hb dX3_tell_11 kb_16 ?_
        refine lv_icmp_ge (tgt := 85) hx hb dX3_tell_13 (by decide) (fun c_23 => ?_) (fun c_23 => ?_)
        · have hf := (if_pos c_23).symm.trans hf
          obtain rfl := Option.some.inj hf
          obtain rfl := Option.some.inj (hz : some _ = some _)
          exact R85_2 _ _ _ _ hw (lv_sub hl [] rfl) hg
        · have hf := (if_neg c_23).symm.trans hf
          refine lv_aload_n hx hb dX3_tell_16 rfl (lv_at hl 0 rfl) ?_
          refine gF G hw h0 KX3 2 (k2 := (k0 + 1)) rfl (by decide) rfl fl_X3_9 dX3_tell_17 ?_
          refine lv_iload_n hx hb dX3_tell_20 rfl (lv_at hl 3 rfl) ?_
          obtain ⟨hg_11, hf⟩ := bG_e hf
          refine aI G hw (sub_Law_word hZ h0) hg_11 (j := l3_8.toNatClampNeg) rfl dX3_tell_21 ?_
          refine lv_iload_n hx hb dX3_tell_22 rfl (lv_at hl 1 rfl) ?_
          obtain ⟨j79, ej, hf⟩ := bL_e hf
          have R79 : ∀ (S_12 : pS) (H : Heap) (locs : List Loc) (ls : Array Slot), Wd Z s S_12 H locs → lv_has ls 4 [(0, .ref (za Z k0)), (1, .int a1), (2, .ref (za Z k2)), (3, .int l3_8)] → j79 S_12 = some q_10 → W p l e { frames := 5, cells := 0, slots := 0, locals := 109 } s m args below meth c H locs 0 0 Q (F0 m 79 ls []) := by
            intro S_12 H locs ls hw hl hf
            have hf := (congrFun ej S_12).symm.trans hf
            obtain ⟨l3_13, el3_13, hf⟩ := bL_e hf
            refine lv_iinc (v := l3_13) (lv' := [(3, .int l3_13), (0, .ref (za Z k0)), (1, .int a1), (2, .ref (za Z k2))]) hx hb dX3_tell_79 hl (k := 3) rfl (by rw [el3_13]; rfl) (by decide) rfl (fun ls hl => ?_)
            refine lv_goto (tgt := 2) hx hb dX3_tell_82 (by decide) ?_
            obtain rfl := Option.some.inj hf
            exact ih _ hg _ _ _ _ _ hw (lv_sub hl [1, 2, 3, 0] rfl) hz
          clear ej
          refine lv_icmp_ne (tgt := 79) hx hb dX3_tell_23 (by decide) (fun c_22 => ?_) (fun c_22 => ?_)
          · have hf := (if_neg c_22).symm.trans hf
            exact R79 _ _ _ _ hw (lv_sub hl [0, 1, 2, 3] rfl) hf
          · have hf := (if_pos c_22).symm.trans hf
            refine lv_aload_n hx hb dX3_tell_26 rfl (lv_at hl 0 rfl) ?_
            refine gF G hw h0 KX3 4 (k2 := (k0 + 3)) rfl (by decide) rfl fl_X3_16 dX3_tell_27 ?_
            refine lv_iload_n hx hb dX3_tell_30 rfl (lv_at hl 3 rfl) ?_
            obtain ⟨hg_14, hf⟩ := bG_e hf
            refine aI G hw (sub_Law_when hZ h0) hg_14 (j := l3_8.toNatClampNeg) rfl dX3_tell_31 ?_
            refine lv_aload_n hx hb dX3_tell_32 rfl (lv_at hl 0 rfl) ?_
            refine gF G hw h0 KX3 5 (k2 := (k0 + 4)) rfl (by decide) rfl fl_X3_19 dX3_tell_33 ?_
            refine lv_iload_n hx hb dX3_tell_36 rfl (lv_at hl 3 rfl) ?_
            obtain ⟨hg_15, hf⟩ := bG_e hf
            refine aI G hw (sub_Law_to hZ h0) hg_15 (j := l3_8.toNatClampNeg) rfl dX3_tell_37 ?_
            refine lv_icmp_ge (tgt := 61) hx hb dX3_tell_38 (by decide) (fun c_21 => ?_) (fun c_21 => ?_)
            · have hf := (if_pos c_21).symm.trans hf
              obtain rfl := Option.some.inj hf
              obtain rfl := Option.some.inj (hz : some _ = some _)
              exact R61_2 _ _ _ _ _ hw (lv_sub hl [0, 2, 3] rfl) hg
            · have hf := (if_neg c_21).symm.trans hf
              refine lv_aload_n hx hb dX3_tell_41 rfl (lv_at hl 0 rfl) ?_
              refine lv_aload_n hx hb dX3_tell_42 rfl (lv_at hl 0 rfl) ?_
              refine gF G hw h0 KX3 4 (k2 := (k0 + 3)) rfl (by decide) rfl fl_X3_16 dX3_tell_43 ?_
              refine lv_iload_n hx hb dX3_tell_46 rfl (lv_at hl 3 rfl) ?_
              obtain ⟨hg_16, hf⟩ := bG_e hf
              refine aI G hw (sub_Law_when hZ h0) hg_16 (j := l3_8.toNatClampNeg) rfl dX3_tell_47 ?_
              refine lv_aload_n hx hb dX3_tell_48 rfl (lv_at hl 0 rfl) ?_
              refine gF G hw h0 KX3 5 (k2 := (k0 + 4)) rfl (by decide) rfl fl_X3_19 dX3_tell_49 ?_
              refine lv_iload_n hx hb dX3_tell_52 rfl (lv_at hl 3 rfl) ?_
              obtain ⟨hg_17, hf⟩ := bG_e hf
              refine aI G hw (sub_Law_to hZ h0) hg_17 (j := l3_8.toNatClampNeg) rfl dX3_tell_53 ?_
              refine lv_aload_n hx hb dX3_tell_54 rfl (lv_at hl 2 rfl) ?_
              obtain ⟨r_18, S_19, hr_18, hf⟩ := bB2_e hf
              refine kVi (rest := []) G hw (wX3_count hZ S_9 k0 (S_9 (k0 + 3) l3_8.toNatClampNeg) (S_9 (k0 + 4) l3_8.toNatClampNeg) k2 n2 r_18 S_19 h0 h2 hr_18) cw_X3_43 h0 KX3 ⟨Nat.le_of_ble_eq_true rfl, Nat.le_of_ble_eq_true rfl⟩ rfl hl.1 rfl (Nat.le_of_ble_eq_true rfl) ⟨Nat.le_refl _, Nat.le_refl _⟩ dX3_tell_55 (fun H locs hw => ?_)
              refine lv_if_eq (tgt := 79) hx hb dX3_tell_58 (by decide) (fun c_20 => ?_) (fun c_20 => ?_)
              · have hf := (if_pos c_20).symm.trans hf
                exact R79 _ _ _ _ hw (lv_sub hl [0, 1, 2, 3] rfl) hf
              · have hf := (if_neg c_20).symm.trans hf
                obtain rfl := Option.some.inj hf
                obtain rfl := Option.some.inj (hz : some _ = some _)
                exact R61_2 _ _ _ _ _ hw (lv_sub hl [0, 2, 3] rfl) hg
  clear eb
  obtain ⟨z, hz, hf⟩ := bB_e hf
  obtain ⟨n, hz⟩ := bP_e hz
  exact RL2 n z hf _ _ _ _ _ hw (lv_sub hl [1, 2, 3, 0] rfl) hz
noncomputable def F0_tell (S : pS) (k0 : Nat) (k1 : Nat) (a2 : Int32) : Option (Int32 × pS) :=
  bB2 (F3_tell S k1 a2 (k0 + 1) 8) fun r_1 S_2 =>
  some (F11_hold r_1 0 1000, S_2)
set_option maxRecDepth 100000 in
set_option maxHeartbeats 4000000 in
theorem wX0_tell {l : Launch} {Z : pZ}  (hZ : CC Z) (S : pS) (k0 : Nat) (k1 : Nat) (a2 : Int32) (r : Int32) (S2 : pS) (h0 : isA Z K_Arms k0) (h1 : isA Z K_Law k1) (hf : F0_tell S k0 k1 a2 = some (r, S2)) : CI l Z yX0_tell cX0_tell 3 .int 6 132 [.ref (za Z k0), .ref (za Z k1), .int a2] S r S2 := by
  unfold F0_tell at hf
  refine eI (own := RX0) (by decide) rfl (Nat.le_of_ble_eq_true rfl) (fun p e s m args below meth c Q ls G hl hw hret => ?_)
  obtain ⟨hx, hb, hml, hown, hts⟩ := G.1
  have hl : lv_has ls 3 [(0, .ref (za Z k0)), (1, .ref (za Z k1)), (2, .int a2)] := hl
  refine lv_aload_n hx hb dX0_tell_0 rfl (lv_at hl 1 rfl) ?_
  refine lv_iload_n hx hb dX0_tell_1 rfl (lv_at hl 2 rfl) ?_
  refine lv_aload_n hx hb dX0_tell_2 rfl (lv_at hl 0 rfl) ?_
  refine gF G hw h0 KX0 0 (k2 := (k0 + 1)) rfl (by decide) rfl fl_X0_7 dX0_tell_3 ?_
  obtain ⟨r_1, S_2, hr_1, hf⟩ := bB2_e hf
  refine kVi (rest := []) G hw (wX3_tell hZ S k1 a2 (k0 + 1) 8 r_1 S_2 h1 (sub_Arms_asked hZ h0) hr_1) cw_X0_40 h1 KX3 ⟨Nat.le_of_ble_eq_true rfl, Nat.le_of_ble_eq_true rfl⟩ rfl hl.1 rfl (Nat.le_of_ble_eq_true rfl) ⟨Nat.le_refl _, Nat.le_refl _⟩ dX0_tell_6 (fun H locs hw => ?_)
  refine lv_iconst hx hb dX0_tell_9 ki_0 ?_
  refine lv_sipush hx hb dX0_tell_10 ks_1000 ?_
  refine kNi (rest := []) G hw (wX11_hold hZ S_2 r_1 0 1000 (F11_hold r_1 0 1000) rfl) cw_X0_46 ⟨Nat.le_of_ble_eq_true rfl, Nat.le_of_ble_eq_true rfl⟩ rfl hl.1 rfl (Nat.le_of_ble_eq_true rfl) ⟨Nat.le_refl _, Nat.le_refl _⟩ dX0_tell_13 (fun H locs hw => ?_)
  obtain ⟨e1, e2⟩ := Prod.mk.inj (Option.some.inj hf)
  exact hret _ _ _ _ _ dX0_tell_16 e1 (by rw [← e2]; exact hw)
noncomputable def F2_sine (a0 : Int32) : Option (Int32) :=
  bL (a0 * (180 - a0)) fun l1_1 =>
  bL (fun (_ : Unit) =>
    some (0 : Int32)) fun j18 =>
  if a0 < 0 then
    j18 ()
  else
    if a0 ≤ 90 then
      bG (¬ (40500 - l1_1) = 0) <|
      some ((4000 * l1_1) / (40500 - l1_1))
    else
      j18 ()
set_option maxRecDepth 100000 in
set_option maxHeartbeats 4000000 in
theorem wX2_sine {l : Launch} {Z : pZ}  (hZ : CC Z) (S : pS) (a0 : Int32) (r : Int32)  (hf : F2_sine a0 = some r) : CI l Z yX2_sine cX2_sine 2 .int 3 60 [.int a0] S r S := by
  unfold F2_sine at hf
  refine eI (own := RX2) (by decide) rfl (Nat.le_of_ble_eq_true rfl) (fun p e s m args below meth c Q ls G hl hw hret => ?_)
  obtain ⟨hx, hb, hml, hown, hts⟩ := G.1
  have hl : lv_has ls 2 [(0, .int a0)] := hl
  refine lv_iload_n hx hb dX2_sine_0 rfl (lv_at hl 0 rfl) ?_
  refine lv_sipush hx hb dX2_sine_1 ks_180 ?_
  refine lv_iload_n hx hb dX2_sine_4 rfl (lv_at hl 0 rfl) ?_
  refine lv_isub hx hb dX2_sine_5 ?_
  refine lv_imul hx hb dX2_sine_6 ?_
  obtain ⟨l1_1, el1_1, hf⟩ := bL_e hf
  refine top_i el1_1 ?_
  refine lv_istore_n (lv' := [(1, .int l1_1), (0, .int a0)]) hx hb dX2_sine_7 rfl hl (by decide) rfl (fun ls hl => ?_)
  refine lv_iload_n hx hb dX2_sine_8 rfl (lv_at hl 1 rfl) ?_
  obtain ⟨j18, ej, hf⟩ := bL_e hf
  have R18 : ∀ (H : Heap) (locs : List Loc) (ls : Array Slot), Wd Z s S H locs → lv_has ls 2 [] → j18 () = some r → W p l e { frames := 3, cells := 0, slots := 0, locals := 60 } s m args below meth c H locs 0 0 Q (F0 m 18 ls []) := by
    intro  H locs ls hw hl hf
    have hf := (congrFun ej ()).symm.trans hf
    refine lv_iconst hx hb dX2_sine_18 ki_0 ?_
    refine lv_goto (tgt := 32) hx hb dX2_sine_19 (by decide) ?_
    exact hret _ _ _ _ _ dX2_sine_32 (Option.some.inj hf) hw
  clear ej
  refine lv_if_lt (tgt := 18) hx hb dX2_sine_9 (by decide) (fun c_3 => ?_) (fun c_3 => ?_)
  · have hf := (if_pos c_3).symm.trans hf
    exact R18 _ _ _ hw (lv_sub hl [] rfl) hf
  · have hf := (if_neg c_3).symm.trans hf
    refine lv_iload_n hx hb dX2_sine_12 rfl (lv_at hl 1 rfl) ?_
    refine lv_bipush hx hb dX2_sine_13 kb_90 ?_
    refine lv_icmp_le (tgt := 22) hx hb dX2_sine_15 (by decide) (fun c_2 => ?_) (fun c_2 => ?_)
    · have hf := (if_pos c_2).symm.trans hf
      refine lv_sipush hx hb dX2_sine_22 ks_4000 ?_
      refine lv_iload_n hx hb dX2_sine_25 rfl (lv_at hl 0 rfl) ?_
      refine lv_imul hx hb dX2_sine_26 ?_
      refine lv_ldc hx hb hown (hts _ cn_X2_44) dX2_sine_27 ?_
      refine lv_iload_n hx hb dX2_sine_29 rfl (lv_at hl 0 rfl) ?_
      refine lv_isub hx hb dX2_sine_30 ?_
      obtain ⟨hg1, hf⟩ := bG_e hf
      refine lv_idiv hx hb dX2_sine_31 hg1 ?_
      exact hret _ _ _ _ _ dX2_sine_32 (Option.some.inj hf) hw
    · have hf := (if_neg c_2).symm.trans hf
      exact R18 _ _ _ hw (lv_sub hl [] rfl) hf
noncomputable def F2_begin (S : pS) (k0 : Nat) (k1 : Nat) (a2 : Int32) (a3 : Int32) (a4 : Int32) (a5 : Int32) (a6 : Int32) (a7 : Int32) : Option (pS) :=
  bB (F2_sine (90 - a3)) fun r_1 =>
  bL (sU S (k0 + 1) 0 (((3 * a2) * r_1) / 1000)) fun S_2 =>
  bB (F2_sine a3) fun r_3 =>
  bL (sU S_2 (k0 + 1) 1 (((3 * a2) * r_3) / 1000)) fun S_4 =>
  bL (sU S_4 (k0 + 1) 2 180) fun S_5 =>
  bL (sU S_5 (k0 + 1) 3 (a3 + a4)) fun S_6 =>
  bL (sU S_6 (k0 + 1) 4 a6) fun S_7 =>
  bL (sU S_7 (k0 + 1) 5 a7) fun S_8 =>
  bL (fun (t_9 : Int32) =>
    bL (sU S_8 (k0 + 1) 6 t_9) fun S_10 =>
    bL (fun (t_11 : Int32) =>
      bL (sU S_10 (k0 + 1) 7 t_11) fun S_12 =>
      bL (sU S_12 (k0 + 1) 8 0) fun S_13 =>
      bL (sU S_13 k0 1 0) fun S_14 =>
      bL (sU S_14 k0 2 0) fun S_15 =>
      bL (sU S_15 k0 4 0) fun S_16 =>
      bL (sU S_16 k0 3 180) fun S_17 =>
      some S_17) fun j127 =>
    if (F10_hasSpear S_10 k1 a5) = 0 then
      j127 0
    else
      bG (vp_in a5 6) <|
      j127 (S_10 (k1 + 3) a5.toNatClampNeg)) fun j100 =>
  if (F10_hasSpear S_8 k1 a5) = 0 then
    j100 0
  else
    bG (vp_in a5 6) <|
    j100 (S_8 (k1 + 2) a5.toNatClampNeg)
set_option maxRecDepth 100000 in
set_option maxHeartbeats 4000000 in
theorem wX2_begin {l : Launch} {Z : pZ}  (hZ : CC Z) (S : pS) (k0 : Nat) (k1 : Nat) (a2 : Int32) (a3 : Int32) (a4 : Int32) (a5 : Int32) (a6 : Int32) (a7 : Int32) (S2 : pS) (h0 : isA Z K_Flight k0) (h1 : isA Z K_World k1) (hf : F2_begin S k0 k1 a2 a3 a4 a5 a6 a7 = some S2) : CV l Z yX2_begin cX2_begin 8 4 81 [.ref (za Z k0), .ref (za Z k1), .int a2, .int a3, .int a4, .int a5, .int a6, .int a7] S S2 := by
  unfold F2_begin at hf
  refine eV (own := RX2) (by decide) rfl (Nat.le_of_ble_eq_true rfl) (fun p e s m args below meth c Q ls G hl hw hret => ?_)
  obtain ⟨hx, hb, hml, hown, hts⟩ := G.1
  have hl : lv_has ls 8 [(0, .ref (za Z k0)), (1, .ref (za Z k1)), (2, .int a2), (3, .int a3), (4, .int a4), (5, .int a5), (6, .int a6), (7, .int a7)] := hl
  refine lv_aload_n hx hb dX2_begin_0 rfl (lv_at hl 0 rfl) ?_
  refine gF G hw h0 KX2 0 (k2 := (k0 + 1)) rfl (by decide) rfl fl_X2_9 dX2_begin_1 ?_
  refine lv_iconst hx hb dX2_begin_4 ki_0 ?_
  refine lv_iconst hx hb dX2_begin_5 ki_3 ?_
  refine lv_iload_n hx hb dX2_begin_6 rfl (lv_at hl 2 rfl) ?_
  refine lv_imul hx hb dX2_begin_7 ?_
  refine lv_bipush hx hb dX2_begin_8 kb_90 ?_
  refine lv_iload_n hx hb dX2_begin_10 rfl (lv_at hl 3 rfl) ?_
  refine lv_isub hx hb dX2_begin_11 ?_
  obtain ⟨r_1, hr_1, hf⟩ := bB_e hf
  refine kSi (rest := [.int (3 * a2), .int 0, .ref (za Z (k0 + 1))]) G hw (wX2_sine hZ S (90 - a3) r_1 hr_1) cw_X2_15 ⟨Nat.le_of_ble_eq_true rfl, Nat.le_of_ble_eq_true rfl⟩ rfl hl.1 rfl (Nat.le_of_ble_eq_true rfl) ⟨Nat.le_refl _, Nat.le_refl _⟩ dX2_begin_12 (fun H locs hw => ?_)
  refine lv_imul hx hb dX2_begin_15 ?_
  refine lv_sipush hx hb dX2_begin_16 ks_1000 ?_
  refine lv_idiv hx hb dX2_begin_19 (by decide) ?_
  obtain ⟨S_2, eS_2, hf⟩ := bL_e hf
  refine sI G hw (sub_Flight_is hZ h0) (vin_e (by decide)) (j := 0) (by decide) eS_2 dX2_begin_20 (fun H locs hw => ?_)
  refine lv_aload_n hx hb dX2_begin_21 rfl (lv_at hl 0 rfl) ?_
  refine gF G hw h0 KX2 0 (k2 := (k0 + 1)) rfl (by decide) rfl fl_X2_9 dX2_begin_22 ?_
  refine lv_iconst hx hb dX2_begin_25 ki_1 ?_
  refine lv_iconst hx hb dX2_begin_26 ki_3 ?_
  refine lv_iload_n hx hb dX2_begin_27 rfl (lv_at hl 2 rfl) ?_
  refine lv_imul hx hb dX2_begin_28 ?_
  refine lv_iload_n hx hb dX2_begin_29 rfl (lv_at hl 3 rfl) ?_
  obtain ⟨r_3, hr_3, hf⟩ := bB_e hf
  refine kSi (rest := [.int (3 * a2), .int 1, .ref (za Z (k0 + 1))]) G hw (wX2_sine hZ S_2 a3 r_3 hr_3) cw_X2_15 ⟨Nat.le_of_ble_eq_true rfl, Nat.le_of_ble_eq_true rfl⟩ rfl hl.1 rfl (Nat.le_of_ble_eq_true rfl) ⟨Nat.le_refl _, Nat.le_refl _⟩ dX2_begin_30 (fun H locs hw => ?_)
  refine lv_imul hx hb dX2_begin_33 ?_
  refine lv_sipush hx hb dX2_begin_34 ks_1000 ?_
  refine lv_idiv hx hb dX2_begin_37 (by decide) ?_
  obtain ⟨S_4, eS_4, hf⟩ := bL_e hf
  refine sI G hw (sub_Flight_is hZ h0) (vin_e (by decide)) (j := 1) (by decide) eS_4 dX2_begin_38 (fun H locs hw => ?_)
  refine lv_aload_n hx hb dX2_begin_39 rfl (lv_at hl 0 rfl) ?_
  refine gF G hw h0 KX2 0 (k2 := (k0 + 1)) rfl (by decide) rfl fl_X2_9 dX2_begin_40 ?_
  refine lv_iconst hx hb dX2_begin_43 ki_2 ?_
  refine lv_sipush hx hb dX2_begin_44 ks_180 ?_
  obtain ⟨S_5, eS_5, hf⟩ := bL_e hf
  refine sI G hw (sub_Flight_is hZ h0) (vin_e (by decide)) (j := 2) (by decide) eS_5 dX2_begin_47 (fun H locs hw => ?_)
  refine lv_aload_n hx hb dX2_begin_48 rfl (lv_at hl 0 rfl) ?_
  refine gF G hw h0 KX2 0 (k2 := (k0 + 1)) rfl (by decide) rfl fl_X2_9 dX2_begin_49 ?_
  refine lv_iconst hx hb dX2_begin_52 ki_3 ?_
  refine lv_iload_n hx hb dX2_begin_53 rfl (lv_at hl 3 rfl) ?_
  refine lv_iload hx hb dX2_begin_54 (lv_at hl 4 rfl) ?_
  refine lv_iadd hx hb dX2_begin_56 ?_
  obtain ⟨S_6, eS_6, hf⟩ := bL_e hf
  refine sI G hw (sub_Flight_is hZ h0) (vin_e (by decide)) (j := 3) (by decide) eS_6 dX2_begin_57 (fun H locs hw => ?_)
  refine lv_aload_n hx hb dX2_begin_58 rfl (lv_at hl 0 rfl) ?_
  refine gF G hw h0 KX2 0 (k2 := (k0 + 1)) rfl (by decide) rfl fl_X2_9 dX2_begin_59 ?_
  refine lv_iconst hx hb dX2_begin_62 ki_4 ?_
  refine lv_iload hx hb dX2_begin_63 (lv_at hl 6 rfl) ?_
  obtain ⟨S_7, eS_7, hf⟩ := bL_e hf
  refine sI G hw (sub_Flight_is hZ h0) (vin_e (by decide)) (j := 4) (by decide) eS_7 dX2_begin_65 (fun H locs hw => ?_)
  refine lv_aload_n hx hb dX2_begin_66 rfl (lv_at hl 0 rfl) ?_
  refine gF G hw h0 KX2 0 (k2 := (k0 + 1)) rfl (by decide) rfl fl_X2_9 dX2_begin_67 ?_
  refine lv_iconst hx hb dX2_begin_70 ki_5 ?_
  refine lv_iload hx hb dX2_begin_71 (lv_at hl 7 rfl) ?_
  obtain ⟨S_8, eS_8, hf⟩ := bL_e hf
  refine sI G hw (sub_Flight_is hZ h0) (vin_e (by decide)) (j := 5) (by decide) eS_8 dX2_begin_73 (fun H locs hw => ?_)
  refine lv_aload_n hx hb dX2_begin_74 rfl (lv_at hl 0 rfl) ?_
  refine gF G hw h0 KX2 0 (k2 := (k0 + 1)) rfl (by decide) rfl fl_X2_9 dX2_begin_75 ?_
  refine lv_bipush hx hb dX2_begin_78 kb_6 ?_
  refine lv_aload_n hx hb dX2_begin_80 rfl (lv_at hl 1 rfl) ?_
  refine lv_iload hx hb dX2_begin_81 (lv_at hl 5 rfl) ?_
  refine kVi (rest := [.int 6, .ref (za Z (k0 + 1))]) G hw (wX10_hasSpear hZ S_8 k1 a5 (F10_hasSpear S_8 k1 a5) h1 rfl) cw_X2_19 h1 KX10 ⟨Nat.le_of_ble_eq_true rfl, Nat.le_of_ble_eq_true rfl⟩ rfl hl.1 rfl (Nat.le_of_ble_eq_true rfl) ⟨Nat.le_refl _, Nat.le_refl _⟩ dX2_begin_83 (fun H locs hw => ?_)
  obtain ⟨j100, ej, hf⟩ := bL_e hf
  have R100 : ∀ (t_9 : Int32) (H : Heap) (locs : List Loc) (ls : Array Slot), Wd Z s S_8 H locs → lv_has ls 8 [(0, .ref (za Z k0)), (1, .ref (za Z k1)), (5, .int a5)] → j100 t_9 = some S2 → W p l e { frames := 4, cells := 0, slots := 0, locals := 81 } s m args below meth c H locs 0 0 Q (F0 m 100 ls [.int t_9, .int 6, .ref (za Z (k0 + 1))]) := by
    intro t_9 H locs ls hw hl hf
    have hf := (congrFun ej t_9).symm.trans hf
    obtain ⟨S_10, eS_10, hf⟩ := bL_e hf
    refine sI G hw (sub_Flight_is hZ h0) (vin_e (by decide)) (j := 6) (by decide) eS_10 dX2_begin_100 (fun H locs hw => ?_)
    refine lv_aload_n hx hb dX2_begin_101 rfl (lv_at hl 0 rfl) ?_
    refine gF G hw h0 KX2 0 (k2 := (k0 + 1)) rfl (by decide) rfl fl_X2_9 dX2_begin_102 ?_
    refine lv_bipush hx hb dX2_begin_105 kb_7 ?_
    refine lv_aload_n hx hb dX2_begin_107 rfl (lv_at hl 1 rfl) ?_
    refine lv_iload hx hb dX2_begin_108 (lv_at hl 2 rfl) ?_
    refine kVi (rest := [.int 7, .ref (za Z (k0 + 1))]) G hw (wX10_hasSpear hZ S_10 k1 a5 (F10_hasSpear S_10 k1 a5) h1 rfl) cw_X2_19 h1 KX10 ⟨Nat.le_of_ble_eq_true rfl, Nat.le_of_ble_eq_true rfl⟩ rfl hl.1 rfl (Nat.le_of_ble_eq_true rfl) ⟨Nat.le_refl _, Nat.le_refl _⟩ dX2_begin_110 (fun H locs hw => ?_)
    obtain ⟨j127, ej, hf⟩ := bL_e hf
    have R127 : ∀ (t_11 : Int32) (H : Heap) (locs : List Loc) (ls : Array Slot), Wd Z s S_10 H locs → lv_has ls 8 [(0, .ref (za Z k0))] → j127 t_11 = some S2 → W p l e { frames := 4, cells := 0, slots := 0, locals := 81 } s m args below meth c H locs 0 0 Q (F0 m 127 ls [.int t_11, .int 7, .ref (za Z (k0 + 1))]) := by
      intro t_11 H locs ls hw hl hf
      have hf := (congrFun ej t_11).symm.trans hf
      obtain ⟨S_12, eS_12, hf⟩ := bL_e hf
      refine sI G hw (sub_Flight_is hZ h0) (vin_e (by decide)) (j := 7) (by decide) eS_12 dX2_begin_127 (fun H locs hw => ?_)
      refine lv_aload_n hx hb dX2_begin_128 rfl (lv_at hl 0 rfl) ?_
      refine gF G hw h0 KX2 0 (k2 := (k0 + 1)) rfl (by decide) rfl fl_X2_9 dX2_begin_129 ?_
      refine lv_bipush hx hb dX2_begin_132 kb_8 ?_
      refine lv_iconst hx hb dX2_begin_134 ki_0 ?_
      obtain ⟨S_13, eS_13, hf⟩ := bL_e hf
      refine sI G hw (sub_Flight_is hZ h0) (vin_e (by decide)) (j := 8) (by decide) eS_13 dX2_begin_135 (fun H locs hw => ?_)
      refine lv_aload_n hx hb dX2_begin_136 rfl (lv_at hl 0 rfl) ?_
      refine lv_iconst hx hb dX2_begin_137 ki_0 ?_
      obtain ⟨S_14, eS_14, hf⟩ := bL_e hf
      refine pI G hw h0 KX2 1 (by decide) rfl rfl rfl eS_14 fl_X2_31 dX2_begin_138 (fun H locs hw => ?_)
      refine lv_aload_n hx hb dX2_begin_141 rfl (lv_at hl 0 rfl) ?_
      refine lv_iconst hx hb dX2_begin_142 ki_0 ?_
      obtain ⟨S_15, eS_15, hf⟩ := bL_e hf
      refine pI G hw h0 KX2 2 (by decide) rfl rfl rfl eS_15 fl_X2_35 dX2_begin_143 (fun H locs hw => ?_)
      refine lv_aload_n hx hb dX2_begin_146 rfl (lv_at hl 0 rfl) ?_
      refine lv_iconst hx hb dX2_begin_147 ki_0 ?_
      obtain ⟨S_16, eS_16, hf⟩ := bL_e hf
      refine pI G hw h0 KX2 4 (by decide) rfl rfl rfl eS_16 fl_X2_38 dX2_begin_148 (fun H locs hw => ?_)
      refine lv_aload_n hx hb dX2_begin_151 rfl (lv_at hl 0 rfl) ?_
      refine lv_sipush hx hb dX2_begin_152 ks_180 ?_
      obtain ⟨S_17, eS_17, hf⟩ := bL_e hf
      refine pI G hw h0 KX2 3 (by decide) rfl rfl rfl eS_17 fl_X2_41 dX2_begin_155 (fun H locs hw => ?_)
      exact hret _ _ _ _ dX2_begin_158 (by rw [← (Option.some.inj hf)]; exact hw)
    clear ej
    refine lv_if_eq (tgt := 126) hx hb dX2_begin_113 (by decide) (fun c_19 => ?_) (fun c_19 => ?_)
    · have hf := (if_pos c_19).symm.trans hf
      refine lv_iconst hx hb dX2_begin_126 ki_0 ?_
      exact R127 _ _ _ _ hw (lv_sub hl [0] rfl) hf
    · have hf := (if_neg c_19).symm.trans hf
      refine lv_aload_n hx hb dX2_begin_116 rfl (lv_at hl 1 rfl) ?_
      refine gF G hw h1 KX10 10 (k2 := (k1 + 3)) rfl (by decide) rfl fl_X2_28 dX2_begin_117 ?_
      refine lv_iload hx hb dX2_begin_120 (lv_at hl 2 rfl) ?_
      obtain ⟨hg_18, hf⟩ := bG_e hf
      refine aI G hw (sub_World_tip hZ h1) hg_18 (j := a5.toNatClampNeg) rfl dX2_begin_122 ?_
      refine lv_goto (tgt := 127) hx hb dX2_begin_123 (by decide) ?_
      exact R127 _ _ _ _ hw (lv_sub hl [0] rfl) hf
  clear ej
  refine lv_if_eq (tgt := 99) hx hb dX2_begin_86 (by decide) (fun c_21 => ?_) (fun c_21 => ?_)
  · have hf := (if_pos c_21).symm.trans hf
    refine lv_iconst hx hb dX2_begin_99 ki_0 ?_
    exact R100 _ _ _ _ hw (lv_sub hl [0, 1, 5] rfl) hf
  · have hf := (if_neg c_21).symm.trans hf
    refine lv_aload_n hx hb dX2_begin_89 rfl (lv_at hl 1 rfl) ?_
    refine gF G hw h1 KX10 9 (k2 := (k1 + 2)) rfl (by decide) rfl fl_X2_25 dX2_begin_90 ?_
    refine lv_iload hx hb dX2_begin_93 (lv_at hl 5 rfl) ?_
    obtain ⟨hg_20, hf⟩ := bG_e hf
    refine aI G hw (sub_World_soft hZ h1) hg_20 (j := a5.toNatClampNeg) rfl dX2_begin_95 ?_
    refine lv_goto (tgt := 100) hx hb dX2_begin_96 (by decide) ?_
    exact R100 _ _ _ _ hw (lv_sub hl [0, 1, 5] rfl) hf
noncomputable def F2_tick (S : pS) (k0 : Nat) (k1 : Nat) : Option (pS) :=
  bB2 (F3_tell S k1 0 (k0 + 1) 9) fun r_1 S_2 =>
  bL (F11_hold r_1 (-20) 20) fun l2_3 =>
  bB2 (F3_tell S_2 k1 1 (k0 + 1) 9) fun r_4 S_5 =>
  bL (F11_hold r_4 0 50) fun l3_6 =>
  bB2 (F3_tell S_5 k1 2 (k0 + 1) 9) fun r_7 S_8 =>
  bL (F11_hold r_7 (-9) 9) fun l4_9 =>
  bB2 (F3_tell S_8 k1 3 (k0 + 1) 9) fun r_10 S_11 =>
  bL (F11_hold r_10 (-9) 9) fun l5_12 =>
  bL (sU S_11 (k0 + 1) 1 ((S_11 (k0 + 1) 1) + (l2_3 - 10))) fun S_13 =>
  bL (sU S_13 (k0 + 1) 0 (jmax 0 ((S_13 (k0 + 1) 0) - l3_6))) fun S_14 =>
  bL (sU S_14 (k0 + 1) 3 ((S_14 (k0 + 1) 3) - l4_9)) fun S_15 =>
  bL (sU S_15 k0 4 ((S_15 k0 4) + l5_12)) fun S_16 =>
  bL (sU S_16 k0 1 ((S_16 k0 1) + (S_16 (k0 + 1) 0))) fun S_17 =>
  bL (sU S_17 (k0 + 1) 2 ((S_17 (k0 + 1) 2) + (S_17 (k0 + 1) 1))) fun S_18 =>
  bL (sU S_18 k0 2 ((S_18 k0 2) + (S_18 k0 4))) fun S_19 =>
  bL (sU S_19 k0 3 (jmax (S_19 k0 3) (S_19 (k0 + 1) 2))) fun S_20 =>
  bL (sU S_20 (k0 + 1) 8 ((S_20 (k0 + 1) 8) + 1)) fun S_21 =>
  some S_21
set_option maxRecDepth 100000 in
set_option maxHeartbeats 4000000 in
theorem wX2_tick {l : Launch} {Z : pZ}  (hZ : CC Z) (S : pS) (k0 : Nat) (k1 : Nat) (S2 : pS) (h0 : isA Z K_Flight k0) (h1 : isA Z K_Law k1) (hf : F2_tick S k0 k1 = some S2) : CV l Z yX2_tick cX2_tick 6 6 132 [.ref (za Z k0), .ref (za Z k1)] S S2 := by
  unfold F2_tick at hf
  refine eV (own := RX2) (by decide) rfl (Nat.le_of_ble_eq_true rfl) (fun p e s m args below meth c Q ls G hl hw hret => ?_)
  obtain ⟨hx, hb, hml, hown, hts⟩ := G.1
  have hl : lv_has ls 6 [(0, .ref (za Z k0)), (1, .ref (za Z k1))] := hl
  refine lv_aload_n hx hb dX2_tick_0 rfl (lv_at hl 1 rfl) ?_
  refine lv_iconst hx hb dX2_tick_1 ki_0 ?_
  refine lv_aload_n hx hb dX2_tick_2 rfl (lv_at hl 0 rfl) ?_
  refine gF G hw h0 KX2 0 (k2 := (k0 + 1)) rfl (by decide) rfl fl_X2_9 dX2_tick_3 ?_
  obtain ⟨r_1, S_2, hr_1, hf⟩ := bB2_e hf
  refine kVi (rest := []) G hw (wX3_tell hZ S k1 0 (k0 + 1) 9 r_1 S_2 h1 (sub_Flight_is hZ h0) hr_1) cw_X2_49 h1 KX3 ⟨Nat.le_of_ble_eq_true rfl, Nat.le_of_ble_eq_true rfl⟩ rfl hl.1 rfl (Nat.le_of_ble_eq_true rfl) ⟨Nat.le_refl _, Nat.le_refl _⟩ dX2_tick_6 (fun H locs hw => ?_)
  refine lv_bipush hx hb dX2_tick_9 kb_m20 ?_
  refine lv_bipush hx hb dX2_tick_11 kb_20 ?_
  refine kNi (rest := []) G hw (wX11_hold hZ S_2 r_1 (-20) 20 (F11_hold r_1 (-20) 20) rfl) cw_X2_55 ⟨Nat.le_of_ble_eq_true rfl, Nat.le_of_ble_eq_true rfl⟩ rfl hl.1 rfl (Nat.le_of_ble_eq_true rfl) ⟨Nat.le_refl _, Nat.le_refl _⟩ dX2_tick_13 (fun H locs hw => ?_)
  obtain ⟨l2_3, el2_3, hf⟩ := bL_e hf
  refine top_i el2_3 ?_
  refine lv_istore_n (lv' := [(2, .int l2_3), (0, .ref (za Z k0)), (1, .ref (za Z k1))]) hx hb dX2_tick_16 rfl hl (by decide) rfl (fun ls hl => ?_)
  refine lv_aload_n hx hb dX2_tick_17 rfl (lv_at hl 2 rfl) ?_
  refine lv_iconst hx hb dX2_tick_18 ki_1 ?_
  refine lv_aload_n hx hb dX2_tick_19 rfl (lv_at hl 1 rfl) ?_
  refine gF G hw h0 KX2 0 (k2 := (k0 + 1)) rfl (by decide) rfl fl_X2_9 dX2_tick_20 ?_
  obtain ⟨r_4, S_5, hr_4, hf⟩ := bB2_e hf
  refine kVi (rest := []) G hw (wX3_tell hZ S_2 k1 1 (k0 + 1) 9 r_4 S_5 h1 (sub_Flight_is hZ h0) hr_4) cw_X2_49 h1 KX3 ⟨Nat.le_of_ble_eq_true rfl, Nat.le_of_ble_eq_true rfl⟩ rfl hl.1 rfl (Nat.le_of_ble_eq_true rfl) ⟨Nat.le_refl _, Nat.le_refl _⟩ dX2_tick_23 (fun H locs hw => ?_)
  refine lv_iconst hx hb dX2_tick_26 ki_0 ?_
  refine lv_bipush hx hb dX2_tick_27 kb_50 ?_
  refine kNi (rest := []) G hw (wX11_hold hZ S_5 r_4 0 50 (F11_hold r_4 0 50) rfl) cw_X2_55 ⟨Nat.le_of_ble_eq_true rfl, Nat.le_of_ble_eq_true rfl⟩ rfl hl.1 rfl (Nat.le_of_ble_eq_true rfl) ⟨Nat.le_refl _, Nat.le_refl _⟩ dX2_tick_29 (fun H locs hw => ?_)
  obtain ⟨l3_6, el3_6, hf⟩ := bL_e hf
  refine top_i el3_6 ?_
  refine lv_istore_n (lv' := [(3, .int l3_6), (2, .int l2_3), (0, .ref (za Z k0)), (1, .ref (za Z k1))]) hx hb dX2_tick_32 rfl hl (by decide) rfl (fun ls hl => ?_)
  refine lv_aload_n hx hb dX2_tick_33 rfl (lv_at hl 3 rfl) ?_
  refine lv_iconst hx hb dX2_tick_34 ki_2 ?_
  refine lv_aload_n hx hb dX2_tick_35 rfl (lv_at hl 2 rfl) ?_
  refine gF G hw h0 KX2 0 (k2 := (k0 + 1)) rfl (by decide) rfl fl_X2_9 dX2_tick_36 ?_
  obtain ⟨r_7, S_8, hr_7, hf⟩ := bB2_e hf
  refine kVi (rest := []) G hw (wX3_tell hZ S_5 k1 2 (k0 + 1) 9 r_7 S_8 h1 (sub_Flight_is hZ h0) hr_7) cw_X2_49 h1 KX3 ⟨Nat.le_of_ble_eq_true rfl, Nat.le_of_ble_eq_true rfl⟩ rfl hl.1 rfl (Nat.le_of_ble_eq_true rfl) ⟨Nat.le_refl _, Nat.le_refl _⟩ dX2_tick_39 (fun H locs hw => ?_)
  refine lv_bipush hx hb dX2_tick_42 kb_m9 ?_
  refine lv_bipush hx hb dX2_tick_44 kb_9 ?_
  refine kNi (rest := []) G hw (wX11_hold hZ S_8 r_7 (-9) 9 (F11_hold r_7 (-9) 9) rfl) cw_X2_55 ⟨Nat.le_of_ble_eq_true rfl, Nat.le_of_ble_eq_true rfl⟩ rfl hl.1 rfl (Nat.le_of_ble_eq_true rfl) ⟨Nat.le_refl _, Nat.le_refl _⟩ dX2_tick_46 (fun H locs hw => ?_)
  obtain ⟨l4_9, el4_9, hf⟩ := bL_e hf
  refine top_i el4_9 ?_
  refine lv_istore (lv' := [(4, .int l4_9), (3, .int l3_6), (2, .int l2_3), (0, .ref (za Z k0)), (1, .ref (za Z k1))]) hx hb dX2_tick_49 hl (by decide) rfl (fun ls hl => ?_)
  refine lv_aload_n hx hb dX2_tick_51 rfl (lv_at hl 4 rfl) ?_
  refine lv_iconst hx hb dX2_tick_52 ki_3 ?_
  refine lv_aload_n hx hb dX2_tick_53 rfl (lv_at hl 3 rfl) ?_
  refine gF G hw h0 KX2 0 (k2 := (k0 + 1)) rfl (by decide) rfl fl_X2_9 dX2_tick_54 ?_
  obtain ⟨r_10, S_11, hr_10, hf⟩ := bB2_e hf
  refine kVi (rest := []) G hw (wX3_tell hZ S_8 k1 3 (k0 + 1) 9 r_10 S_11 h1 (sub_Flight_is hZ h0) hr_10) cw_X2_49 h1 KX3 ⟨Nat.le_of_ble_eq_true rfl, Nat.le_of_ble_eq_true rfl⟩ rfl hl.1 rfl (Nat.le_of_ble_eq_true rfl) ⟨Nat.le_refl _, Nat.le_refl _⟩ dX2_tick_57 (fun H locs hw => ?_)
  refine lv_bipush hx hb dX2_tick_60 kb_m9 ?_
  refine lv_bipush hx hb dX2_tick_62 kb_9 ?_
  refine kNi (rest := []) G hw (wX11_hold hZ S_11 r_10 (-9) 9 (F11_hold r_10 (-9) 9) rfl) cw_X2_55 ⟨Nat.le_of_ble_eq_true rfl, Nat.le_of_ble_eq_true rfl⟩ rfl hl.1 rfl (Nat.le_of_ble_eq_true rfl) ⟨Nat.le_refl _, Nat.le_refl _⟩ dX2_tick_64 (fun H locs hw => ?_)
  obtain ⟨l5_12, el5_12, hf⟩ := bL_e hf
  refine top_i el5_12 ?_
  refine lv_istore (lv' := [(5, .int l5_12), (4, .int l4_9), (3, .int l3_6), (2, .int l2_3), (0, .ref (za Z k0)), (1, .ref (za Z k1))]) hx hb dX2_tick_67 hl (by decide) rfl (fun ls hl => ?_)
  refine lv_aload_n hx hb dX2_tick_69 rfl (lv_at hl 4 rfl) ?_
  refine gF G hw h0 KX2 0 (k2 := (k0 + 1)) rfl (by decide) rfl fl_X2_9 dX2_tick_70 ?_
  refine lv_iconst hx hb dX2_tick_73 ki_1 ?_
  refine lv_dup2_11 hx hb dX2_tick_74 rfl rfl ?_
  refine aI G hw (sub_Flight_is hZ h0) (vin_e (by decide)) (j := 1) (by decide) dX2_tick_75 ?_
  refine lv_iload_n hx hb dX2_tick_76 rfl (lv_at hl 3 rfl) ?_
  refine lv_bipush hx hb dX2_tick_77 kb_10 ?_
  refine lv_isub hx hb dX2_tick_79 ?_
  refine lv_iadd hx hb dX2_tick_80 ?_
  obtain ⟨S_13, eS_13, hf⟩ := bL_e hf
  refine sI G hw (sub_Flight_is hZ h0) (vin_e (by decide)) (j := 1) (by decide) eS_13 dX2_tick_81 (fun H locs hw => ?_)
  refine lv_aload_n hx hb dX2_tick_82 rfl (lv_at hl 4 rfl) ?_
  refine gF G hw h0 KX2 0 (k2 := (k0 + 1)) rfl (by decide) rfl fl_X2_9 dX2_tick_83 ?_
  refine lv_iconst hx hb dX2_tick_86 ki_0 ?_
  refine lv_iconst hx hb dX2_tick_87 ki_0 ?_
  refine lv_aload_n hx hb dX2_tick_88 rfl (lv_at hl 4 rfl) ?_
  refine gF G hw h0 KX2 0 (k2 := (k0 + 1)) rfl (by decide) rfl fl_X2_9 dX2_tick_89 ?_
  refine lv_iconst hx hb dX2_tick_92 ki_0 ?_
  refine aI G hw (sub_Flight_is hZ h0) (vin_e (by decide)) (j := 0) (by decide) dX2_tick_93 ?_
  refine lv_iload_n hx hb dX2_tick_94 rfl (lv_at hl 2 rfl) ?_
  refine lv_isub hx hb dX2_tick_95 ?_
  refine xmax G hl.1 ml_X2_59 (Nat.le_of_ble_eq_true rfl) (Nat.le_of_ble_eq_true rfl) ⟨Nat.le_refl _, Nat.le_refl _⟩ dX2_tick_96 ?_
  obtain ⟨S_14, eS_14, hf⟩ := bL_e hf
  refine sI G hw (sub_Flight_is hZ h0) (vin_e (by decide)) (j := 0) (by decide) eS_14 dX2_tick_99 (fun H locs hw => ?_)
  refine lv_aload_n hx hb dX2_tick_100 rfl (lv_at hl 4 rfl) ?_
  refine gF G hw h0 KX2 0 (k2 := (k0 + 1)) rfl (by decide) rfl fl_X2_9 dX2_tick_101 ?_
  refine lv_iconst hx hb dX2_tick_104 ki_3 ?_
  refine lv_dup2_11 hx hb dX2_tick_105 rfl rfl ?_
  refine aI G hw (sub_Flight_is hZ h0) (vin_e (by decide)) (j := 3) (by decide) dX2_tick_106 ?_
  refine lv_iload hx hb dX2_tick_107 (lv_at hl 1 rfl) ?_
  refine lv_isub hx hb dX2_tick_109 ?_
  obtain ⟨S_15, eS_15, hf⟩ := bL_e hf
  refine sI G hw (sub_Flight_is hZ h0) (vin_e (by decide)) (j := 3) (by decide) eS_15 dX2_tick_110 (fun H locs hw => ?_)
  refine lv_aload_n hx hb dX2_tick_111 rfl (lv_at hl 4 rfl) ?_
  refine lv_dup hx hb dX2_tick_112 rfl ?_
  refine gI G hw h0 KX2 4 (by decide) rfl fl_X2_38 dX2_tick_113 ?_
  refine lv_iload hx hb dX2_tick_116 (lv_at hl 0 rfl) ?_
  refine lv_iadd hx hb dX2_tick_118 ?_
  obtain ⟨S_16, eS_16, hf⟩ := bL_e hf
  refine pI G hw h0 KX2 4 (by decide) rfl rfl rfl eS_16 fl_X2_38 dX2_tick_119 (fun H locs hw => ?_)
  refine lv_aload_n hx hb dX2_tick_122 rfl (lv_at hl 4 rfl) ?_
  refine lv_dup hx hb dX2_tick_123 rfl ?_
  refine gI G hw h0 KX2 1 (by decide) rfl fl_X2_31 dX2_tick_124 ?_
  refine lv_aload_n hx hb dX2_tick_127 rfl (lv_at hl 4 rfl) ?_
  refine gF G hw h0 KX2 0 (k2 := (k0 + 1)) rfl (by decide) rfl fl_X2_9 dX2_tick_128 ?_
  refine lv_iconst hx hb dX2_tick_131 ki_0 ?_
  refine aI G hw (sub_Flight_is hZ h0) (vin_e (by decide)) (j := 0) (by decide) dX2_tick_132 ?_
  refine lv_iadd hx hb dX2_tick_133 ?_
  obtain ⟨S_17, eS_17, hf⟩ := bL_e hf
  refine pI G hw h0 KX2 1 (by decide) rfl rfl rfl eS_17 fl_X2_31 dX2_tick_134 (fun H locs hw => ?_)
  refine lv_aload_n hx hb dX2_tick_137 rfl (lv_at hl 4 rfl) ?_
  refine gF G hw h0 KX2 0 (k2 := (k0 + 1)) rfl (by decide) rfl fl_X2_9 dX2_tick_138 ?_
  refine lv_iconst hx hb dX2_tick_141 ki_2 ?_
  refine lv_dup2_11 hx hb dX2_tick_142 rfl rfl ?_
  refine aI G hw (sub_Flight_is hZ h0) (vin_e (by decide)) (j := 2) (by decide) dX2_tick_143 ?_
  refine lv_aload_n hx hb dX2_tick_144 rfl (lv_at hl 4 rfl) ?_
  refine gF G hw h0 KX2 0 (k2 := (k0 + 1)) rfl (by decide) rfl fl_X2_9 dX2_tick_145 ?_
  refine lv_iconst hx hb dX2_tick_148 ki_1 ?_
  refine aI G hw (sub_Flight_is hZ h0) (vin_e (by decide)) (j := 1) (by decide) dX2_tick_149 ?_
  refine lv_iadd hx hb dX2_tick_150 ?_
  obtain ⟨S_18, eS_18, hf⟩ := bL_e hf
  refine sI G hw (sub_Flight_is hZ h0) (vin_e (by decide)) (j := 2) (by decide) eS_18 dX2_tick_151 (fun H locs hw => ?_)
  refine lv_aload_n hx hb dX2_tick_152 rfl (lv_at hl 4 rfl) ?_
  refine lv_dup hx hb dX2_tick_153 rfl ?_
  refine gI G hw h0 KX2 2 (by decide) rfl fl_X2_35 dX2_tick_154 ?_
  refine lv_aload_n hx hb dX2_tick_157 rfl (lv_at hl 4 rfl) ?_
  refine gI G hw h0 KX2 4 (by decide) rfl fl_X2_38 dX2_tick_158 ?_
  refine lv_iadd hx hb dX2_tick_161 ?_
  obtain ⟨S_19, eS_19, hf⟩ := bL_e hf
  refine pI G hw h0 KX2 2 (by decide) rfl rfl rfl eS_19 fl_X2_35 dX2_tick_162 (fun H locs hw => ?_)
  refine lv_aload_n hx hb dX2_tick_165 rfl (lv_at hl 4 rfl) ?_
  refine lv_aload_n hx hb dX2_tick_166 rfl (lv_at hl 4 rfl) ?_
  refine gI G hw h0 KX2 3 (by decide) rfl fl_X2_41 dX2_tick_167 ?_
  refine lv_aload_n hx hb dX2_tick_170 rfl (lv_at hl 4 rfl) ?_
  refine gF G hw h0 KX2 0 (k2 := (k0 + 1)) rfl (by decide) rfl fl_X2_9 dX2_tick_171 ?_
  refine lv_iconst hx hb dX2_tick_174 ki_2 ?_
  refine aI G hw (sub_Flight_is hZ h0) (vin_e (by decide)) (j := 2) (by decide) dX2_tick_175 ?_
  refine xmax G hl.1 ml_X2_59 (Nat.le_of_ble_eq_true rfl) (Nat.le_of_ble_eq_true rfl) ⟨Nat.le_refl _, Nat.le_refl _⟩ dX2_tick_176 ?_
  obtain ⟨S_20, eS_20, hf⟩ := bL_e hf
  refine pI G hw h0 KX2 3 (by decide) rfl rfl rfl eS_20 fl_X2_41 dX2_tick_179 (fun H locs hw => ?_)
  refine lv_aload_n hx hb dX2_tick_182 rfl (lv_at hl 4 rfl) ?_
  refine gF G hw h0 KX2 0 (k2 := (k0 + 1)) rfl (by decide) rfl fl_X2_9 dX2_tick_183 ?_
  refine lv_bipush hx hb dX2_tick_186 kb_8 ?_
  refine lv_dup2_11 hx hb dX2_tick_188 rfl rfl ?_
  refine aI G hw (sub_Flight_is hZ h0) (vin_e (by decide)) (j := 8) (by decide) dX2_tick_189 ?_
  refine lv_iconst hx hb dX2_tick_190 ki_1 ?_
  refine lv_iadd hx hb dX2_tick_191 ?_
  obtain ⟨S_21, eS_21, hf⟩ := bL_e hf
  refine sI G hw (sub_Flight_is hZ h0) (vin_e (by decide)) (j := 8) (by decide) eS_21 dX2_tick_192 (fun H locs hw => ?_)
  exact hret _ _ _ _ dX2_tick_193 (by rw [← (Option.some.inj hf)]; exact hw)

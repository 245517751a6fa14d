noncomputable def F5_take (S : pS) (k0 : Nat) (a1 : Int32) : Option (pS) :=
  if (S (k0 + 1) 1) = a1 then
    bB (F6_next S (k0 + 1)) fun S_2 =>
    some S_2
  else
    bL (F5_fail S k0 1) fun S_1 =>
    some S_1
set_option maxRecDepth 100000 in
set_option maxHeartbeats 4000000 in
theorem wX5_take {l : Launch} {Z : pZ}  (hZ : CC Z) (S : pS) (k0 : Nat) (a1 : Int32) (S2 : pS) (h0 : isA Z K_Reader k0) (hf : F5_take S k0 a1 = some S2) : CV l Z yX5_take cX5_take 2 4 81 [.ref (za Z k0), .int a1] S S2 := by
  unfold F5_take at hf
  refine eV (own := RX5) (by decide) rfl (Nat.le_of_ble_eq_true rfl) (fun p e s m args below meth c Q ls G hl hw hret => ?_)
  obtain ⟨hx, hb, hml, hown, hts⟩ := G.1
  have hl : lv_has ls 2 [(0, .ref (za Z k0)), (1, .int a1)] := hl
  refine lv_aload_n hx hb dX5_take_0 rfl (lv_at hl 0 rfl) ?_
  refine gF G hw h0 KX5 0 (k2 := (k0 + 1)) rfl (by decide) rfl fl_X5_12 dX5_take_1 ?_
  refine gI G hw (sub_Reader_tape hZ h0) KX6 1 (by decide) rfl fl_X5_47 dX5_take_4 ?_
  refine lv_iload_n hx hb dX5_take_7 rfl (lv_at hl 1 rfl) ?_
  refine lv_icmp_ne (tgt := 21) hx hb dX5_take_8 (by decide) (fun c_3 => ?_) (fun c_3 => ?_)
  · have hf := (if_neg c_3).symm.trans hf
    refine lv_aload_n hx hb dX5_take_21 rfl (lv_at hl 0 rfl) ?_
    refine lv_iconst hx hb dX5_take_22 ki_1 ?_
    obtain ⟨S_1, hS_1, hf⟩ := bL_e hf
    refine kVv (rest := []) G hw (wX5_fail hZ S k0 1 S_1 h0 hS_1.symm) cw_X5_53 h0 KX5 ⟨Nat.le_of_ble_eq_true rfl, Nat.le_of_ble_eq_true rfl⟩ rfl hl.1 rfl (Nat.le_of_ble_eq_true rfl) ⟨Nat.le_refl _, Nat.le_refl _⟩ dX5_take_23 (fun H locs hw => ?_)
    exact hret _ _ _ _ dX5_take_26 (by rw [← (Option.some.inj hf)]; exact hw)
  · have hf := (if_pos c_3).symm.trans hf
    refine lv_aload_n hx hb dX5_take_11 rfl (lv_at hl 0 rfl) ?_
    refine gF G hw h0 KX5 0 (k2 := (k0 + 1)) rfl (by decide) rfl fl_X5_12 dX5_take_12 ?_
    obtain ⟨S_2, hS_2, hf⟩ := bB_e hf
    refine kVv (rest := []) G hw (wX6_next hZ S (k0 + 1) S_2 (sub_Reader_tape hZ h0) hS_2) cw_X5_50 (sub_Reader_tape hZ h0) KX6 ⟨Nat.le_of_ble_eq_true rfl, Nat.le_of_ble_eq_true rfl⟩ rfl hl.1 rfl (Nat.le_of_ble_eq_true rfl) ⟨Nat.le_refl _, Nat.le_refl _⟩ dX5_take_15 (fun H locs hw => ?_)
    refine lv_goto (tgt := 26) hx hb dX5_take_18 (by decide) ?_
    exact hret _ _ _ _ dX5_take_26 (by rw [← (Option.some.inj hf)]; exact hw)
noncomputable def F5_comparing (S : pS) (k0 : Nat) : Option (Int32 × pS) :=
  bL (fun (t_1 : Int32) =>
    bL (fun (t_2 : Int32) =>
      bB (F5_take S k0 t_2) fun S_3 =>
      some (t_1, S_3)) fun j62 =>
    if t_1 = 6 then
      j62 60
    else
      if t_1 = 7 then
        j62 61
      else
        j62 62) fun j36 =>
  if (S (k0 + 1) 1) = 60 then
    j36 6
  else
    if (S (k0 + 1) 1) = 61 then
      j36 7
    else
      j36 8
set_option maxRecDepth 100000 in
set_option maxHeartbeats 4000000 in
theorem wX5_comparing {l : Launch} {Z : pZ}  (hZ : CC Z) (S : pS) (k0 : Nat) (r : Int32) (S2 : pS) (h0 : isA Z K_Reader k0) (hf : F5_comparing S k0 = some (r, S2)) : CI l Z yX5_comparing cX5_comparing 2 .int 5 102 [.ref (za Z k0)] S r S2 := by
  unfold F5_comparing at hf
  refine eI (own := RX5) (by decide) rfl (Nat.le_of_ble_eq_true rfl) (fun p e s m args below meth c Q ls G hl hw hret => ?_)
  obtain ⟨hx, hb, hml, hown, hts⟩ := G.1
  have hl : lv_has ls 2 [(0, .ref (za Z k0))] := hl
  refine lv_aload_n hx hb dX5_comparing_0 rfl (lv_at hl 0 rfl) ?_
  refine gF G hw h0 KX5 0 (k2 := (k0 + 1)) rfl (by decide) rfl fl_X5_12 dX5_comparing_1 ?_
  refine gI G hw (sub_Reader_tape hZ h0) KX6 1 (by decide) rfl fl_X5_47 dX5_comparing_4 ?_
  refine lv_bipush hx hb dX5_comparing_7 kb_60 ?_
  obtain ⟨j36, ej, hf⟩ := bL_e hf
  have R36 : ∀ (t_1 : Int32) (H : Heap) (locs : List Loc) (ls : Array Slot), Wd Z s S H locs → lv_has ls 2 [(0, .ref (za Z k0))] → j36 t_1 = some (r, S2) → W p l e { frames := 5, cells := 0, slots := 0, locals := 102 } s m args below meth c H locs 0 0 Q (F0 m 36 ls [.int t_1]) := by
    intro t_1 H locs ls hw hl hf
    have hf := (congrFun ej t_1).symm.trans hf
    refine lv_istore_n (lv' := [(1, .int t_1), (0, .ref (za Z k0))]) hx hb dX5_comparing_36 rfl hl (by decide) rfl (fun ls hl => ?_)
    refine lv_aload_n hx hb dX5_comparing_37 rfl (lv_at hl 1 rfl) ?_
    refine lv_iload_n hx hb dX5_comparing_38 rfl (lv_at hl 0 rfl) ?_
    refine lv_bipush hx hb dX5_comparing_39 kb_6 ?_
    obtain ⟨j62, ej, hf⟩ := bL_e hf
    have R62 : ∀ (t_2 : Int32) (H : Heap) (locs : List Loc) (ls : Array Slot), Wd Z s S H locs → lv_has ls 2 [(1, .int t_1)] → j62 t_2 = some (r, S2) → W p l e { frames := 5, cells := 0, slots := 0, locals := 102 } s m args below meth c H locs 0 0 Q (F0 m 62 ls [.int t_2, .ref (za Z k0)]) := by
      intro t_2 H locs ls hw hl hf
      have hf := (congrFun ej t_2).symm.trans hf
      obtain ⟨S_3, hS_3, hf⟩ := bB_e hf
      refine kVv (rest := []) G hw (wX5_take hZ S k0 t_2 S_3 h0 hS_3) cw_X5_86 h0 KX5 ⟨Nat.le_of_ble_eq_true rfl, Nat.le_of_ble_eq_true rfl⟩ rfl hl.1 rfl (Nat.le_of_ble_eq_true rfl) ⟨Nat.le_refl _, Nat.le_refl _⟩ dX5_comparing_62 (fun H locs hw => ?_)
      refine lv_iload_n hx hb dX5_comparing_65 rfl (lv_at hl 0 rfl) ?_
      obtain ⟨e1, e2⟩ := Prod.mk.inj (Option.some.inj hf)
      exact hret _ _ _ _ _ dX5_comparing_66 e1 (by rw [← e2]; exact hw)
    clear ej
    refine lv_icmp_ne (tgt := 49) hx hb dX5_comparing_41 (by decide) (fun c_5 => ?_) (fun c_5 => ?_)
    · have hf := (if_neg c_5).symm.trans hf
      refine lv_iload_n hx hb dX5_comparing_49 rfl (lv_at hl 0 rfl) ?_
      refine lv_bipush hx hb dX5_comparing_50 kb_7 ?_
      refine lv_icmp_ne (tgt := 60) hx hb dX5_comparing_52 (by decide) (fun c_4 => ?_) (fun c_4 => ?_)
      · have hf := (if_neg c_4).symm.trans hf
        refine lv_bipush hx hb dX5_comparing_60 kb_62 ?_
        exact R62 _ _ _ _ hw (lv_sub hl [0] rfl) hf
      · have hf := (if_pos c_4).symm.trans hf
        refine lv_bipush hx hb dX5_comparing_55 kb_61 ?_
        refine lv_goto (tgt := 62) hx hb dX5_comparing_57 (by decide) ?_
        exact R62 _ _ _ _ hw (lv_sub hl [0] rfl) hf
    · have hf := (if_pos c_5).symm.trans hf
      refine lv_bipush hx hb dX5_comparing_44 kb_60 ?_
      refine lv_goto (tgt := 62) hx hb dX5_comparing_46 (by decide) ?_
      exact R62 _ _ _ _ hw (lv_sub hl [0] rfl) hf
  clear ej
  refine lv_icmp_ne (tgt := 17) hx hb dX5_comparing_9 (by decide) (fun c_7 => ?_) (fun c_7 => ?_)
  · have hf := (if_neg c_7).symm.trans hf
    refine lv_aload_n hx hb dX5_comparing_17 rfl (lv_at hl 0 rfl) ?_
    refine gF G hw h0 KX5 0 (k2 := (k0 + 1)) rfl (by decide) rfl fl_X5_12 dX5_comparing_18 ?_
    refine gI G hw (sub_Reader_tape hZ h0) KX6 1 (by decide) rfl fl_X5_47 dX5_comparing_21 ?_
    refine lv_bipush hx hb dX5_comparing_24 kb_61 ?_
    refine lv_icmp_ne (tgt := 34) hx hb dX5_comparing_26 (by decide) (fun c_6 => ?_) (fun c_6 => ?_)
    · have hf := (if_neg c_6).symm.trans hf
      refine lv_bipush hx hb dX5_comparing_34 kb_8 ?_
      exact R36 _ _ _ _ hw (lv_sub hl [0] rfl) hf
    · have hf := (if_pos c_6).symm.trans hf
      refine lv_bipush hx hb dX5_comparing_29 kb_7 ?_
      refine lv_goto (tgt := 36) hx hb dX5_comparing_31 (by decide) ?_
      exact R36 _ _ _ _ hw (lv_sub hl [0] rfl) hf
  · have hf := (if_pos c_7).symm.trans hf
    refine lv_bipush hx hb dX5_comparing_12 kb_6 ?_
    refine lv_goto (tgt := 36) hx hb dX5_comparing_14 (by decide) ?_
    exact R36 _ _ _ _ hw (lv_sub hl [0] rfl) hf
noncomputable def F5_number (S : pS) (k0 : Nat) (a1 : Int32) (a2 : Int32) : Option (Int32 × pS) :=
  bL (S (k0 + 1) 2) fun l3_1 =>
  if (S (k0 + 1) 1) = 1 then
    bL (fun (_ : Unit) =>
      bL (F5_fail S k0 2) fun S_2 =>
      some (a1, S_2)) fun j37 =>
    if l3_1 < a1 then
      j37 ()
    else
      if l3_1 ≤ a2 then
        bB (F6_next S (k0 + 1)) fun S_3 =>
        some (l3_1, S_3)
      else
        j37 ()
  else
    bL (F5_fail S k0 1) fun S_6 =>
    some (a1, S_6)
set_option maxRecDepth 100000 in
set_option maxHeartbeats 4000000 in
theorem wX5_number {l : Launch} {Z : pZ}  (hZ : CC Z) (S : pS) (k0 : Nat) (a1 : Int32) (a2 : Int32) (r : Int32) (S2 : pS) (h0 : isA Z K_Reader k0) (hf : F5_number S k0 a1 a2 = some (r, S2)) : CI l Z yX5_number cX5_number 4 .int 4 81 [.ref (za Z k0), .int a1, .int a2] S r S2 := by
  unfold F5_number at hf
  refine eI (own := RX5) (by decide) rfl (Nat.le_of_ble_eq_true rfl) (fun p e s m args below meth c Q ls G hl hw hret => ?_)
  obtain ⟨hx, hb, hml, hown, hts⟩ := G.1
  have hl : lv_has ls 4 [(0, .ref (za Z k0)), (1, .int a1), (2, .int a2)] := hl
  refine lv_aload_n hx hb dX5_number_0 rfl (lv_at hl 0 rfl) ?_
  refine gF G hw h0 KX5 0 (k2 := (k0 + 1)) rfl (by decide) rfl fl_X5_12 dX5_number_1 ?_
  refine gI G hw (sub_Reader_tape hZ h0) KX6 2 (by decide) rfl fl_X5_57 dX5_number_4 ?_
  obtain ⟨l3_1, el3_1, hf⟩ := bL_e hf
  refine top_i el3_1 ?_
  refine lv_istore_n (lv' := [(3, .int l3_1), (0, .ref (za Z k0)), (1, .int a1), (2, .int a2)]) hx hb dX5_number_7 rfl hl (by decide) rfl (fun ls hl => ?_)
  refine lv_aload_n hx hb dX5_number_8 rfl (lv_at hl 1 rfl) ?_
  refine gF G hw h0 KX5 0 (k2 := (k0 + 1)) rfl (by decide) rfl fl_X5_12 dX5_number_9 ?_
  refine gI G hw (sub_Reader_tape hZ h0) KX6 1 (by decide) rfl fl_X5_47 dX5_number_12 ?_
  refine lv_iconst hx hb dX5_number_15 ki_1 ?_
  refine lv_icmp_eq (tgt := 27) hx hb dX5_number_16 (by decide) (fun c_7 => ?_) (fun c_7 => ?_)
  · have hf := (if_pos c_7).symm.trans hf
    refine lv_iload_n hx hb dX5_number_27 rfl (lv_at hl 0 rfl) ?_
    refine lv_iload_n hx hb dX5_number_28 rfl (lv_at hl 2 rfl) ?_
    obtain ⟨j37, ej, hf⟩ := bL_e hf
    have R37 : ∀ (H : Heap) (locs : List Loc) (ls : Array Slot), Wd Z s S H locs → lv_has ls 4 [(0, .ref (za Z k0)), (1, .int a1)] → j37 () = some (r, S2) → W p l e { frames := 4, cells := 0, slots := 0, locals := 81 } s m args below meth c H locs 0 0 Q (F0 m 37 ls []) := by
      intro  H locs ls hw hl hf
      have hf := (congrFun ej ()).symm.trans hf
      refine lv_aload_n hx hb dX5_number_37 rfl (lv_at hl 0 rfl) ?_
      refine lv_iconst hx hb dX5_number_38 ki_2 ?_
      obtain ⟨S_2, hS_2, hf⟩ := bL_e hf
      refine kVv (rest := []) G hw (wX5_fail hZ S k0 2 S_2 h0 hS_2.symm) cw_X5_53 h0 KX5 ⟨Nat.le_of_ble_eq_true rfl, Nat.le_of_ble_eq_true rfl⟩ rfl hl.1 rfl (Nat.le_of_ble_eq_true rfl) ⟨Nat.le_refl _, Nat.le_refl _⟩ dX5_number_39 (fun H locs hw => ?_)
      refine lv_goto (tgt := 54) hx hb dX5_number_42 (by decide) ?_
      refine lv_iload_n hx hb dX5_number_54 rfl (lv_at hl 1 rfl) ?_
      obtain ⟨e1, e2⟩ := Prod.mk.inj (Option.some.inj hf)
      exact hret _ _ _ _ _ dX5_number_55 e1 (by rw [← e2]; exact hw)
    clear ej
    refine lv_icmp_lt (tgt := 37) hx hb dX5_number_29 (by decide) (fun c_5 => ?_) (fun c_5 => ?_)
    · have hf := (if_pos c_5).symm.trans hf
      exact R37 _ _ _ hw (lv_sub hl [1, 2] rfl) hf
    · have hf := (if_neg c_5).symm.trans hf
      refine lv_iload_n hx hb dX5_number_32 rfl (lv_at hl 0 rfl) ?_
      refine lv_iload_n hx hb dX5_number_33 rfl (lv_at hl 3 rfl) ?_
      refine lv_icmp_le (tgt := 45) hx hb dX5_number_34 (by decide) (fun c_4 => ?_) (fun c_4 => ?_)
      · have hf := (if_pos c_4).symm.trans hf
        refine lv_aload_n hx hb dX5_number_45 rfl (lv_at hl 1 rfl) ?_
        refine gF G hw h0 KX5 0 (k2 := (k0 + 1)) rfl (by decide) rfl fl_X5_12 dX5_number_46 ?_
        obtain ⟨S_3, hS_3, hf⟩ := bB_e hf
        refine kVv (rest := []) G hw (wX6_next hZ S (k0 + 1) S_3 (sub_Reader_tape hZ h0) hS_3) cw_X5_50 (sub_Reader_tape hZ h0) KX6 ⟨Nat.le_of_ble_eq_true rfl, Nat.le_of_ble_eq_true rfl⟩ rfl hl.1 rfl (Nat.le_of_ble_eq_true rfl) ⟨Nat.le_refl _, Nat.le_refl _⟩ dX5_number_49 (fun H locs hw => ?_)
        refine lv_iload_n hx hb dX5_number_52 rfl (lv_at hl 0 rfl) ?_
        obtain ⟨e1, e2⟩ := Prod.mk.inj (Option.some.inj hf)
        exact hret _ _ _ _ _ dX5_number_53 e1 (by rw [← e2]; exact hw)
      · have hf := (if_neg c_4).symm.trans hf
        exact R37 _ _ _ hw (lv_sub hl [1, 2] rfl) hf
  · have hf := (if_neg c_7).symm.trans hf
    refine lv_aload_n hx hb dX5_number_19 rfl (lv_at hl 1 rfl) ?_
    refine lv_iconst hx hb dX5_number_20 ki_1 ?_
    obtain ⟨S_6, hS_6, hf⟩ := bL_e hf
    refine kVv (rest := []) G hw (wX5_fail hZ S k0 1 S_6 h0 hS_6.symm) cw_X5_53 h0 KX5 ⟨Nat.le_of_ble_eq_true rfl, Nat.le_of_ble_eq_true rfl⟩ rfl hl.1 rfl (Nat.le_of_ble_eq_true rfl) ⟨Nat.le_refl _, Nat.le_refl _⟩ dX5_number_21 (fun H locs hw => ?_)
    refine lv_goto (tgt := 54) hx hb dX5_number_24 (by decide) ?_
    refine lv_iload_n hx hb dX5_number_54 rfl (lv_at hl 2 rfl) ?_
    obtain ⟨e1, e2⟩ := Prod.mk.inj (Option.some.inj hf)
    exact hret _ _ _ _ _ dX5_number_55 e1 (by rw [← e2]; exact hw)
noncomputable def F5_operand (S : pS) (k0 : Nat) : Option (pS) :=
  if (S (k0 + 1) 1) = 1 then
    bB (F3_put S (k0 + 6) 0 (S (k0 + 1) 2)) fun S_5 =>
    bB (F6_next S_5 (k0 + 1)) fun S_6 =>
    some S_6
  else
    if (S (k0 + 1) 1) < (S k0 6) then
      bL (F5_fail S k0 1) fun S_1 =>
      some S_1
    else
      bB (F3_put S (k0 + 6) 1 ((S (k0 + 1) 1) - (S k0 6))) fun S_2 =>
      bB (F6_next S_2 (k0 + 1)) fun S_3 =>
      some S_3
set_option maxRecDepth 100000 in
set_option maxHeartbeats 4000000 in
theorem wX5_operand {l : Launch} {Z : pZ}  (hZ : CC Z) (S : pS) (k0 : Nat) (S2 : pS) (h0 : isA Z K_Reader k0) (hf : F5_operand S k0 = some S2) : CV l Z yX5_operand cX5_operand 1 4 82 [.ref (za Z k0)] S S2 := by
  unfold F5_operand at hf
  refine eV (own := RX5) (by decide) rfl (Nat.le_of_ble_eq_true rfl) (fun p e s m args below meth c Q ls G hl hw hret => ?_)
  obtain ⟨hx, hb, hml, hown, hts⟩ := G.1
  have hl : lv_has ls 1 [(0, .ref (za Z k0))] := hl
  refine lv_aload_n hx hb dX5_operand_0 rfl (lv_at hl 0 rfl) ?_
  refine gF G hw h0 KX5 0 (k2 := (k0 + 1)) rfl (by decide) rfl fl_X5_12 dX5_operand_1 ?_
  refine gI G hw (sub_Reader_tape hZ h0) KX6 1 (by decide) rfl fl_X5_47 dX5_operand_4 ?_
  refine lv_iconst hx hb dX5_operand_7 ki_1 ?_
  refine lv_icmp_ne (tgt := 36) hx hb dX5_operand_8 (by decide) (fun c_7 => ?_) (fun c_7 => ?_)
  · have hf := (if_neg c_7).symm.trans hf
    refine lv_aload_n hx hb dX5_operand_36 rfl (lv_at hl 0 rfl) ?_
    refine gF G hw h0 KX5 0 (k2 := (k0 + 1)) rfl (by decide) rfl fl_X5_12 dX5_operand_37 ?_
    refine gI G hw (sub_Reader_tape hZ h0) KX6 1 (by decide) rfl fl_X5_47 dX5_operand_40 ?_
    refine lv_aload_n hx hb dX5_operand_43 rfl (lv_at hl 0 rfl) ?_
    refine gI G hw h0 KX5 6 (by decide) rfl fl_X5_64 dX5_operand_44 ?_
    refine lv_icmp_lt (tgt := 80) hx hb dX5_operand_47 (by decide) (fun c_4 => ?_) (fun c_4 => ?_)
    · have hf := (if_pos c_4).symm.trans hf
      refine lv_aload_n hx hb dX5_operand_80 rfl (lv_at hl 0 rfl) ?_
      refine lv_iconst hx hb dX5_operand_81 ki_1 ?_
      obtain ⟨S_1, hS_1, hf⟩ := bL_e hf
      refine kVv (rest := []) G hw (wX5_fail hZ S k0 1 S_1 h0 hS_1.symm) cw_X5_53 h0 KX5 ⟨Nat.le_of_ble_eq_true rfl, Nat.le_of_ble_eq_true rfl⟩ rfl hl.1 rfl (Nat.le_of_ble_eq_true rfl) ⟨Nat.le_refl _, Nat.le_refl _⟩ dX5_operand_82 (fun H locs hw => ?_)
      exact hret _ _ _ _ dX5_operand_85 (by rw [← (Option.some.inj hf)]; exact hw)
    · have hf := (if_neg c_4).symm.trans hf
      refine lv_aload_n hx hb dX5_operand_50 rfl (lv_at hl 0 rfl) ?_
      refine gF G hw h0 KX5 3 (k2 := (k0 + 6)) rfl (by decide) rfl fl_X5_25 dX5_operand_51 ?_
      refine lv_iconst hx hb dX5_operand_54 ki_1 ?_
      refine lv_aload_n hx hb dX5_operand_55 rfl (lv_at hl 0 rfl) ?_
      refine gF G hw h0 KX5 0 (k2 := (k0 + 1)) rfl (by decide) rfl fl_X5_12 dX5_operand_56 ?_
      refine gI G hw (sub_Reader_tape hZ h0) KX6 1 (by decide) rfl fl_X5_47 dX5_operand_59 ?_
      refine lv_aload_n hx hb dX5_operand_62 rfl (lv_at hl 0 rfl) ?_
      refine gI G hw h0 KX5 6 (by decide) rfl fl_X5_64 dX5_operand_63 ?_
      refine lv_isub hx hb dX5_operand_66 ?_
      obtain ⟨S_2, hS_2, hf⟩ := bB_e hf
      refine kVv (rest := []) G hw (wX3_put hZ S (k0 + 6) 1 ((S (k0 + 1) 1) - (S k0 6)) S_2 (sub_Reader_law hZ h0) hS_2) cw_X5_95 (sub_Reader_law hZ h0) KX3 ⟨Nat.le_of_ble_eq_true rfl, Nat.le_of_ble_eq_true rfl⟩ rfl hl.1 rfl (Nat.le_of_ble_eq_true rfl) ⟨Nat.le_refl _, Nat.le_refl _⟩ dX5_operand_67 (fun H locs hw => ?_)
      refine lv_aload_n hx hb dX5_operand_70 rfl (lv_at hl 0 rfl) ?_
      refine gF G hw h0 KX5 0 (k2 := (k0 + 1)) rfl (by decide) rfl fl_X5_12 dX5_operand_71 ?_
      obtain ⟨S_3, hS_3, hf⟩ := bB_e hf
      refine kVv (rest := []) G hw (wX6_next hZ S_2 (k0 + 1) S_3 (sub_Reader_tape hZ h0) hS_3) cw_X5_50 (sub_Reader_tape hZ h0) KX6 ⟨Nat.le_of_ble_eq_true rfl, Nat.le_of_ble_eq_true rfl⟩ rfl hl.1 rfl (Nat.le_of_ble_eq_true rfl) ⟨Nat.le_refl _, Nat.le_refl _⟩ dX5_operand_74 (fun H locs hw => ?_)
      refine lv_goto (tgt := 85) hx hb dX5_operand_77 (by decide) ?_
      exact hret _ _ _ _ dX5_operand_85 (by rw [← (Option.some.inj hf)]; exact hw)
  · have hf := (if_pos c_7).symm.trans hf
    refine lv_aload_n hx hb dX5_operand_11 rfl (lv_at hl 0 rfl) ?_
    refine gF G hw h0 KX5 3 (k2 := (k0 + 6)) rfl (by decide) rfl fl_X5_25 dX5_operand_12 ?_
    refine lv_iconst hx hb dX5_operand_15 ki_0 ?_
    refine lv_aload_n hx hb dX5_operand_16 rfl (lv_at hl 0 rfl) ?_
    refine gF G hw h0 KX5 0 (k2 := (k0 + 1)) rfl (by decide) rfl fl_X5_12 dX5_operand_17 ?_
    refine gI G hw (sub_Reader_tape hZ h0) KX6 2 (by decide) rfl fl_X5_57 dX5_operand_20 ?_
    obtain ⟨S_5, hS_5, hf⟩ := bB_e hf
    refine kVv (rest := []) G hw (wX3_put hZ S (k0 + 6) 0 (S (k0 + 1) 2) S_5 (sub_Reader_law hZ h0) hS_5) cw_X5_95 (sub_Reader_law hZ h0) KX3 ⟨Nat.le_of_ble_eq_true rfl, Nat.le_of_ble_eq_true rfl⟩ rfl hl.1 rfl (Nat.le_of_ble_eq_true rfl) ⟨Nat.le_refl _, Nat.le_refl _⟩ dX5_operand_23 (fun H locs hw => ?_)
    refine lv_aload_n hx hb dX5_operand_26 rfl (lv_at hl 0 rfl) ?_
    refine gF G hw h0 KX5 0 (k2 := (k0 + 1)) rfl (by decide) rfl fl_X5_12 dX5_operand_27 ?_
    obtain ⟨S_6, hS_6, hf⟩ := bB_e hf
    refine kVv (rest := []) G hw (wX6_next hZ S_5 (k0 + 1) S_6 (sub_Reader_tape hZ h0) hS_6) cw_X5_50 (sub_Reader_tape hZ h0) KX6 ⟨Nat.le_of_ble_eq_true rfl, Nat.le_of_ble_eq_true rfl⟩ rfl hl.1 rfl (Nat.le_of_ble_eq_true rfl) ⟨Nat.le_refl _, Nat.le_refl _⟩ dX5_operand_30 (fun H locs hw => ?_)
    refine lv_goto (tgt := 85) hx hb dX5_operand_33 (by decide) ?_
    exact hret _ _ _ _ dX5_operand_85 (by rw [← (Option.some.inj hf)]; exact hw)
noncomputable def F5_taken (S : pS) (k0 : Nat) (a1 : Int32) : Option (Int32 × pS) :=
  if (S k0 1) = 0 then
    if (S (k0 + 1) 1) = a1 then
      bB (F6_next S (k0 + 1)) fun S_1 =>
      some ((1 : Int32), S_1)
    else
      some ((0 : Int32), S)
  else
    some ((0 : Int32), S)
set_option maxRecDepth 100000 in
set_option maxHeartbeats 4000000 in
theorem wX5_taken {l : Launch} {Z : pZ}  (hZ : CC Z) (S : pS) (k0 : Nat) (a1 : Int32) (r : Int32) (S2 : pS) (h0 : isA Z K_Reader k0) (hf : F5_taken S k0 a1 = some (r, S2)) : CI l Z yX5_taken cX5_taken 2 .boolean 4 80 [.ref (za Z k0), .int a1] S r S2 := by
  unfold F5_taken at hf
  refine eZ (own := RX5) (by decide) rfl (Nat.le_of_ble_eq_true rfl) (fun p e s m args below meth c Q ls G hl hw hret => ?_)
  obtain ⟨hx, hb, hml, hown, hts⟩ := G.1
  have hl : lv_has ls 2 [(0, .ref (za Z k0)), (1, .int a1)] := hl
  refine lv_aload_n hx hb dX5_taken_0 rfl (lv_at hl 0 rfl) ?_
  refine gI G hw h0 KX5 1 (by decide) rfl fl_X5_35 dX5_taken_1 ?_
  refine lv_if_ne (tgt := 18) hx hb dX5_taken_4 (by decide) (fun c_3 => ?_) (fun c_3 => ?_)
  · have hf := (if_neg c_3).symm.trans hf
    refine lv_iconst hx hb dX5_taken_18 ki_0 ?_
    obtain ⟨e1, e2⟩ := Prod.mk.inj (Option.some.inj hf)
    exact hret _ _ _ _ _ dX5_taken_19 ((by decide : (0 : Int32) &&& 1 = 0).trans e1) (by rw [← e2]; exact hw)
  · have hf := (if_pos c_3).symm.trans hf
    refine lv_aload_n hx hb dX5_taken_7 rfl (lv_at hl 0 rfl) ?_
    refine gF G hw h0 KX5 0 (k2 := (k0 + 1)) rfl (by decide) rfl fl_X5_12 dX5_taken_8 ?_
    refine gI G hw (sub_Reader_tape hZ h0) KX6 1 (by decide) rfl fl_X5_47 dX5_taken_11 ?_
    refine lv_iload_n hx hb dX5_taken_14 rfl (lv_at hl 1 rfl) ?_
    refine lv_icmp_eq (tgt := 20) hx hb dX5_taken_15 (by decide) (fun c_2 => ?_) (fun c_2 => ?_)
    · have hf := (if_pos c_2).symm.trans hf
      refine lv_aload_n hx hb dX5_taken_20 rfl (lv_at hl 0 rfl) ?_
      refine gF G hw h0 KX5 0 (k2 := (k0 + 1)) rfl (by decide) rfl fl_X5_12 dX5_taken_21 ?_
      obtain ⟨S_1, hS_1, hf⟩ := bB_e hf
      refine kVv (rest := []) G hw (wX6_next hZ S (k0 + 1) S_1 (sub_Reader_tape hZ h0) hS_1) cw_X5_50 (sub_Reader_tape hZ h0) KX6 ⟨Nat.le_of_ble_eq_true rfl, Nat.le_of_ble_eq_true rfl⟩ rfl hl.1 rfl (Nat.le_of_ble_eq_true rfl) ⟨Nat.le_refl _, Nat.le_refl _⟩ dX5_taken_24 (fun H locs hw => ?_)
      refine lv_iconst hx hb dX5_taken_27 ki_1 ?_
      obtain ⟨e1, e2⟩ := Prod.mk.inj (Option.some.inj hf)
      exact hret _ _ _ _ _ dX5_taken_28 ((by decide : (1 : Int32) &&& 1 = 1).trans e1) (by rw [← e2]; exact hw)
    · have hf := (if_neg c_2).symm.trans hf
      refine lv_iconst hx hb dX5_taken_18 ki_0 ?_
      obtain ⟨e1, e2⟩ := Prod.mk.inj (Option.some.inj hf)
      exact hret _ _ _ _ _ dX5_taken_19 ((by decide : (0 : Int32) &&& 1 = 0).trans e1) (by rw [← e2]; exact hw)
noncomputable def F5_sum (S : pS) (k0 : Nat) : Option (pS) :=
  bB (F5_operand S k0) fun S_1 =>
  bL (fun (S_2 : pS) =>
    some S_2) fun g133_8 =>
  bL (fun (S_3 : pS) =>
    some S_3) fun g122_8 =>
  bL (u3 fun (l1_4 : Int32) (l2_5 : Int32) (S_6 : pS) =>
    if 400 ≤ l2_5 then
      some (.inr (.inl S_6))
    else
      if (S_6 k0 1) = 0 then
        bB2 (F5_taken S_6 k0 42) fun r_8 S_9 =>
        bL (fun (l1_10 : Int32) (S_11 : pS) =>
          bL (l2_5 + 1) fun l2_12 =>
          some (.inl (l1_10, l2_12, S_11))) fun j127 =>
        if r_8 = 0 then
          bB2 (F5_taken S_9 k0 47) fun r_13 S_14 =>
          if r_13 = 0 then
            bL (fun (S_15 : pS) =>
              bB2 (F5_taken S_15 k0 43) fun r_16 S_17 =>
              bL (fun (t_18 : Int32) (S_19 : pS) =>
                if t_18 = (-1) then
                  some (.inr (.inr S_19))
                else
                  bB (F5_operand S_19 k0) fun S_20 =>
                  j127 t_18 S_20) fun j116 =>
              if r_16 = 0 then
                bB2 (F5_taken S_17 k0 45) fun r_22 S_23 =>
                if r_22 = 0 then
                  j116 (-1) S_23
                else
                  j116 3 S_23
              else
                j116 2 S_17) fun j89 =>
            if l1_4 = (-1) then
              j89 S_14
            else
              bB (F3_put S_14 (k0 + 6) l1_4 0) fun S_26 =>
              j89 S_26
          else
            bB2 (F5_number S_14 k0 1 9999) fun r_28 S_29 =>
            bB (F3_put S_29 (k0 + 6) 5 r_28) fun S_30 =>
            j127 l1_4 S_30
        else
          bB (F5_operand S_9 k0) fun S_32 =>
          bB (F3_put S_32 (k0 + 6) 4 0) fun S_33 =>
          j127 l1_4 S_33
      else
        some (.inr (.inl S_6))) fun b8 =>
  bB (bP b8 (((-1) : Int32), (0 : Int32), S_1)) (Sum.elim (u1 g133_8) (u1 g122_8))
set_option maxRecDepth 100000 in
set_option maxHeartbeats 4000000 in
theorem wX5_sum {l : Launch} {Z : pZ}  (hZ : CC Z) (S : pS) (k0 : Nat) (S2 : pS) (h0 : isA Z K_Reader k0) (hf : F5_sum S k0 = some S2) : CV l Z yX5_sum cX5_sum 3 5 104 [.ref (za Z k0)] S S2 := by
  unfold F5_sum at hf
  refine eV (own := RX5) (by decide) rfl (Nat.le_of_ble_eq_true rfl) (fun p e s m args below meth c Q ls G hl hw hret => ?_)
  obtain ⟨hx, hb, hml, hown, hts⟩ := G.1
  have hl : lv_has ls 3 [(0, .ref (za Z k0))] := hl
  refine lv_iconst hx hb dX5_sum_0 ki_m1 ?_
  refine lv_istore_n (lv' := [(1, .int (-1)), (0, .ref (za Z k0))]) hx hb dX5_sum_1 rfl hl (by decide) rfl (fun ls hl => ?_)
  refine lv_aload_n hx hb dX5_sum_2 rfl (lv_at hl 1 rfl) ?_
  obtain ⟨S_1, hS_1, hf⟩ := bB_e hf
  refine kVv (rest := []) G hw (wX5_operand hZ S k0 S_1 h0 hS_1) cw_X5_106 h0 KX5 ⟨Nat.le_of_ble_eq_true rfl, Nat.le_of_ble_eq_true rfl⟩ rfl hl.1 rfl (Nat.le_of_ble_eq_true rfl) ⟨Nat.le_refl _, Nat.le_refl _⟩ dX5_sum_3 (fun H locs hw => ?_)
  refine lv_iconst hx hb dX5_sum_6 ki_0 ?_
  refine lv_istore_n (lv' := [(2, .int 0), (1, .int (-1)), (0, .ref (za Z k0))]) hx hb dX5_sum_7 rfl hl (by decide) rfl (fun ls hl => ?_)
  obtain ⟨g133_8, ej, hf⟩ := bL_e hf
  have R133_8 : ∀ (S_2 : pS) (H : Heap) (locs : List Loc) (ls : Array Slot), Wd Z s S_2 H locs → lv_has ls 3 [] → g133_8 S_2 = some S2 → W p l e { frames := 5, cells := 0, slots := 0, locals := 104 } s m args below meth c H locs 0 0 Q (F0 m 133 ls []) := by
    intro S_2 H locs ls hw hl hf
    have hf := (congrFun ej S_2).symm.trans hf
    exact hret _ _ _ _ dX5_sum_133 (by rw [← (Option.some.inj hf)]; exact hw)
  clear ej
  obtain ⟨g122_8, ej, hf⟩ := bL_e hf
  have R122_8 : ∀ (S_3 : pS) (H : Heap) (locs : List Loc) (ls : Array Slot), Wd Z s S_3 H locs → lv_has ls 3 [] → g122_8 S_3 = some S2 → W p l e { frames := 5, cells := 0, slots := 0, locals := 104 } s m args below meth c H locs 0 0 Q (F0 m 122 ls []) := by
    intro S_3 H locs ls hw hl hf
    have hf := (congrFun ej S_3).symm.trans hf
    exact hret _ _ _ _ dX5_sum_122 (by rw [← (Option.some.inj hf)]; exact hw)
  clear ej
  obtain ⟨b8, eb, hf⟩ := bL_e hf
  have RL8 : ∀ (n : Nat) z, (Sum.elim (u1 g133_8) (u1 g122_8)) z = some S2 → ∀ (l1_4 : Int32) (l2_5 : Int32) (S_6 : pS) (H : Heap) (locs : List Loc) (ls : Array Slot), Wd Z s S_6 H locs → lv_has ls 3 [(0, .ref (za Z k0)), (1, .int l1_4), (2, .int l2_5)] → bPn b8 n (l1_4, l2_5, S_6) = some z → W p l e { frames := 5, cells := 0, slots := 0, locals := 104 } s m args below meth c H locs 0 0 Q (F0 m 8 ls []) := by
    intro n
    induction n with
    | zero =>
      intro z hg l1_4 l2_5 S_6 H locs ls hw hl hz
      exact bPn_0 hz
    | succ n ih =>
      intro z hg l1_4 l2_5 S_6 H locs ls hw hl hz
      obtain ⟨q_7, hf, hz⟩ := bPn_e hz
      have hf := u3_e ((congrFun eb _).symm.trans hf)
      refine lv_iload_n hx hb dX5_sum_8 rfl (lv_at hl 2 rfl) ?_
      refine lv_sipush hx hb dX5_sum_9 ks_400 ?_
      refine lv_icmp_ge (tgt := 133) hx hb dX5_sum_12 (by decide) (fun c_36 => ?_) (fun c_36 => ?_)
      · have hf := (if_pos c_36).symm.trans hf
        obtain rfl := Option.some.inj hf
        obtain rfl := Option.some.inj (hz : some _ = some _)
        exact R133_8 _ _ _ _ hw (lv_sub hl [] rfl) hg
      · have hf := (if_neg c_36).symm.trans hf
        refine lv_aload_n hx hb dX5_sum_15 rfl (lv_at hl 0 rfl) ?_
        refine gI G hw h0 KX5 1 (by decide) rfl fl_X5_35 dX5_sum_16 ?_
        refine lv_if_ne (tgt := 133) hx hb dX5_sum_19 (by decide) (fun c_35 => ?_) (fun c_35 => ?_)
        · have hf := (if_neg c_35).symm.trans hf
          obtain rfl := Option.some.inj hf
          obtain rfl := Option.some.inj (hz : some _ = some _)
          exact R133_8 _ _ _ _ hw (lv_sub hl [] rfl) hg
        · have hf := (if_pos c_35).symm.trans hf
          refine lv_aload_n hx hb dX5_sum_22 rfl (lv_at hl 0 rfl) ?_
          refine lv_bipush hx hb dX5_sum_23 kb_42 ?_
          obtain ⟨r_8, S_9, hr_8, hf⟩ := bB2_e hf
          refine kVi (rest := []) G hw (wX5_taken hZ S_6 k0 42 r_8 S_9 h0 hr_8) cw_X5_79 h0 KX5 ⟨Nat.le_of_ble_eq_true rfl, Nat.le_of_ble_eq_true rfl⟩ rfl hl.1 rfl (Nat.le_of_ble_eq_true rfl) ⟨Nat.le_refl _, Nat.le_refl _⟩ dX5_sum_25 (fun H locs hw => ?_)
          obtain ⟨j127, ej, hf⟩ := bL_e hf
          have R127 : ∀ (l1_10 : Int32) (S_11 : pS) (H : Heap) (locs : List Loc) (ls : Array Slot), Wd Z s S_11 H locs → lv_has ls 3 [(0, .ref (za Z k0)), (1, .int l1_10), (2, .int l2_5)] → j127 l1_10 S_11 = some q_7 → W p l e { frames := 5, cells := 0, slots := 0, locals := 104 } s m args below meth c H locs 0 0 Q (F0 m 127 ls []) := by
            intro l1_10 S_11 H locs ls hw hl hf
            have hf := (congrFun (congrFun ej l1_10) S_11).symm.trans hf
            obtain ⟨l2_12, el2_12, hf⟩ := bL_e hf
            refine lv_iinc (v := l2_12) (lv' := [(2, .int l2_12), (0, .ref (za Z k0)), (1, .int l1_10)]) hx hb dX5_sum_127 hl (k := 2) rfl (by rw [el2_12]; rfl) (by decide) rfl (fun ls hl => ?_)
            refine lv_goto (tgt := 8) hx hb dX5_sum_130 (by decide) ?_
            obtain rfl := Option.some.inj hf
            exact ih _ hg _ _ _ _ _ _ hw (lv_sub hl [1, 2, 0] rfl) hz
          clear ej
          refine lv_if_eq (tgt := 47) hx hb dX5_sum_28 (by decide) (fun c_34 => ?_) (fun c_34 => ?_)
          · have hf := (if_pos c_34).symm.trans hf
            refine lv_aload_n hx hb dX5_sum_47 rfl (lv_at hl 0 rfl) ?_
            refine lv_bipush hx hb dX5_sum_48 kb_47 ?_
            obtain ⟨r_13, S_14, hr_13, hf⟩ := bB2_e hf
            refine kVi (rest := []) G hw (wX5_taken hZ S_9 k0 47 r_13 S_14 h0 hr_13) cw_X5_79 h0 KX5 ⟨Nat.le_of_ble_eq_true rfl, Nat.le_of_ble_eq_true rfl⟩ rfl hl.1 rfl (Nat.le_of_ble_eq_true rfl) ⟨Nat.le_refl _, Nat.le_refl _⟩ dX5_sum_50 (fun H locs hw => ?_)
            refine lv_if_eq (tgt := 75) hx hb dX5_sum_53 (by decide) (fun c_31 => ?_) (fun c_31 => ?_)
            · have hf := (if_pos c_31).symm.trans hf
              refine lv_iload_n hx hb dX5_sum_75 rfl (lv_at hl 1 rfl) ?_
              refine lv_iconst hx hb dX5_sum_76 ki_m1 ?_
              obtain ⟨j89, ej, hf⟩ := bL_e hf
              have R89 : ∀ (S_15 : pS) (H : Heap) (locs : List Loc) (ls : Array Slot), Wd Z s S_15 H locs → lv_has ls 3 [(0, .ref (za Z k0)), (2, .int l2_5)] → j89 S_15 = some q_7 → W p l e { frames := 5, cells := 0, slots := 0, locals := 104 } s m args below meth c H locs 0 0 Q (F0 m 89 ls []) := by
                intro S_15 H locs ls hw hl hf
                have hf := (congrFun ej S_15).symm.trans hf
                refine lv_aload_n hx hb dX5_sum_89 rfl (lv_at hl 0 rfl) ?_
                refine lv_bipush hx hb dX5_sum_90 kb_43 ?_
                obtain ⟨r_16, S_17, hr_16, hf⟩ := bB2_e hf
                refine kVi (rest := []) G hw (wX5_taken hZ S_15 k0 43 r_16 S_17 h0 hr_16) cw_X5_79 h0 KX5 ⟨Nat.le_of_ble_eq_true rfl, Nat.le_of_ble_eq_true rfl⟩ rfl hl.1 rfl (Nat.le_of_ble_eq_true rfl) ⟨Nat.le_refl _, Nat.le_refl _⟩ dX5_sum_92 (fun H locs hw => ?_)
                obtain ⟨j116, ej, hf⟩ := bL_e hf
                have R116 : ∀ (t_18 : Int32) (S_19 : pS) (H : Heap) (locs : List Loc) (ls : Array Slot), Wd Z s S_19 H locs → lv_has ls 3 [(0, .ref (za Z k0)), (2, .int l2_5)] → j116 t_18 S_19 = some q_7 → W p l e { frames := 5, cells := 0, slots := 0, locals := 104 } s m args below meth c H locs 0 0 Q (F0 m 116 ls [.int t_18]) := by
                  intro t_18 S_19 H locs ls hw hl hf
                  have hf := (congrFun (congrFun ej t_18) S_19).symm.trans hf
                  refine lv_istore_n (lv' := [(1, .int t_18), (0, .ref (za Z k0)), (2, .int l2_5)]) hx hb dX5_sum_116 rfl hl (by decide) rfl (fun ls hl => ?_)
                  refine lv_iload_n hx hb dX5_sum_117 rfl (lv_at hl 0 rfl) ?_
                  refine lv_iconst hx hb dX5_sum_118 ki_m1 ?_
                  refine lv_icmp_ne (tgt := 123) hx hb dX5_sum_119 (by decide) (fun c_21 => ?_) (fun c_21 => ?_)
                  · have hf := (if_neg c_21).symm.trans hf
                    refine lv_aload_n hx hb dX5_sum_123 rfl (lv_at hl 1 rfl) ?_
                    obtain ⟨S_20, hS_20, hf⟩ := bB_e hf
                    refine kVv (rest := []) G hw (wX5_operand hZ S_19 k0 S_20 h0 hS_20) cw_X5_106 h0 KX5 ⟨Nat.le_of_ble_eq_true rfl, Nat.le_of_ble_eq_true rfl⟩ rfl hl.1 rfl (Nat.le_of_ble_eq_true rfl) ⟨Nat.le_refl _, Nat.le_refl _⟩ dX5_sum_124 (fun H locs hw => ?_)
                    exact R127 _ _ _ _ _ hw (lv_sub hl [1, 0, 2] rfl) hf
                  · have hf := (if_pos c_21).symm.trans hf
                    obtain rfl := Option.some.inj hf
                    obtain rfl := Option.some.inj (hz : some _ = some _)
                    exact R122_8 _ _ _ _ hw (lv_sub hl [] rfl) hg
                clear ej
                refine lv_if_eq (tgt := 102) hx hb dX5_sum_95 (by decide) (fun c_25 => ?_) (fun c_25 => ?_)
                · have hf := (if_pos c_25).symm.trans hf
                  refine lv_aload_n hx hb dX5_sum_102 rfl (lv_at hl 0 rfl) ?_
                  refine lv_bipush hx hb dX5_sum_103 kb_45 ?_
                  obtain ⟨r_22, S_23, hr_22, hf⟩ := bB2_e hf
                  refine kVi (rest := []) G hw (wX5_taken hZ S_17 k0 45 r_22 S_23 h0 hr_22) cw_X5_79 h0 KX5 ⟨Nat.le_of_ble_eq_true rfl, Nat.le_of_ble_eq_true rfl⟩ rfl hl.1 rfl (Nat.le_of_ble_eq_true rfl) ⟨Nat.le_refl _, Nat.le_refl _⟩ dX5_sum_105 (fun H locs hw => ?_)
                  refine lv_if_eq (tgt := 115) hx hb dX5_sum_108 (by decide) (fun c_24 => ?_) (fun c_24 => ?_)
                  · have hf := (if_pos c_24).symm.trans hf
                    refine lv_iconst hx hb dX5_sum_115 ki_m1 ?_
                    exact R116 _ _ _ _ _ hw (lv_sub hl [0, 1] rfl) hf
                  · have hf := (if_neg c_24).symm.trans hf
                    refine lv_iconst hx hb dX5_sum_111 ki_3 ?_
                    refine lv_goto (tgt := 116) hx hb dX5_sum_112 (by decide) ?_
                    exact R116 _ _ _ _ _ hw (lv_sub hl [0, 1] rfl) hf
                · have hf := (if_neg c_25).symm.trans hf
                  refine lv_iconst hx hb dX5_sum_98 ki_2 ?_
                  refine lv_goto (tgt := 116) hx hb dX5_sum_99 (by decide) ?_
                  exact R116 _ _ _ _ _ hw (lv_sub hl [0, 1] rfl) hf
              clear ej
              refine lv_icmp_eq (tgt := 89) hx hb dX5_sum_77 (by decide) (fun c_27 => ?_) (fun c_27 => ?_)
              · have hf := (if_pos c_27).symm.trans hf
                exact R89 _ _ _ _ hw (lv_sub hl [0, 2] rfl) hf
              · have hf := (if_neg c_27).symm.trans hf
                refine lv_aload_n hx hb dX5_sum_80 rfl (lv_at hl 0 rfl) ?_
                refine gF G hw h0 KX5 3 (k2 := (k0 + 6)) rfl (by decide) rfl fl_X5_25 dX5_sum_81 ?_
                refine lv_iload_n hx hb dX5_sum_84 rfl (lv_at hl 1 rfl) ?_
                refine lv_iconst hx hb dX5_sum_85 ki_0 ?_
                obtain ⟨S_26, hS_26, hf⟩ := bB_e hf
                refine kVv (rest := []) G hw (wX3_put hZ S_14 (k0 + 6) l1_4 0 S_26 (sub_Reader_law hZ h0) hS_26) cw_X5_95 (sub_Reader_law hZ h0) KX3 ⟨Nat.le_of_ble_eq_true rfl, Nat.le_of_ble_eq_true rfl⟩ rfl hl.1 rfl (Nat.le_of_ble_eq_true rfl) ⟨Nat.le_refl _, Nat.le_refl _⟩ dX5_sum_86 (fun H locs hw => ?_)
                exact R89 _ _ _ _ hw (lv_sub hl [0, 2] rfl) hf
            · have hf := (if_neg c_31).symm.trans hf
              refine lv_aload_n hx hb dX5_sum_56 rfl (lv_at hl 0 rfl) ?_
              refine gF G hw h0 KX5 3 (k2 := (k0 + 6)) rfl (by decide) rfl fl_X5_25 dX5_sum_57 ?_
              refine lv_iconst hx hb dX5_sum_60 ki_5 ?_
              refine lv_aload_n hx hb dX5_sum_61 rfl (lv_at hl 0 rfl) ?_
              refine lv_iconst hx hb dX5_sum_62 ki_1 ?_
              refine lv_sipush hx hb dX5_sum_63 ks_9999 ?_
              obtain ⟨r_28, S_29, hr_28, hf⟩ := bB2_e hf
              refine kVi (rest := [.int 5, .ref (za Z (k0 + 6))]) G hw (wX5_number hZ S_14 k0 1 9999 r_28 S_29 h0 hr_28) cw_X5_109 h0 KX5 ⟨Nat.le_of_ble_eq_true rfl, Nat.le_of_ble_eq_true rfl⟩ rfl hl.1 rfl (Nat.le_of_ble_eq_true rfl) ⟨Nat.le_refl _, Nat.le_refl _⟩ dX5_sum_66 (fun H locs hw => ?_)
              obtain ⟨S_30, hS_30, hf⟩ := bB_e hf
              refine kVv (rest := []) G hw (wX3_put hZ S_29 (k0 + 6) 5 r_28 S_30 (sub_Reader_law hZ h0) hS_30) cw_X5_95 (sub_Reader_law hZ h0) KX3 ⟨Nat.le_of_ble_eq_true rfl, Nat.le_of_ble_eq_true rfl⟩ rfl hl.1 rfl (Nat.le_of_ble_eq_true rfl) ⟨Nat.le_refl _, Nat.le_refl _⟩ dX5_sum_69 (fun H locs hw => ?_)
              refine lv_goto (tgt := 127) hx hb dX5_sum_72 (by decide) ?_
              exact R127 _ _ _ _ _ hw (lv_sub hl [0, 1, 2] rfl) hf
          · have hf := (if_neg c_34).symm.trans hf
            refine lv_aload_n hx hb dX5_sum_31 rfl (lv_at hl 0 rfl) ?_
            obtain ⟨S_32, hS_32, hf⟩ := bB_e hf
            refine kVv (rest := []) G hw (wX5_operand hZ S_9 k0 S_32 h0 hS_32) cw_X5_106 h0 KX5 ⟨Nat.le_of_ble_eq_true rfl, Nat.le_of_ble_eq_true rfl⟩ rfl hl.1 rfl (Nat.le_of_ble_eq_true rfl) ⟨Nat.le_refl _, Nat.le_refl _⟩ dX5_sum_32 (fun H locs hw => ?_)
            refine lv_aload_n hx hb dX5_sum_35 rfl (lv_at hl 0 rfl) ?_
            refine gF G hw h0 KX5 3 (k2 := (k0 + 6)) rfl (by decide) rfl fl_X5_25 dX5_sum_36 ?_
            refine lv_iconst hx hb dX5_sum_39 ki_4 ?_
            refine lv_iconst hx hb dX5_sum_40 ki_0 ?_
            obtain ⟨S_33, hS_33, hf⟩ := bB_e hf
            refine kVv (rest := []) G hw (wX3_put hZ S_32 (k0 + 6) 4 0 S_33 (sub_Reader_law hZ h0) hS_33) cw_X5_95 (sub_Reader_law hZ h0) KX3 ⟨Nat.le_of_ble_eq_true rfl, Nat.le_of_ble_eq_true rfl⟩ rfl hl.1 rfl (Nat.le_of_ble_eq_true rfl) ⟨Nat.le_refl _, Nat.le_refl _⟩ dX5_sum_41 (fun H locs hw => ?_)
            refine lv_goto (tgt := 127) hx hb dX5_sum_44 (by decide) ?_
            exact R127 _ _ _ _ _ hw (lv_sub hl [0, 1, 2] rfl) hf
  clear eb
  obtain ⟨z, hz, hf⟩ := bB_e hf
  obtain ⟨n, hz⟩ := bP_e hz
  exact RL8 n z hf _ _ _ _ _ _ hw (lv_sub hl [2, 1, 0] rfl) hz
noncomputable def B5_single (rc_anyOf : pS → Nat → Int32 → Option (pS)) (rc_single : pS → Nat → Int32 → Option (pS)) (S : pS) (k0 : Nat) (a1 : Int32) : Option (pS) :=
  bL (fun (_ : Unit) =>
    if a1 < 8 then
      bB2 (F5_taken S k0 259) fun r_1 S_2 =>
      if r_1 = 0 then
        bB (F5_take S_2 k0 40) fun S_3 =>
        bB (rc_anyOf S_3 k0 (a1 + 1)) fun S_4 =>
        bB (F5_take S_4 k0 41) fun S_5 =>
        some S_5
      else
        bB (rc_single S_2 k0 (a1 + 1)) fun S_6 =>
        bB (F3_put S_6 (k0 + 6) 9 0) fun S_7 =>
        some S_7
    else
      bL (F5_fail S k0 3) fun S_9 =>
      some S_9) fun j50 =>
  if (S (k0 + 1) 1) = 259 then
    j50 ()
  else
    if (S (k0 + 1) 1) = 40 then
      j50 ()
    else
      bB (F5_sum S k0) fun S_11 =>
      bB2 (F5_comparing S_11 k0) fun r_12 S_13 =>
      bB (F5_sum S_13 k0) fun S_14 =>
      bB (F3_put S_14 (k0 + 6) r_12 0) fun S_15 =>
      some S_15
noncomputable def B5_allOf (rc_single : pS → Nat → Int32 → Option (pS)) (S : pS) (k0 : Nat) (a1 : Int32) : Option (pS) :=
  bB (rc_single S k0 a1) fun S_1 =>
  bL (fun (S_2 : pS) =>
    some S_2) fun g45_7 =>
  bL (u2 fun (l2_3 : Int32) (S_4 : pS) =>
    if 400 ≤ l2_3 then
      some (.inr S_4)
    else
      bB2 (F5_taken S_4 k0 258) fun r_6 S_7 =>
      if r_6 = 0 then
        some (.inr S_7)
      else
        bB (rc_single S_7 k0 a1) fun S_8 =>
        bB (F3_put S_8 (k0 + 6) 10 0) fun S_9 =>
        bL (l2_3 + 1) fun l2_10 =>
        some (.inl (l2_10, S_9))) fun b7 =>
  bB (bP b7 ((0 : Int32), S_1)) (u1 g45_7)
noncomputable def B5_anyOf (rc_allOf : pS → Nat → Int32 → Option (pS)) (S : pS) (k0 : Nat) (a1 : Int32) : Option (pS) :=
  bB (rc_allOf S k0 a1) fun S_1 =>
  bL (fun (S_2 : pS) =>
    some S_2) fun g45_7 =>
  bL (u2 fun (l2_3 : Int32) (S_4 : pS) =>
    if 400 ≤ l2_3 then
      some (.inr S_4)
    else
      bB2 (F5_taken S_4 k0 257) fun r_6 S_7 =>
      if r_6 = 0 then
        some (.inr S_7)
      else
        bB (rc_allOf S_7 k0 a1) fun S_8 =>
        bB (F3_put S_8 (k0 + 6) 11 0) fun S_9 =>
        bL (l2_3 + 1) fun l2_10 =>
        some (.inl (l2_10, S_9))) fun b7 =>
  bB (bP b7 ((0 : Int32), S_1)) (u1 g45_7)
noncomputable def T5_single : Nat → (pS → Nat → Int32 → Option (pS)) × (pS → Nat → Int32 → Option (pS)) × (pS → Nat → Int32 → Option (pS))
  | 0 => (fun _ _ _ => none, fun _ _ _ => none, fun _ _ _ => none)
  | d + 1 => (B5_single ((T5_single d).2.2) ((T5_single d).1), B5_allOf ((T5_single d).1), B5_anyOf ((T5_single d).2.1))
noncomputable def F5_single (S : pS) (k0 : Nat) (a1 : Int32) : Option (pS) := (T5_single 40).1 S k0 a1
noncomputable def F5_allOf (S : pS) (k0 : Nat) (a1 : Int32) : Option (pS) := (T5_single 40).2.1 S k0 a1
noncomputable def F5_anyOf (S : pS) (k0 : Nat) (a1 : Int32) : Option (pS) := (T5_single 40).2.2 S k0 a1
set_option maxRecDepth 100000 in
set_option maxHeartbeats 4000000 in
theorem wBX5_single {l : Launch} {Z : pZ} {fr lo : Nat} (hfr : 6 ≤ fr) (hlo : 126 ≤ lo) {rc_anyOf : pS → Nat → Int32 → Option (pS)} {rc_single : pS → Nat → Int32 → Option (pS)} (hr_anyOf : ∀ (S : pS) (k0 : Nat) (a1 : Int32) (S2 : pS), isA Z K_Reader k0 → rc_anyOf S k0 a1 = some S2 → CV l Z yX5_anyOf cX5_anyOf 3 fr lo [.ref (za Z k0), .int a1] S S2) (hr_single : ∀ (S : pS) (k0 : Nat) (a1 : Int32) (S2 : pS), isA Z K_Reader k0 → rc_single S k0 a1 = some S2 → CV l Z yX5_single cX5_single 3 fr lo [.ref (za Z k0), .int a1] S S2) (hZ : CC Z) (S : pS) (k0 : Nat) (a1 : Int32) (S2 : pS) (h0 : isA Z K_Reader k0) (hf : B5_single rc_anyOf rc_single S k0 a1 = some S2) : CV l Z yX5_single cX5_single 3 (fr + 1) (lo + 60) [.ref (za Z k0), .int a1] S S2 := by
  unfold B5_single at hf
  refine eV (own := RX5) (by decide) rfl (Nat.le_of_ble_eq_true rfl) (fun p e s m args below meth c Q ls G hl hw hret => ?_)
  obtain ⟨hx, hb, hml, hown, hts⟩ := G.1
  have hl : lv_has ls 3 [(0, .ref (za Z k0)), (1, .int a1)] := hl
  refine lv_aload_n hx hb dX5_single_0 rfl (lv_at hl 0 rfl) ?_
  refine gF G hw h0 KX5 0 (k2 := (k0 + 1)) rfl (by decide) rfl fl_X5_12 dX5_single_1 ?_
  refine gI G hw (sub_Reader_tape hZ h0) KX6 1 (by decide) rfl fl_X5_47 dX5_single_4 ?_
  refine lv_sipush hx hb dX5_single_7 ks_259 ?_
  obtain ⟨j50, ej, hf⟩ := bL_e hf
  have R50 : ∀ (H : Heap) (locs : List Loc) (ls : Array Slot), Wd Z s S H locs → lv_has ls 3 [(0, .ref (za Z k0)), (1, .int a1)] → j50 () = some S2 → W p l e { frames := (fr + 1), cells := 0, slots := 0, locals := (lo + 60) } s m args below meth c H locs 0 0 Q (F0 m 50 ls []) := by
    intro  H locs ls hw hl hf
    have hf := (congrFun ej ()).symm.trans hf
    refine lv_iload_n hx hb dX5_single_50 rfl (lv_at hl 1 rfl) ?_
    refine lv_bipush hx hb dX5_single_51 kb_8 ?_
    refine lv_icmp_lt (tgt := 64) hx hb dX5_single_53 (by decide) (fun c_10 => ?_) (fun c_10 => ?_)
    · have hf := (if_pos c_10).symm.trans hf
      refine lv_aload_n hx hb dX5_single_64 rfl (lv_at hl 0 rfl) ?_
      refine lv_sipush hx hb dX5_single_65 ks_259 ?_
      obtain ⟨r_1, S_2, hr_1, hf⟩ := bB2_e hf
      refine kVi (rest := []) G hw (wX5_taken hZ S k0 259 r_1 S_2 h0 hr_1) cw_X5_79 h0 KX5 ⟨by dsimp only; omega, by dsimp only; omega⟩ rfl hl.1 rfl (Nat.le_of_ble_eq_true rfl) ⟨Nat.le_refl _, Nat.le_refl _⟩ dX5_single_68 (fun H locs hw => ?_)
      refine lv_if_eq (tgt := 94) hx hb dX5_single_71 (by decide) (fun c_8 => ?_) (fun c_8 => ?_)
      · have hf := (if_pos c_8).symm.trans hf
        refine lv_aload_n hx hb dX5_single_94 rfl (lv_at hl 0 rfl) ?_
        refine lv_bipush hx hb dX5_single_95 kb_40 ?_
        obtain ⟨S_3, hS_3, hf⟩ := bB_e hf
        refine kVv (rest := []) G hw (wX5_take hZ S_2 k0 40 S_3 h0 hS_3) cw_X5_86 h0 KX5 ⟨by dsimp only; omega, by dsimp only; omega⟩ rfl hl.1 rfl (Nat.le_of_ble_eq_true rfl) ⟨Nat.le_refl _, Nat.le_refl _⟩ dX5_single_97 (fun H locs hw => ?_)
        refine lv_aload_n hx hb dX5_single_100 rfl (lv_at hl 0 rfl) ?_
        refine lv_iload_n hx hb dX5_single_101 rfl (lv_at hl 1 rfl) ?_
        refine lv_iconst hx hb dX5_single_102 ki_1 ?_
        refine lv_iadd hx hb dX5_single_103 ?_
        obtain ⟨S_4, hS_4, hf⟩ := bB_e hf
        refine kVv (rest := []) G hw (hr_anyOf S_3 k0 (a1 + 1) S_4 h0 hS_4) cw_X5_83 h0 KX5 ⟨by dsimp only; omega, by dsimp only; omega⟩ rfl hl.1 rfl (Nat.le_of_ble_eq_true rfl) ⟨Nat.le_refl _, Nat.le_refl _⟩ dX5_single_104 (fun H locs hw => ?_)
        refine lv_aload_n hx hb dX5_single_107 rfl (lv_at hl 0 rfl) ?_
        refine lv_bipush hx hb dX5_single_108 kb_41 ?_
        obtain ⟨S_5, hS_5, hf⟩ := bB_e hf
        refine kVv (rest := []) G hw (wX5_take hZ S_4 k0 41 S_5 h0 hS_5) cw_X5_86 h0 KX5 ⟨by dsimp only; omega, by dsimp only; omega⟩ rfl hl.1 rfl (Nat.le_of_ble_eq_true rfl) ⟨Nat.le_refl _, Nat.le_refl _⟩ dX5_single_110 (fun H locs hw => ?_)
        exact hret _ _ _ _ dX5_single_113 (by rw [← (Option.some.inj hf)]; exact hw)
      · have hf := (if_neg c_8).symm.trans hf
        refine lv_aload_n hx hb dX5_single_74 rfl (lv_at hl 0 rfl) ?_
        refine lv_iload_n hx hb dX5_single_75 rfl (lv_at hl 1 rfl) ?_
        refine lv_iconst hx hb dX5_single_76 ki_1 ?_
        refine lv_iadd hx hb dX5_single_77 ?_
        obtain ⟨S_6, hS_6, hf⟩ := bB_e hf
        refine kVv (rest := []) G hw (hr_single S_2 k0 (a1 + 1) S_6 h0 hS_6) cw_X5_99 h0 KX5 ⟨by dsimp only; omega, by dsimp only; omega⟩ rfl hl.1 rfl (Nat.le_of_ble_eq_true rfl) ⟨Nat.le_refl _, Nat.le_refl _⟩ dX5_single_78 (fun H locs hw => ?_)
        refine lv_aload_n hx hb dX5_single_81 rfl (lv_at hl 0 rfl) ?_
        refine gF G hw h0 KX5 3 (k2 := (k0 + 6)) rfl (by decide) rfl fl_X5_25 dX5_single_82 ?_
        refine lv_bipush hx hb dX5_single_85 kb_9 ?_
        refine lv_iconst hx hb dX5_single_87 ki_0 ?_
        obtain ⟨S_7, hS_7, hf⟩ := bB_e hf
        refine kVv (rest := []) G hw (wX3_put hZ S_6 (k0 + 6) 9 0 S_7 (sub_Reader_law hZ h0) hS_7) cw_X5_95 (sub_Reader_law hZ h0) KX3 ⟨by dsimp only; omega, by dsimp only; omega⟩ rfl hl.1 rfl (Nat.le_of_ble_eq_true rfl) ⟨Nat.le_refl _, Nat.le_refl _⟩ dX5_single_88 (fun H locs hw => ?_)
        refine lv_goto (tgt := 113) hx hb dX5_single_91 (by decide) ?_
        exact hret _ _ _ _ dX5_single_113 (by rw [← (Option.some.inj hf)]; exact hw)
    · have hf := (if_neg c_10).symm.trans hf
      refine lv_aload_n hx hb dX5_single_56 rfl (lv_at hl 0 rfl) ?_
      refine lv_iconst hx hb dX5_single_57 ki_3 ?_
      obtain ⟨S_9, hS_9, hf⟩ := bL_e hf
      refine kVv (rest := []) G hw (wX5_fail hZ S k0 3 S_9 h0 hS_9.symm) cw_X5_53 h0 KX5 ⟨by dsimp only; omega, by dsimp only; omega⟩ rfl hl.1 rfl (Nat.le_of_ble_eq_true rfl) ⟨Nat.le_refl _, Nat.le_refl _⟩ dX5_single_58 (fun H locs hw => ?_)
      refine lv_goto (tgt := 113) hx hb dX5_single_61 (by decide) ?_
      exact hret _ _ _ _ dX5_single_113 (by rw [← (Option.some.inj hf)]; exact hw)
  clear ej
  refine lv_icmp_eq (tgt := 50) hx hb dX5_single_10 (by decide) (fun c_17 => ?_) (fun c_17 => ?_)
  · have hf := (if_pos c_17).symm.trans hf
    exact R50 _ _ _ hw (lv_sub hl [0, 1] rfl) hf
  · have hf := (if_neg c_17).symm.trans hf
    refine lv_aload_n hx hb dX5_single_13 rfl (lv_at hl 0 rfl) ?_
    refine gF G hw h0 KX5 0 (k2 := (k0 + 1)) rfl (by decide) rfl fl_X5_12 dX5_single_14 ?_
    refine gI G hw (sub_Reader_tape hZ h0) KX6 1 (by decide) rfl fl_X5_47 dX5_single_17 ?_
    refine lv_bipush hx hb dX5_single_20 kb_40 ?_
    refine lv_icmp_eq (tgt := 50) hx hb dX5_single_22 (by decide) (fun c_16 => ?_) (fun c_16 => ?_)
    · have hf := (if_pos c_16).symm.trans hf
      exact R50 _ _ _ hw (lv_sub hl [0, 1] rfl) hf
    · have hf := (if_neg c_16).symm.trans hf
      refine lv_aload_n hx hb dX5_single_25 rfl (lv_at hl 0 rfl) ?_
      obtain ⟨S_11, hS_11, hf⟩ := bB_e hf
      refine kVv (rest := []) G hw (wX5_sum hZ S k0 S_11 h0 hS_11) cw_X5_73 h0 KX5 ⟨by dsimp only; omega, by dsimp only; omega⟩ rfl hl.1 rfl (Nat.le_of_ble_eq_true rfl) ⟨Nat.le_refl _, Nat.le_refl _⟩ dX5_single_26 (fun H locs hw => ?_)
      refine lv_aload_n hx hb dX5_single_29 rfl (lv_at hl 0 rfl) ?_
      obtain ⟨r_12, S_13, hr_12, hf⟩ := bB2_e hf
      refine kVi (rest := []) G hw (wX5_comparing hZ S_11 k0 r_12 S_13 h0 hr_12) cw_X5_102 h0 KX5 ⟨by dsimp only; omega, by dsimp only; omega⟩ rfl hl.1 rfl (Nat.le_of_ble_eq_true rfl) ⟨Nat.le_refl _, Nat.le_refl _⟩ dX5_single_30 (fun H locs hw => ?_)
      refine lv_istore_n (lv' := [(2, .int r_12), (0, .ref (za Z k0)), (1, .int a1)]) hx hb dX5_single_33 rfl hl (by decide) rfl (fun ls hl => ?_)
      refine lv_aload_n hx hb dX5_single_34 rfl (lv_at hl 1 rfl) ?_
      obtain ⟨S_14, hS_14, hf⟩ := bB_e hf
      refine kVv (rest := []) G hw (wX5_sum hZ S_13 k0 S_14 h0 hS_14) cw_X5_73 h0 KX5 ⟨by dsimp only; omega, by dsimp only; omega⟩ rfl hl.1 rfl (Nat.le_of_ble_eq_true rfl) ⟨Nat.le_refl _, Nat.le_refl _⟩ dX5_single_35 (fun H locs hw => ?_)
      refine lv_aload_n hx hb dX5_single_38 rfl (lv_at hl 1 rfl) ?_
      refine gF G hw h0 KX5 3 (k2 := (k0 + 6)) rfl (by decide) rfl fl_X5_25 dX5_single_39 ?_
      refine lv_iload_n hx hb dX5_single_42 rfl (lv_at hl 0 rfl) ?_
      refine lv_iconst hx hb dX5_single_43 ki_0 ?_
      obtain ⟨S_15, hS_15, hf⟩ := bB_e hf
      refine kVv (rest := []) G hw (wX3_put hZ S_14 (k0 + 6) r_12 0 S_15 (sub_Reader_law hZ h0) hS_15) cw_X5_95 (sub_Reader_law hZ h0) KX3 ⟨by dsimp only; omega, by dsimp only; omega⟩ rfl hl.1 rfl (Nat.le_of_ble_eq_true rfl) ⟨Nat.le_refl _, Nat.le_refl _⟩ dX5_single_44 (fun H locs hw => ?_)
      refine lv_goto (tgt := 113) hx hb dX5_single_47 (by decide) ?_
      exact hret _ _ _ _ dX5_single_113 (by rw [← (Option.some.inj hf)]; exact hw)
set_option maxRecDepth 100000 in
set_option maxHeartbeats 4000000 in
theorem wBX5_allOf {l : Launch} {Z : pZ} {fr lo : Nat} (hfr : 5 ≤ fr) (hlo : 101 ≤ lo) {rc_single : pS → Nat → Int32 → Option (pS)} (hr_single : ∀ (S : pS) (k0 : Nat) (a1 : Int32) (S2 : pS), isA Z K_Reader k0 → rc_single S k0 a1 = some S2 → CV l Z yX5_single cX5_single 3 fr lo [.ref (za Z k0), .int a1] S S2) (hZ : CC Z) (S : pS) (k0 : Nat) (a1 : Int32) (S2 : pS) (h0 : isA Z K_Reader k0) (hf : B5_allOf rc_single S k0 a1 = some S2) : CV l Z yX5_allOf cX5_allOf 3 (fr + 1) (lo + 60) [.ref (za Z k0), .int a1] S S2 := by
  unfold B5_allOf at hf
  refine eV (own := RX5) (by decide) rfl (Nat.le_of_ble_eq_true rfl) (fun p e s m args below meth c Q ls G hl hw hret => ?_)
  obtain ⟨hx, hb, hml, hown, hts⟩ := G.1
  have hl : lv_has ls 3 [(0, .ref (za Z k0)), (1, .int a1)] := hl
  refine lv_aload_n hx hb dX5_allOf_0 rfl (lv_at hl 0 rfl) ?_
  refine lv_iload_n hx hb dX5_allOf_1 rfl (lv_at hl 1 rfl) ?_
  obtain ⟨S_1, hS_1, hf⟩ := bB_e hf
  refine kVv (rest := []) G hw (hr_single S k0 a1 S_1 h0 hS_1) cw_X5_99 h0 KX5 ⟨by dsimp only; omega, by dsimp only; omega⟩ rfl hl.1 rfl (Nat.le_of_ble_eq_true rfl) ⟨Nat.le_refl _, Nat.le_refl _⟩ dX5_allOf_2 (fun H locs hw => ?_)
  refine lv_iconst hx hb dX5_allOf_5 ki_0 ?_
  refine lv_istore_n (lv' := [(2, .int 0), (0, .ref (za Z k0)), (1, .int a1)]) hx hb dX5_allOf_6 rfl hl (by decide) rfl (fun ls hl => ?_)
  obtain ⟨g45_7, ej, hf⟩ := bL_e hf
  have R45_7 : ∀ (S_2 : pS) (H : Heap) (locs : List Loc) (ls : Array Slot), Wd Z s S_2 H locs → lv_has ls 3 [] → g45_7 S_2 = some S2 → W p l e { frames := (fr + 1), cells := 0, slots := 0, locals := (lo + 60) } s m args below meth c H locs 0 0 Q (F0 m 45 ls []) := by
    intro S_2 H locs ls hw hl hf
    have hf := (congrFun ej S_2).symm.trans hf
    exact hret _ _ _ _ dX5_allOf_45 (by rw [← (Option.some.inj hf)]; exact hw)
  clear ej
  obtain ⟨b7, eb, hf⟩ := bL_e hf
  have RL7 : ∀ (n : Nat) z, (u1 g45_7) z = some S2 → ∀ (l2_3 : Int32) (S_4 : pS) (H : Heap) (locs : List Loc) (ls : Array Slot), Wd Z s S_4 H locs → lv_has ls 3 [(0, .ref (za Z k0)), (1, .int a1), (2, .int l2_3)] → bPn b7 n (l2_3, S_4) = some z → W p l e { frames := (fr + 1), cells := 0, slots := 0, locals := (lo + 60) } s m args below meth c H locs 0 0 Q (F0 m 7 ls []) := by
    intro n
    induction n with
    | zero =>
      intro z hg l2_3 S_4 H locs ls hw hl hz
      exact bPn_0 hz
    | succ n ih =>
      intro z hg l2_3 S_4 H locs ls hw hl hz
      obtain ⟨q_5, hf, hz⟩ := bPn_e hz
      have hf := u2_e ((congrFun eb _).symm.trans hf)
      refine lv_iload_n hx hb dX5_allOf_7 rfl (lv_at hl 2 rfl) ?_
      refine lv_sipush hx hb dX5_allOf_8 ks_400 ?_
      refine lv_icmp_ge (tgt := 45) hx hb dX5_allOf_11 (by decide) (fun c_12 => ?_) (fun c_12 => ?_)
      · have hf := (if_pos c_12).symm.trans hf
        obtain rfl := Option.some.inj hf
        obtain rfl := Option.some.inj (hz : some _ = some _)
        exact R45_7 _ _ _ _ hw (lv_sub hl [] rfl) hg
      · have hf := (if_neg c_12).symm.trans hf
        refine lv_aload_n hx hb dX5_allOf_14 rfl (lv_at hl 0 rfl) ?_
        refine lv_sipush hx hb dX5_allOf_15 ks_258 ?_
        obtain ⟨r_6, S_7, hr_6, hf⟩ := bB2_e hf
        refine kVi (rest := []) G hw (wX5_taken hZ S_4 k0 258 r_6 S_7 h0 hr_6) cw_X5_79 h0 KX5 ⟨by dsimp only; omega, by dsimp only; omega⟩ rfl hl.1 rfl (Nat.le_of_ble_eq_true rfl) ⟨Nat.le_refl _, Nat.le_refl _⟩ dX5_allOf_18 (fun H locs hw => ?_)
        refine lv_if_eq (tgt := 45) hx hb dX5_allOf_21 (by decide) (fun c_11 => ?_) (fun c_11 => ?_)
        · have hf := (if_pos c_11).symm.trans hf
          obtain rfl := Option.some.inj hf
          obtain rfl := Option.some.inj (hz : some _ = some _)
          exact R45_7 _ _ _ _ hw (lv_sub hl [] rfl) hg
        · have hf := (if_neg c_11).symm.trans hf
          refine lv_aload_n hx hb dX5_allOf_24 rfl (lv_at hl 0 rfl) ?_
          refine lv_iload_n hx hb dX5_allOf_25 rfl (lv_at hl 1 rfl) ?_
          obtain ⟨S_8, hS_8, hf⟩ := bB_e hf
          refine kVv (rest := []) G hw (hr_single S_7 k0 a1 S_8 h0 hS_8) cw_X5_99 h0 KX5 ⟨by dsimp only; omega, by dsimp only; omega⟩ rfl hl.1 rfl (Nat.le_of_ble_eq_true rfl) ⟨Nat.le_refl _, Nat.le_refl _⟩ dX5_allOf_26 (fun H locs hw => ?_)
          refine lv_aload_n hx hb dX5_allOf_29 rfl (lv_at hl 0 rfl) ?_
          refine gF G hw h0 KX5 3 (k2 := (k0 + 6)) rfl (by decide) rfl fl_X5_25 dX5_allOf_30 ?_
          refine lv_bipush hx hb dX5_allOf_33 kb_10 ?_
          refine lv_iconst hx hb dX5_allOf_35 ki_0 ?_
          obtain ⟨S_9, hS_9, hf⟩ := bB_e hf
          refine kVv (rest := []) G hw (wX3_put hZ S_8 (k0 + 6) 10 0 S_9 (sub_Reader_law hZ h0) hS_9) cw_X5_95 (sub_Reader_law hZ h0) KX3 ⟨by dsimp only; omega, by dsimp only; omega⟩ rfl hl.1 rfl (Nat.le_of_ble_eq_true rfl) ⟨Nat.le_refl _, Nat.le_refl _⟩ dX5_allOf_36 (fun H locs hw => ?_)
          obtain ⟨l2_10, el2_10, hf⟩ := bL_e hf
          refine lv_iinc (v := l2_10) (lv' := [(2, .int l2_10), (0, .ref (za Z k0)), (1, .int a1)]) hx hb dX5_allOf_39 hl (k := 2) rfl (by rw [el2_10]; rfl) (by decide) rfl (fun ls hl => ?_)
          refine lv_goto (tgt := 7) hx hb dX5_allOf_42 (by decide) ?_
          obtain rfl := Option.some.inj hf
          exact ih _ hg _ _ _ _ _ hw (lv_sub hl [1, 2, 0] rfl) hz
  clear eb
  obtain ⟨z, hz, hf⟩ := bB_e hf
  obtain ⟨n, hz⟩ := bP_e hz
  exact RL7 n z hf _ _ _ _ _ hw (lv_sub hl [1, 2, 0] rfl) hz
set_option maxRecDepth 100000 in
set_option maxHeartbeats 4000000 in
theorem wBX5_anyOf {l : Launch} {Z : pZ} {fr lo : Nat} (hfr : 5 ≤ fr) (hlo : 101 ≤ lo) {rc_allOf : pS → Nat → Int32 → Option (pS)} (hr_allOf : ∀ (S : pS) (k0 : Nat) (a1 : Int32) (S2 : pS), isA Z K_Reader k0 → rc_allOf S k0 a1 = some S2 → CV l Z yX5_allOf cX5_allOf 3 fr lo [.ref (za Z k0), .int a1] S S2) (hZ : CC Z) (S : pS) (k0 : Nat) (a1 : Int32) (S2 : pS) (h0 : isA Z K_Reader k0) (hf : B5_anyOf rc_allOf S k0 a1 = some S2) : CV l Z yX5_anyOf cX5_anyOf 3 (fr + 1) (lo + 60) [.ref (za Z k0), .int a1] S S2 := by
  unfold B5_anyOf at hf
  refine eV (own := RX5) (by decide) rfl (Nat.le_of_ble_eq_true rfl) (fun p e s m args below meth c Q ls G hl hw hret => ?_)
  obtain ⟨hx, hb, hml, hown, hts⟩ := G.1
  have hl : lv_has ls 3 [(0, .ref (za Z k0)), (1, .int a1)] := hl
  refine lv_aload_n hx hb dX5_anyOf_0 rfl (lv_at hl 0 rfl) ?_
  refine lv_iload_n hx hb dX5_anyOf_1 rfl (lv_at hl 1 rfl) ?_
  obtain ⟨S_1, hS_1, hf⟩ := bB_e hf
  refine kVv (rest := []) G hw (hr_allOf S k0 a1 S_1 h0 hS_1) cw_X5_92 h0 KX5 ⟨by dsimp only; omega, by dsimp only; omega⟩ rfl hl.1 rfl (Nat.le_of_ble_eq_true rfl) ⟨Nat.le_refl _, Nat.le_refl _⟩ dX5_anyOf_2 (fun H locs hw => ?_)
  refine lv_iconst hx hb dX5_anyOf_5 ki_0 ?_
  refine lv_istore_n (lv' := [(2, .int 0), (0, .ref (za Z k0)), (1, .int a1)]) hx hb dX5_anyOf_6 rfl hl (by decide) rfl (fun ls hl => ?_)
  obtain ⟨g45_7, ej, hf⟩ := bL_e hf
  have R45_7 : ∀ (S_2 : pS) (H : Heap) (locs : List Loc) (ls : Array Slot), Wd Z s S_2 H locs → lv_has ls 3 [] → g45_7 S_2 = some S2 → W p l e { frames := (fr + 1), cells := 0, slots := 0, locals := (lo + 60) } s m args below meth c H locs 0 0 Q (F0 m 45 ls []) := by
    intro S_2 H locs ls hw hl hf
    have hf := (congrFun ej S_2).symm.trans hf
    exact hret _ _ _ _ dX5_anyOf_45 (by rw [← (Option.some.inj hf)]; exact hw)
  clear ej
  obtain ⟨b7, eb, hf⟩ := bL_e hf
  have RL7 : ∀ (n : Nat) z, (u1 g45_7) z = some S2 → ∀ (l2_3 : Int32) (S_4 : pS) (H : Heap) (locs : List Loc) (ls : Array Slot), Wd Z s S_4 H locs → lv_has ls 3 [(0, .ref (za Z k0)), (1, .int a1), (2, .int l2_3)] → bPn b7 n (l2_3, S_4) = some z → W p l e { frames := (fr + 1), cells := 0, slots := 0, locals := (lo + 60) } s m args below meth c H locs 0 0 Q (F0 m 7 ls []) := by
    intro n
    induction n with
    | zero =>
      intro z hg l2_3 S_4 H locs ls hw hl hz
      exact bPn_0 hz
    | succ n ih =>
      intro z hg l2_3 S_4 H locs ls hw hl hz
      obtain ⟨q_5, hf, hz⟩ := bPn_e hz
      have hf := u2_e ((congrFun eb _).symm.trans hf)
      refine lv_iload_n hx hb dX5_anyOf_7 rfl (lv_at hl 2 rfl) ?_
      refine lv_sipush hx hb dX5_anyOf_8 ks_400 ?_
      refine lv_icmp_ge (tgt := 45) hx hb dX5_anyOf_11 (by decide) (fun c_12 => ?_) (fun c_12 => ?_)
      · have hf := (if_pos c_12).symm.trans hf
        obtain rfl := Option.some.inj hf
        obtain rfl := Option.some.inj (hz : some _ = some _)
        exact R45_7 _ _ _ _ hw (lv_sub hl [] rfl) hg
      · have hf := (if_neg c_12).symm.trans hf
        refine lv_aload_n hx hb dX5_anyOf_14 rfl (lv_at hl 0 rfl) ?_
        refine lv_sipush hx hb dX5_anyOf_15 ks_257 ?_
        obtain ⟨r_6, S_7, hr_6, hf⟩ := bB2_e hf
        refine kVi (rest := []) G hw (wX5_taken hZ S_4 k0 257 r_6 S_7 h0 hr_6) cw_X5_79 h0 KX5 ⟨by dsimp only; omega, by dsimp only; omega⟩ rfl hl.1 rfl (Nat.le_of_ble_eq_true rfl) ⟨Nat.le_refl _, Nat.le_refl _⟩ dX5_anyOf_18 (fun H locs hw => ?_)
        refine lv_if_eq (tgt := 45) hx hb dX5_anyOf_21 (by decide) (fun c_11 => ?_) (fun c_11 => ?_)
        · have hf := (if_pos c_11).symm.trans hf
          obtain rfl := Option.some.inj hf
          obtain rfl := Option.some.inj (hz : some _ = some _)
          exact R45_7 _ _ _ _ hw (lv_sub hl [] rfl) hg
        · have hf := (if_neg c_11).symm.trans hf
          refine lv_aload_n hx hb dX5_anyOf_24 rfl (lv_at hl 0 rfl) ?_
          refine lv_iload_n hx hb dX5_anyOf_25 rfl (lv_at hl 1 rfl) ?_
          obtain ⟨S_8, hS_8, hf⟩ := bB_e hf
          refine kVv (rest := []) G hw (hr_allOf S_7 k0 a1 S_8 h0 hS_8) cw_X5_92 h0 KX5 ⟨by dsimp only; omega, by dsimp only; omega⟩ rfl hl.1 rfl (Nat.le_of_ble_eq_true rfl) ⟨Nat.le_refl _, Nat.le_refl _⟩ dX5_anyOf_26 (fun H locs hw => ?_)
          refine lv_aload_n hx hb dX5_anyOf_29 rfl (lv_at hl 0 rfl) ?_
          refine gF G hw h0 KX5 3 (k2 := (k0 + 6)) rfl (by decide) rfl fl_X5_25 dX5_anyOf_30 ?_
          refine lv_bipush hx hb dX5_anyOf_33 kb_11 ?_
          refine lv_iconst hx hb dX5_anyOf_35 ki_0 ?_
          obtain ⟨S_9, hS_9, hf⟩ := bB_e hf
          refine kVv (rest := []) G hw (wX3_put hZ S_8 (k0 + 6) 11 0 S_9 (sub_Reader_law hZ h0) hS_9) cw_X5_95 (sub_Reader_law hZ h0) KX3 ⟨by dsimp only; omega, by dsimp only; omega⟩ rfl hl.1 rfl (Nat.le_of_ble_eq_true rfl) ⟨Nat.le_refl _, Nat.le_refl _⟩ dX5_anyOf_36 (fun H locs hw => ?_)
          obtain ⟨l2_10, el2_10, hf⟩ := bL_e hf
          refine lv_iinc (v := l2_10) (lv' := [(2, .int l2_10), (0, .ref (za Z k0)), (1, .int a1)]) hx hb dX5_anyOf_39 hl (k := 2) rfl (by rw [el2_10]; rfl) (by decide) rfl (fun ls hl => ?_)
          refine lv_goto (tgt := 7) hx hb dX5_anyOf_42 (by decide) ?_
          obtain rfl := Option.some.inj hf
          exact ih _ hg _ _ _ _ _ hw (lv_sub hl [1, 2, 0] rfl) hz
  clear eb
  obtain ⟨z, hz, hf⟩ := bB_e hf
  obtain ⟨n, hz⟩ := bP_e hz
  exact RL7 n z hf _ _ _ _ _ hw (lv_sub hl [1, 2, 0] rfl) hz
set_option maxHeartbeats 4000000 in
theorem tT5_single {l : Launch} {Z : pZ} (hZ : CC Z) : ∀ d : Nat, (∀ (S : pS) (k0 : Nat) (a1 : Int32) (S2 : pS), isA Z K_Reader k0 → (T5_single d).1 S k0 a1 = some S2 → CV l Z yX5_single cX5_single 3 (rF 6 d) (rL 126 d) [.ref (za Z k0), .int a1] S S2) ∧ (∀ (S : pS) (k0 : Nat) (a1 : Int32) (S2 : pS), isA Z K_Reader k0 → (T5_single d).2.1 S k0 a1 = some S2 → CV l Z yX5_allOf cX5_allOf 3 (rF 6 d) (rL 126 d) [.ref (za Z k0), .int a1] S S2) ∧ (∀ (S : pS) (k0 : Nat) (a1 : Int32) (S2 : pS), isA Z K_Reader k0 → (T5_single d).2.2 S k0 a1 = some S2 → CV l Z yX5_anyOf cX5_anyOf 3 (rF 6 d) (rL 126 d) [.ref (za Z k0), .int a1] S S2) := by
  intro d
  induction d with
  | zero => exact ⟨(fun _ _ _ _ _ h => (nomatch h)), (fun _ _ _ _ _ h => (nomatch h)), (fun _ _ _ _ _ h => (nomatch h))⟩
  | succ d ih => exact ⟨(fun S k0 a1 S2 h0 h => wBX5_single (hfr := Nat.le_trans (Nat.le_of_ble_eq_true rfl) (rF_le 6 d)) (hlo := Nat.le_trans (Nat.le_of_ble_eq_true rfl) (rL_le 126 d)) (hr_anyOf := (ih).2.2) (hr_single := (ih).1) hZ S k0 a1 S2 h0 h), (fun S k0 a1 S2 h0 h => wBX5_allOf (hfr := Nat.le_trans (Nat.le_of_ble_eq_true rfl) (rF_le 6 d)) (hlo := Nat.le_trans (Nat.le_of_ble_eq_true rfl) (rL_le 126 d)) (hr_single := (ih).1) hZ S k0 a1 S2 h0 h), (fun S k0 a1 S2 h0 h => wBX5_anyOf (hfr := Nat.le_trans (Nat.le_of_ble_eq_true rfl) (rF_le 6 d)) (hlo := Nat.le_trans (Nat.le_of_ble_eq_true rfl) (rL_le 126 d)) (hr_allOf := (ih).2.1) hZ S k0 a1 S2 h0 h)⟩
theorem wX5_single {l : Launch} {Z : pZ} (hZ : CC Z) (S : pS) (k0 : Nat) (a1 : Int32) (S2 : pS) (h0 : isA Z K_Reader k0) (hf : F5_single S k0 a1 = some S2) : CV l Z yX5_single cX5_single 3 46 2526 [.ref (za Z k0), .int a1] S S2 := (tT5_single hZ 40).1 S k0 a1 S2 h0 hf
theorem wX5_allOf {l : Launch} {Z : pZ} (hZ : CC Z) (S : pS) (k0 : Nat) (a1 : Int32) (S2 : pS) (h0 : isA Z K_Reader k0) (hf : F5_allOf S k0 a1 = some S2) : CV l Z yX5_allOf cX5_allOf 3 46 2526 [.ref (za Z k0), .int a1] S S2 := (tT5_single hZ 40).2.1 S k0 a1 S2 h0 hf
theorem wX5_anyOf {l : Launch} {Z : pZ} (hZ : CC Z) (S : pS) (k0 : Nat) (a1 : Int32) (S2 : pS) (h0 : isA Z K_Reader k0) (hf : F5_anyOf S k0 a1 = some S2) : CV l Z yX5_anyOf cX5_anyOf 3 46 2526 [.ref (za Z k0), .int a1] S S2 := (tT5_single hZ 40).2.2 S k0 a1 S2 h0 hf
noncomputable def F6_byteAt (S : pS) (k0 : Nat) (a1 : Int32) : Option (Int32) :=
  bL (fun (_ : Unit) =>
    some (0 : Int32)) fun j28 =>
  if a1 < 0 then
    j28 ()
  else
    if (S k0 0) ≤ a1 then
      j28 ()
    else
      if 400 ≤ a1 then
        j28 ()
      else
        bG (vp_in a1 400) <|
        some (S (k0 + 1) a1.toNatClampNeg)
set_option maxRecDepth 100000 in
set_option maxHeartbeats 4000000 in
theorem wX6_byteAt {l : Launch} {Z : pZ}  (hZ : CC Z) (S : pS) (k0 : Nat) (a1 : Int32) (r : Int32) (h0 : isA Z K_Tape k0) (hf : F6_byteAt S k0 a1 = some r) : CI l Z yX6_byteAt cX6_byteAt 2 .int 3 60 [.ref (za Z k0), .int a1] S r S := by
  unfold F6_byteAt at hf
  refine eI (own := RX6) (by decide) rfl (Nat.le_of_ble_eq_true rfl) (fun p e s m args below meth c Q ls G hl hw hret => ?_)
  obtain ⟨hx, hb, hml, hown, hts⟩ := G.1
  have hl : lv_has ls 2 [(0, .ref (za Z k0)), (1, .int a1)] := hl
  refine lv_iload_n hx hb dX6_byteAt_0 rfl (lv_at hl 1 rfl) ?_
  obtain ⟨j28, ej, hf⟩ := bL_e hf
  have R28 : ∀ (H : Heap) (locs : List Loc) (ls : Array Slot), Wd Z s S H locs → lv_has ls 2 [] → j28 () = some r → W p l e { frames := 3, cells := 0, slots := 0, locals := 60 } s m args below meth c H locs 0 0 Q (F0 m 28 ls []) := by
    intro  H locs ls hw hl hf
    have hf := (congrFun ej ()).symm.trans hf
    refine lv_iconst hx hb dX6_byteAt_28 ki_0 ?_
    exact hret _ _ _ _ _ dX6_byteAt_29 (Option.some.inj hf) hw
  clear ej
  refine lv_if_lt (tgt := 28) hx hb dX6_byteAt_1 (by decide) (fun c_4 => ?_) (fun c_4 => ?_)
  · have hf := (if_pos c_4).symm.trans hf
    exact R28 _ _ _ hw (lv_sub hl [] rfl) hf
  · have hf := (if_neg c_4).symm.trans hf
    refine lv_iload_n hx hb dX6_byteAt_4 rfl (lv_at hl 1 rfl) ?_
    refine lv_aload_n hx hb dX6_byteAt_5 rfl (lv_at hl 0 rfl) ?_
    refine gI G hw h0 KX6 0 (by decide) rfl fl_X6_25 dX6_byteAt_6 ?_
    refine lv_icmp_ge (tgt := 28) hx hb dX6_byteAt_9 (by decide) (fun c_3 => ?_) (fun c_3 => ?_)
    · have hf := (if_pos c_3).symm.trans hf
      exact R28 _ _ _ hw (lv_sub hl [] rfl) hf
    · have hf := (if_neg c_3).symm.trans hf
      refine lv_iload_n hx hb dX6_byteAt_12 rfl (lv_at hl 1 rfl) ?_
      refine lv_sipush hx hb dX6_byteAt_13 ks_400 ?_
      refine lv_icmp_ge (tgt := 28) hx hb dX6_byteAt_16 (by decide) (fun c_2 => ?_) (fun c_2 => ?_)
      · have hf := (if_pos c_2).symm.trans hf
        exact R28 _ _ _ hw (lv_sub hl [] rfl) hf
      · have hf := (if_neg c_2).symm.trans hf
        refine lv_aload_n hx hb dX6_byteAt_19 rfl (lv_at hl 0 rfl) ?_
        refine gF G hw h0 KX6 4 (k2 := (k0 + 1)) rfl (by decide) rfl fl_X6_11 dX6_byteAt_20 ?_
        refine lv_iload_n hx hb dX6_byteAt_23 rfl (lv_at hl 1 rfl) ?_
        obtain ⟨hg_1, hf⟩ := bG_e hf
        refine aB G hw (sub_Tape_bytes hZ h0) hg_1 (j := a1.toNatClampNeg) rfl dX6_byteAt_24 ?_
        refine lv_goto (tgt := 29) hx hb dX6_byteAt_25 (by decide) ?_
        exact hret _ _ _ _ _ dX6_byteAt_29 (Option.some.inj hf) hw
noncomputable def F6_amount (S : pS) (k0 : Nat) (a1 : Int32) (a2 : Int32) : Option (Int32) :=
  bL (fun (l3_1 : Int32) =>
    some l3_1) fun g40_5 =>
  bL (u2 fun (l3_2 : Int32) (l4_3 : Int32) =>
    if a2 ≤ l4_3 then
      some (.inr l3_2)
    else
      if (a1 + 4) ≤ l4_3 then
        some (.inr l3_2)
      else
        bB (F6_byteAt S k0 l4_3) fun r_5 =>
        bL (((l3_2 * 10) + r_5) - 48) fun l3_6 =>
        bL (l4_3 + 1) fun l4_7 =>
        some (.inl (l3_6, l4_7))) fun b5 =>
  bB (bP b5 ((0 : Int32), a1)) (u1 g40_5)
set_option maxRecDepth 100000 in
set_option maxHeartbeats 4000000 in
theorem wX6_amount {l : Launch} {Z : pZ}  (hZ : CC Z) (S : pS) (k0 : Nat) (a1 : Int32) (a2 : Int32) (r : Int32) (h0 : isA Z K_Tape k0) (hf : F6_amount S k0 a1 a2 = some r) : CI l Z yX6_amount cX6_amount 5 .int 4 81 [.ref (za Z k0), .int a1, .int a2] S r S := by
  unfold F6_amount at hf
  refine eI (own := RX6) (by decide) rfl (Nat.le_of_ble_eq_true rfl) (fun p e s m args below meth c Q ls G hl hw hret => ?_)
  obtain ⟨hx, hb, hml, hown, hts⟩ := G.1
  have hl : lv_has ls 5 [(0, .ref (za Z k0)), (1, .int a1), (2, .int a2)] := hl
  refine lv_iconst hx hb dX6_amount_0 ki_0 ?_
  refine lv_istore_n (lv' := [(3, .int 0), (0, .ref (za Z k0)), (1, .int a1), (2, .int a2)]) hx hb dX6_amount_1 rfl hl (by decide) rfl (fun ls hl => ?_)
  refine lv_iload_n hx hb dX6_amount_2 rfl (lv_at hl 2 rfl) ?_
  refine lv_istore (lv' := [(4, .int a1), (3, .int 0), (0, .ref (za Z k0)), (1, .int a1), (2, .int a2)]) hx hb dX6_amount_3 hl (by decide) rfl (fun ls hl => ?_)
  obtain ⟨g40_5, ej, hf⟩ := bL_e hf
  have R40_5 : ∀ (l3_1 : Int32) (H : Heap) (locs : List Loc) (ls : Array Slot), Wd Z s S H locs → lv_has ls 5 [(3, .int l3_1)] → g40_5 l3_1 = some r → W p l e { frames := 4, cells := 0, slots := 0, locals := 81 } s m args below meth c H locs 0 0 Q (F0 m 40 ls []) := by
    intro l3_1 H locs ls hw hl hf
    have hf := (congrFun ej l3_1).symm.trans hf
    refine lv_iload_n hx hb dX6_amount_40 rfl (lv_at hl 0 rfl) ?_
    exact hret _ _ _ _ _ dX6_amount_41 (Option.some.inj hf) hw
  clear ej
  obtain ⟨b5, eb, hf⟩ := bL_e hf
  have RL5 : ∀ (n : Nat) z, (u1 g40_5) z = some r → ∀ (l3_2 : Int32) (l4_3 : Int32) (H : Heap) (locs : List Loc) (ls : Array Slot), Wd Z s S H locs → lv_has ls 5 [(0, .ref (za Z k0)), (1, .int a1), (2, .int a2), (3, .int l3_2), (4, .int l4_3)] → bPn b5 n (l3_2, l4_3) = some z → W p l e { frames := 4, cells := 0, slots := 0, locals := 81 } s m args below meth c H locs 0 0 Q (F0 m 5 ls []) := by
    intro n
    induction n with
    | zero =>
      intro z hg l3_2 l4_3 H locs ls hw hl hz
      exact bPn_0 hz
    | succ n ih =>
      intro z hg l3_2 l4_3 H locs ls hw hl hz
      obtain ⟨q_4, hf, hz⟩ := bPn_e hz
      have hf := u2_e ((congrFun eb _).symm.trans hf)
      refine lv_iload hx hb dX6_amount_5 (lv_at hl 4 rfl) ?_
      refine lv_iload_n hx hb dX6_amount_7 rfl (lv_at hl 2 rfl) ?_
      refine lv_icmp_ge (tgt := 40) hx hb dX6_amount_8 (by decide) (fun c_9 => ?_) (fun c_9 => ?_)
      · have hf := (if_pos c_9).symm.trans hf
        obtain rfl := Option.some.inj hf
        obtain rfl := Option.some.inj (hz : some _ = some _)
        exact R40_5 _ _ _ _ hw (lv_sub hl [3] rfl) hg
      · have hf := (if_neg c_9).symm.trans hf
        refine lv_iload hx hb dX6_amount_11 (lv_at hl 4 rfl) ?_
        refine lv_iload_n hx hb dX6_amount_13 rfl (lv_at hl 1 rfl) ?_
        refine lv_iconst hx hb dX6_amount_14 ki_4 ?_
        refine lv_iadd hx hb dX6_amount_15 ?_
        refine lv_icmp_ge (tgt := 40) hx hb dX6_amount_16 (by decide) (fun c_8 => ?_) (fun c_8 => ?_)
        · have hf := (if_pos c_8).symm.trans hf
          obtain rfl := Option.some.inj hf
          obtain rfl := Option.some.inj (hz : some _ = some _)
          exact R40_5 _ _ _ _ hw (lv_sub hl [3] rfl) hg
        · have hf := (if_neg c_8).symm.trans hf
          refine lv_iload_n hx hb dX6_amount_19 rfl (lv_at hl 3 rfl) ?_
          refine lv_bipush hx hb dX6_amount_20 kb_10 ?_
          refine lv_imul hx hb dX6_amount_22 ?_
          refine lv_aload_n hx hb dX6_amount_23 rfl (lv_at hl 0 rfl) ?_
          refine lv_iload hx hb dX6_amount_24 (lv_at hl 4 rfl) ?_
          obtain ⟨r_5, hr_5, hf⟩ := bB_e hf
          refine kVi (rest := [.int (l3_2 * 10)]) G hw (wX6_byteAt hZ S k0 l4_3 r_5 h0 hr_5) cw_X6_44 h0 KX6 ⟨Nat.le_of_ble_eq_true rfl, Nat.le_of_ble_eq_true rfl⟩ rfl hl.1 rfl (Nat.le_of_ble_eq_true rfl) ⟨Nat.le_refl _, Nat.le_refl _⟩ dX6_amount_26 (fun H locs hw => ?_)
          refine lv_iadd hx hb dX6_amount_29 ?_
          refine lv_bipush hx hb dX6_amount_30 kb_48 ?_
          refine lv_isub hx hb dX6_amount_32 ?_
          obtain ⟨l3_6, el3_6, hf⟩ := bL_e hf
          refine top_i el3_6 ?_
          refine lv_istore_n (lv' := [(3, .int l3_6), (0, .ref (za Z k0)), (1, .int a1), (2, .int a2), (4, .int l4_3)]) hx hb dX6_amount_33 rfl hl (by decide) rfl (fun ls hl => ?_)
          obtain ⟨l4_7, el4_7, hf⟩ := bL_e hf
          refine lv_iinc (v := l4_7) (lv' := [(4, .int l4_7), (3, .int l3_6), (0, .ref (za Z k0)), (1, .int a1), (2, .int a2)]) hx hb dX6_amount_34 hl (k := 4) rfl (by rw [el4_7]; rfl) (by decide) rfl (fun ls hl => ?_)
          refine lv_goto (tgt := 5) hx hb dX6_amount_37 (by decide) ?_
          obtain rfl := Option.some.inj hf
          exact ih _ hg _ _ _ _ _ hw (lv_sub hl [2, 3, 4, 1, 0] rfl) hz
  clear eb
  obtain ⟨z, hz, hf⟩ := bB_e hf
  obtain ⟨n, hz⟩ := bP_e hz
  exact RL5 n z hf _ _ _ _ _ hw (lv_sub hl [2, 3, 4, 1, 0] rfl) hz
noncomputable def F6_isDigit (a0 : Int32) : Int32 :=
  ((F11_within a0 48 57) &&& 1)
set_option maxRecDepth 100000 in
set_option maxHeartbeats 4000000 in
theorem wX6_isDigit {l : Launch} {Z : pZ}  (hZ : CC Z) (S : pS) (a0 : Int32) (r : Int32)  (hf : F6_isDigit a0 = r) : CI l Z yX6_isDigit cX6_isDigit 1 .boolean 4 82 [.int a0] S r S := by
  unfold F6_isDigit at hf
  refine eZ (own := RX6) (by decide) rfl (Nat.le_of_ble_eq_true rfl) (fun p e s m args below meth c Q ls G hl hw hret => ?_)
  obtain ⟨hx, hb, hml, hown, hts⟩ := G.1
  have hl : lv_has ls 1 [(0, .int a0)] := hl
  refine lv_iload_n hx hb dX6_isDigit_0 rfl (lv_at hl 0 rfl) ?_
  refine lv_bipush hx hb dX6_isDigit_1 kb_48 ?_
  refine lv_bipush hx hb dX6_isDigit_3 kb_57 ?_
  refine kNi (rest := []) G hw (wX11_within hZ S a0 48 57 (F11_within a0 48 57) rfl) cw_X6_77 ⟨Nat.le_of_ble_eq_true rfl, Nat.le_of_ble_eq_true rfl⟩ rfl hl.1 rfl (Nat.le_of_ble_eq_true rfl) ⟨Nat.le_refl _, Nat.le_refl _⟩ dX6_isDigit_5 (fun H locs hw => ?_)
  exact hret _ _ _ _ _ dX6_isDigit_8 hf hw
noncomputable def F6_isLetter (a0 : Int32) : Int32 :=
  bL (fun (_ : Unit) =>
    (1 : Int32)) fun j22 =>
  if (F11_within a0 97 122) = 0 then
    if (F11_within a0 65 90) = 0 then
      (0 : Int32)
    else
      j22 ()
  else
    j22 ()
set_option maxRecDepth 100000 in
set_option maxHeartbeats 4000000 in
theorem wX6_isLetter {l : Launch} {Z : pZ}  (hZ : CC Z) (S : pS) (a0 : Int32) (r : Int32)  (hf : F6_isLetter a0 = r) : CI l Z yX6_isLetter cX6_isLetter 1 .boolean 4 82 [.int a0] S r S := by
  unfold F6_isLetter at hf
  refine eZ (own := RX6) (by decide) rfl (Nat.le_of_ble_eq_true rfl) (fun p e s m args below meth c Q ls G hl hw hret => ?_)
  obtain ⟨hx, hb, hml, hown, hts⟩ := G.1
  have hl : lv_has ls 1 [(0, .int a0)] := hl
  refine lv_iload_n hx hb dX6_isLetter_0 rfl (lv_at hl 0 rfl) ?_
  refine lv_bipush hx hb dX6_isLetter_1 kb_97 ?_
  refine lv_bipush hx hb dX6_isLetter_3 kb_122 ?_
  refine kNi (rest := []) G hw (wX11_within hZ S a0 97 122 (F11_within a0 97 122) rfl) cw_X6_77 ⟨Nat.le_of_ble_eq_true rfl, Nat.le_of_ble_eq_true rfl⟩ rfl hl.1 rfl (Nat.le_of_ble_eq_true rfl) ⟨Nat.le_refl _, Nat.le_refl _⟩ dX6_isLetter_5 (fun H locs hw => ?_)
  obtain ⟨j22, ej, hf⟩ := bL_e hf
  have R22 : ∀ (H : Heap) (locs : List Loc) (ls : Array Slot), Wd Z s S H locs → lv_has ls 1 [] → j22 () = r → W p l e { frames := 4, cells := 0, slots := 0, locals := 82 } s m args below meth c H locs 0 0 Q (F0 m 22 ls []) := by
    intro  H locs ls hw hl hf
    have hf := (congrFun ej ()).symm.trans hf
    refine lv_iconst hx hb dX6_isLetter_22 ki_1 ?_
    refine lv_goto (tgt := 27) hx hb dX6_isLetter_23 (by decide) ?_
    exact hret _ _ _ _ _ dX6_isLetter_27 ((by decide : (1 : Int32) &&& 1 = 1).trans hf) hw
  clear ej
  refine lv_if_ne (tgt := 22) hx hb dX6_isLetter_8 (by decide) (fun c_2 => ?_) (fun c_2 => ?_)
  · have hf := (if_neg c_2).symm.trans hf
    exact R22 _ _ _ hw (lv_sub hl [] rfl) hf
  · have hf := (if_pos c_2).symm.trans hf
    refine lv_iload_n hx hb dX6_isLetter_11 rfl (lv_at hl 0 rfl) ?_
    refine lv_bipush hx hb dX6_isLetter_12 kb_65 ?_
    refine lv_bipush hx hb dX6_isLetter_14 kb_90 ?_
    refine kNi (rest := []) G hw (wX11_within hZ S a0 65 90 (F11_within a0 65 90) rfl) cw_X6_77 ⟨Nat.le_of_ble_eq_true rfl, Nat.le_of_ble_eq_true rfl⟩ rfl hl.1 rfl (Nat.le_of_ble_eq_true rfl) ⟨Nat.le_refl _, Nat.le_refl _⟩ dX6_isLetter_16 (fun H locs hw => ?_)
    refine lv_if_eq (tgt := 26) hx hb dX6_isLetter_19 (by decide) (fun c_1 => ?_) (fun c_1 => ?_)
    · have hf := (if_pos c_1).symm.trans hf
      refine lv_iconst hx hb dX6_isLetter_26 ki_0 ?_
      exact hret _ _ _ _ _ dX6_isLetter_27 ((by decide : (0 : Int32) &&& 1 = 0).trans hf) hw
    · have hf := (if_neg c_1).symm.trans hf
      exact R22 _ _ _ hw (lv_sub hl [] rfl) hf
noncomputable def F6_isSign (a0 : Int32) : Int32 :=
  bL (fun (_ : Unit) =>
    (1 : Int32)) fun j47 =>
  if a0 = 59 then
    j47 ()
  else
    if a0 = 60 then
      j47 ()
    else
      if a0 = 61 then
        j47 ()
      else
        if a0 = 62 then
          j47 ()
        else
          if a0 = 47 then
            j47 ()
          else
            if a0 = 45 then
              j47 ()
            else
              if (F11_within a0 40 43) = 0 then
                (0 : Int32)
              else
                j47 ()
set_option maxRecDepth 100000 in
set_option maxHeartbeats 4000000 in
theorem wX6_isSign {l : Launch} {Z : pZ}  (hZ : CC Z) (S : pS) (a0 : Int32) (r : Int32)  (hf : F6_isSign a0 = r) : CI l Z yX6_isSign cX6_isSign 1 .boolean 4 82 [.int a0] S r S := by
  unfold F6_isSign at hf
  refine eZ (own := RX6) (by decide) rfl (Nat.le_of_ble_eq_true rfl) (fun p e s m args below meth c Q ls G hl hw hret => ?_)
  obtain ⟨hx, hb, hml, hown, hts⟩ := G.1
  have hl : lv_has ls 1 [(0, .int a0)] := hl
  refine lv_iload_n hx hb dX6_isSign_0 rfl (lv_at hl 0 rfl) ?_
  refine lv_bipush hx hb dX6_isSign_1 kb_59 ?_
  obtain ⟨j47, ej, hf⟩ := bL_e hf
  have R47 : ∀ (H : Heap) (locs : List Loc) (ls : Array Slot), Wd Z s S H locs → lv_has ls 1 [] → j47 () = r → W p l e { frames := 4, cells := 0, slots := 0, locals := 82 } s m args below meth c H locs 0 0 Q (F0 m 47 ls []) := by
    intro  H locs ls hw hl hf
    have hf := (congrFun ej ()).symm.trans hf
    refine lv_iconst hx hb dX6_isSign_47 ki_1 ?_
    refine lv_goto (tgt := 52) hx hb dX6_isSign_48 (by decide) ?_
    exact hret _ _ _ _ _ dX6_isSign_52 ((by decide : (1 : Int32) &&& 1 = 1).trans hf) hw
  clear ej
  refine lv_icmp_eq (tgt := 47) hx hb dX6_isSign_3 (by decide) (fun c_7 => ?_) (fun c_7 => ?_)
  · have hf := (if_pos c_7).symm.trans hf
    exact R47 _ _ _ hw (lv_sub hl [] rfl) hf
  · have hf := (if_neg c_7).symm.trans hf
    refine lv_iload_n hx hb dX6_isSign_6 rfl (lv_at hl 0 rfl) ?_
    refine lv_bipush hx hb dX6_isSign_7 kb_60 ?_
    refine lv_icmp_eq (tgt := 47) hx hb dX6_isSign_9 (by decide) (fun c_6 => ?_) (fun c_6 => ?_)
    · have hf := (if_pos c_6).symm.trans hf
      exact R47 _ _ _ hw (lv_sub hl [] rfl) hf
    · have hf := (if_neg c_6).symm.trans hf
      refine lv_iload_n hx hb dX6_isSign_12 rfl (lv_at hl 0 rfl) ?_
      refine lv_bipush hx hb dX6_isSign_13 kb_61 ?_
      refine lv_icmp_eq (tgt := 47) hx hb dX6_isSign_15 (by decide) (fun c_5 => ?_) (fun c_5 => ?_)
      · have hf := (if_pos c_5).symm.trans hf
        exact R47 _ _ _ hw (lv_sub hl [] rfl) hf
      · have hf := (if_neg c_5).symm.trans hf
        refine lv_iload_n hx hb dX6_isSign_18 rfl (lv_at hl 0 rfl) ?_
        refine lv_bipush hx hb dX6_isSign_19 kb_62 ?_
        refine lv_icmp_eq (tgt := 47) hx hb dX6_isSign_21 (by decide) (fun c_4 => ?_) (fun c_4 => ?_)
        · have hf := (if_pos c_4).symm.trans hf
          exact R47 _ _ _ hw (lv_sub hl [] rfl) hf
        · have hf := (if_neg c_4).symm.trans hf
          refine lv_iload_n hx hb dX6_isSign_24 rfl (lv_at hl 0 rfl) ?_
          refine lv_bipush hx hb dX6_isSign_25 kb_47 ?_
          refine lv_icmp_eq (tgt := 47) hx hb dX6_isSign_27 (by decide) (fun c_3 => ?_) (fun c_3 => ?_)
          · have hf := (if_pos c_3).symm.trans hf
            exact R47 _ _ _ hw (lv_sub hl [] rfl) hf
          · have hf := (if_neg c_3).symm.trans hf
            refine lv_iload_n hx hb dX6_isSign_30 rfl (lv_at hl 0 rfl) ?_
            refine lv_bipush hx hb dX6_isSign_31 kb_45 ?_
            refine lv_icmp_eq (tgt := 47) hx hb dX6_isSign_33 (by decide) (fun c_2 => ?_) (fun c_2 => ?_)
            · have hf := (if_pos c_2).symm.trans hf
              exact R47 _ _ _ hw (lv_sub hl [] rfl) hf
            · have hf := (if_neg c_2).symm.trans hf
              refine lv_iload_n hx hb dX6_isSign_36 rfl (lv_at hl 0 rfl) ?_
              refine lv_bipush hx hb dX6_isSign_37 kb_40 ?_
              refine lv_bipush hx hb dX6_isSign_39 kb_43 ?_
              refine kNi (rest := []) G hw (wX11_within hZ S a0 40 43 (F11_within a0 40 43) rfl) cw_X6_77 ⟨Nat.le_of_ble_eq_true rfl, Nat.le_of_ble_eq_true rfl⟩ rfl hl.1 rfl (Nat.le_of_ble_eq_true rfl) ⟨Nat.le_refl _, Nat.le_refl _⟩ dX6_isSign_41 (fun H locs hw => ?_)
              refine lv_if_eq (tgt := 51) hx hb dX6_isSign_44 (by decide) (fun c_1 => ?_) (fun c_1 => ?_)
              · have hf := (if_pos c_1).symm.trans hf
                refine lv_iconst hx hb dX6_isSign_51 ki_0 ?_
                exact hret _ _ _ _ _ dX6_isSign_52 ((by decide : (0 : Int32) &&& 1 = 0).trans hf) hw
              · have hf := (if_neg c_1).symm.trans hf
                exact R47 _ _ _ hw (lv_sub hl [] rfl) hf
noncomputable def F6_isSame (S : pS) (k0 : Nat) (a1 : Nat) (a2 : Int32) (a3 : Int32) (a4 : Int32) : Option (Int32) :=
  bL (fun (_ : Unit) =>
    some (1 : Int32)) fun g46_3 =>
  bL (fun (_ : Unit) =>
    some (0 : Int32)) fun g38_3 =>
  bL (u1 fun (l5_1 : Int32) =>
    if a3 ≤ l5_1 then
      some (.inr (.inl ()))
    else
      if (strlen a1) ≤ l5_1 then
        some (.inr (.inl ()))
      else
        bG (vp_in l5_1 (litLen.getD a1 0)) <|
        bB (F6_byteAt S k0 ((a4 + l5_1) - a2)) fun r_3 =>
        if (strch a1 l5_1.toNatClampNeg) = r_3 then
          bL (l5_1 + 1) fun l5_4 =>
          some (.inl l5_4)
        else
          some (.inr (.inr ()))) fun b3 =>
  bB (bP b3 a2) (Sum.elim ((fun (_ : Unit) => g46_3 ())) ((fun (_ : Unit) => g38_3 ())))
set_option maxRecDepth 100000 in
set_option maxHeartbeats 4000000 in
theorem wX6_isSame {l : Launch} {Z : pZ}  (hZ : CC Z) (S : pS) (k0 : Nat) (a1 : Nat) (a2 : Int32) (a3 : Int32) (a4 : Int32) (r : Int32) (h0 : isA Z K_Tape k0) (ha1 : a1 < litN) (hf : F6_isSame S k0 a1 a2 a3 a4 = some r) : CI l Z yX6_isSame cX6_isSame 6 .boolean 7 160 [.ref (za Z k0), .ref (zs Z a1), .int a2, .int a3, .int a4] S r S := by
  unfold F6_isSame at hf
  refine eZ (own := RX6) (by decide) rfl (Nat.le_of_ble_eq_true rfl) (fun p e s m args below meth c Q ls G hl hw hret => ?_)
  obtain ⟨hx, hb, hml, hown, hts⟩ := G.1
  have hl : lv_has ls 6 [(0, .ref (za Z k0)), (1, .ref (zs Z a1)), (2, .int a2), (3, .int a3), (4, .int a4)] := hl
  refine lv_iload_n hx hb dX6_isSame_0 rfl (lv_at hl 2 rfl) ?_
  refine lv_istore (lv' := [(5, .int a2), (0, .ref (za Z k0)), (1, .ref (zs Z a1)), (2, .int a2), (3, .int a3), (4, .int a4)]) hx hb dX6_isSame_1 hl (by decide) rfl (fun ls hl => ?_)
  obtain ⟨g46_3, ej, hf⟩ := bL_e hf
  have R46_3 : ∀ (H : Heap) (locs : List Loc) (ls : Array Slot), Wd Z s S H locs → lv_has ls 6 [] → g46_3 () = some r → W p l e { frames := 7, cells := 0, slots := 0, locals := 160 } s m args below meth c H locs 0 0 Q (F0 m 46 ls []) := by
    intro  H locs ls hw hl hf
    have hf := (congrFun ej ()).symm.trans hf
    refine lv_iconst hx hb dX6_isSame_46 ki_1 ?_
    exact hret _ _ _ _ _ dX6_isSame_47 ((by decide : (1 : Int32) &&& 1 = 1).trans (Option.some.inj hf)) hw
  clear ej
  obtain ⟨g38_3, ej, hf⟩ := bL_e hf
  have R38_3 : ∀ (H : Heap) (locs : List Loc) (ls : Array Slot), Wd Z s S H locs → lv_has ls 6 [] → g38_3 () = some r → W p l e { frames := 7, cells := 0, slots := 0, locals := 160 } s m args below meth c H locs 0 0 Q (F0 m 38 ls []) := by
    intro  H locs ls hw hl hf
    have hf := (congrFun ej ()).symm.trans hf
    refine lv_iconst hx hb dX6_isSame_38 ki_0 ?_
    exact hret _ _ _ _ _ dX6_isSame_39 ((by decide : (0 : Int32) &&& 1 = 0).trans (Option.some.inj hf)) hw
  clear ej
  obtain ⟨b3, eb, hf⟩ := bL_e hf
  have RL3 : ∀ (n : Nat) z, (Sum.elim ((fun (_ : Unit) => g46_3 ())) ((fun (_ : Unit) => g38_3 ()))) z = some r → ∀ (l5_1 : Int32) (H : Heap) (locs : List Loc) (ls : Array Slot), Wd Z s S H locs → lv_has ls 6 [(0, .ref (za Z k0)), (1, .ref (zs Z a1)), (2, .int a2), (3, .int a3), (4, .int a4), (5, .int l5_1)] → bPn b3 n l5_1 = some z → W p l e { frames := 7, cells := 0, slots := 0, locals := 160 } s m args below meth c H locs 0 0 Q (F0 m 3 ls []) := by
    intro n
    induction n with
    | zero =>
      intro z hg l5_1 H locs ls hw hl hz
      exact bPn_0 hz
    | succ n ih =>
      intro z hg l5_1 H locs ls hw hl hz
      obtain ⟨q_2, hf, hz⟩ := bPn_e hz
      have hf := u1_e ((congrFun eb _).symm.trans hf)
      refine lv_iload hx hb dX6_isSame_3 (lv_at hl 5 rfl) ?_
      refine lv_iload_n hx hb dX6_isSame_5 rfl (lv_at hl 3 rfl) ?_
      refine lv_icmp_ge (tgt := 46) hx hb dX6_isSame_6 (by decide) (fun c_7 => ?_) (fun c_7 => ?_)
      · have hf := (if_pos c_7).symm.trans hf
        obtain rfl := Option.some.inj hf
        obtain rfl := Option.some.inj (hz : some _ = some _)
        exact R46_3 _ _ _ hw (lv_sub hl [] rfl) hg
      · have hf := (if_neg c_7).symm.trans hf
        refine lv_iload hx hb dX6_isSame_9 (lv_at hl 5 rfl) ?_
        refine lv_aload_n hx hb dX6_isSame_11 rfl (lv_at hl 1 rfl) ?_
        refine xlen (rest := [.int l5_1]) G hw ha1 hl.1 ml_X6_81 ⟨Nat.le_of_ble_eq_true rfl, Nat.le_of_ble_eq_true rfl⟩ (Nat.le_of_ble_eq_true rfl) ⟨Nat.le_refl _, Nat.le_refl _⟩ dX6_isSame_12 (fun H locs hw => ?_)
        refine lv_icmp_ge (tgt := 46) hx hb dX6_isSame_15 (by decide) (fun c_6 => ?_) (fun c_6 => ?_)
        · have hf := (if_pos c_6).symm.trans hf
          obtain rfl := Option.some.inj hf
          obtain rfl := Option.some.inj (hz : some _ = some _)
          exact R46_3 _ _ _ hw (lv_sub hl [] rfl) hg
        · have hf := (if_neg c_6).symm.trans hf
          refine lv_aload_n hx hb dX6_isSame_18 rfl (lv_at hl 1 rfl) ?_
          refine lv_iload hx hb dX6_isSame_19 (lv_at hl 5 rfl) ?_
          obtain ⟨hg1, hf⟩ := bG_e hf
          refine xchr (rest := []) G hw ha1 hg1 hl.1 ml_X6_86 ⟨Nat.le_of_ble_eq_true rfl, Nat.le_of_ble_eq_true rfl⟩ (Nat.le_of_ble_eq_true rfl) ⟨Nat.le_refl _, Nat.le_refl _⟩ dX6_isSame_21 (fun H locs hw => ?_)
          refine lv_aload_n hx hb dX6_isSame_24 rfl (lv_at hl 0 rfl) ?_
          refine lv_iload hx hb dX6_isSame_25 (lv_at hl 4 rfl) ?_
          refine lv_iload hx hb dX6_isSame_27 (lv_at hl 5 rfl) ?_
          refine lv_iadd hx hb dX6_isSame_29 ?_
          refine lv_iload_n hx hb dX6_isSame_30 rfl (lv_at hl 2 rfl) ?_
          refine lv_isub hx hb dX6_isSame_31 ?_
          obtain ⟨r_3, hr_3, hf⟩ := bB_e hf
          refine kVi (rest := [.int (strch a1 l5_1.toNatClampNeg)]) G hw (wX6_byteAt hZ S k0 ((a4 + l5_1) - a2) r_3 h0 hr_3) cw_X6_44 h0 KX6 ⟨Nat.le_of_ble_eq_true rfl, Nat.le_of_ble_eq_true rfl⟩ rfl hl.1 rfl (Nat.le_of_ble_eq_true rfl) ⟨Nat.le_refl _, Nat.le_refl _⟩ dX6_isSame_32 (fun H locs hw => ?_)
          refine lv_icmp_eq (tgt := 40) hx hb dX6_isSame_35 (by decide) (fun c_5 => ?_) (fun c_5 => ?_)
          · have hf := (if_pos c_5).symm.trans hf
            obtain ⟨l5_4, el5_4, hf⟩ := bL_e hf
            refine lv_iinc (v := l5_4) (lv' := [(5, .int l5_4), (0, .ref (za Z k0)), (1, .ref (zs Z a1)), (2, .int a2), (3, .int a3), (4, .int a4)]) hx hb dX6_isSame_40 hl (k := 5) rfl (by rw [el5_4]; rfl) (by decide) rfl (fun ls hl => ?_)
            refine lv_goto (tgt := 3) hx hb dX6_isSame_43 (by decide) ?_
            obtain rfl := Option.some.inj hf
            exact ih _ hg _ _ _ _ hw (lv_sub hl [1, 2, 3, 4, 5, 0] rfl) hz
          · have hf := (if_neg c_5).symm.trans hf
            obtain rfl := Option.some.inj hf
            obtain rfl := Option.some.inj (hz : some _ = some _)
            exact R38_3 _ _ _ hw (lv_sub hl [] rfl) hg
  clear eb
  obtain ⟨z, hz, hf⟩ := bB_e hf
  obtain ⟨n, hz⟩ := bP_e hz
  exact RL3 n z hf _ _ _ _ hw (lv_sub hl [1, 2, 3, 4, 5, 0] rfl) hz
noncomputable def F6_numberOf (S : pS) (k0 : Nat) (a1 : Nat) (a2 : Int32) (a3 : Int32) : Option (Int32) :=
  bL (fun (_ : Unit) =>
    some ((-1) : Int32)) fun g80_9 =>
  bL (fun (l4_1 : Int32) =>
    some l4_1) fun g62_9 =>
  bL (u3 fun (l4_2 : Int32) (l5_3 : Int32) (l6_4 : Int32) =>
    if (strlen a1) < l6_4 then
      some (.inr (.inl ()))
    else
      bL (fun (l4_6 : Int32) (l5_7 : Int32) =>
        bL (l6_4 + 1) fun l6_8 =>
        some (.inl (l4_6, l5_7, l6_8))) fun j74 =>
      bL (fun (_ : Unit) =>
        bL (fun (_ : Unit) =>
          bL (l4_2 + 1) fun l4_9 =>
          bL (l6_4 + 1) fun l5_10 =>
          j74 l4_9 l5_10) fun j65 =>
        if (l6_4 - l5_3) = (a3 - a2) then
          bB (F6_isSame S k0 a1 l5_3 l6_4 a2) fun r_11 =>
          if r_11 = 0 then
            j65 ()
          else
            some (.inr (.inr l4_2))
        else
          j65 ()) fun j38 =>
      if l6_4 = (strlen a1) then
        j38 ()
      else
        bG (vp_in l6_4 (litLen.getD a1 0)) <|
        if (strch a1 l6_4.toNatClampNeg) = 32 then
          j38 ()
        else
          j74 l4_2 l5_3) fun b9 =>
  bB (bP b9 ((0 : Int32), (0 : Int32), (0 : Int32))) (Sum.elim ((fun (_ : Unit) => g80_9 ())) (u1 g62_9))
set_option maxRecDepth 100000 in
set_option maxHeartbeats 4000000 in
theorem wX6_numberOf {l : Launch} {Z : pZ}  (hZ : CC Z) (S : pS) (k0 : Nat) (a1 : Nat) (a2 : Int32) (a3 : Int32) (r : Int32) (h0 : isA Z K_Tape k0) (ha1 : a1 < litN) (hf : F6_numberOf S k0 a1 a2 a3 = some r) : CI l Z yX6_numberOf cX6_numberOf 7 .int 8 185 [.ref (za Z k0), .ref (zs Z a1), .int a2, .int a3] S r S := by
  unfold F6_numberOf at hf
  refine eI (own := RX6) (by decide) rfl (Nat.le_of_ble_eq_true rfl) (fun p e s m args below meth c Q ls G hl hw hret => ?_)
  obtain ⟨hx, hb, hml, hown, hts⟩ := G.1
  have hl : lv_has ls 7 [(0, .ref (za Z k0)), (1, .ref (zs Z a1)), (2, .int a2), (3, .int a3)] := hl
  refine lv_iconst hx hb dX6_numberOf_0 ki_0 ?_
  refine lv_istore (lv' := [(4, .int 0), (0, .ref (za Z k0)), (1, .ref (zs Z a1)), (2, .int a2), (3, .int a3)]) hx hb dX6_numberOf_1 hl (by decide) rfl (fun ls hl => ?_)
  refine lv_iconst hx hb dX6_numberOf_3 ki_0 ?_
  refine lv_istore (lv' := [(5, .int 0), (4, .int 0), (0, .ref (za Z k0)), (1, .ref (zs Z a1)), (2, .int a2), (3, .int a3)]) hx hb dX6_numberOf_4 hl (by decide) rfl (fun ls hl => ?_)
  refine lv_iconst hx hb dX6_numberOf_6 ki_0 ?_
  refine lv_istore (lv' := [(6, .int 0), (5, .int 0), (4, .int 0), (0, .ref (za Z k0)), (1, .ref (zs Z a1)), (2, .int a2), (3, .int a3)]) hx hb dX6_numberOf_7 hl (by decide) rfl (fun ls hl => ?_)
  obtain ⟨g80_9, ej, hf⟩ := bL_e hf
  have R80_9 : ∀ (H : Heap) (locs : List Loc) (ls : Array Slot), Wd Z s S H locs → lv_has ls 7 [] → g80_9 () = some r → W p l e { frames := 8, cells := 0, slots := 0, locals := 185 } s m args below meth c H locs 0 0 Q (F0 m 80 ls []) := by
    intro  H locs ls hw hl hf
    have hf := (congrFun ej ()).symm.trans hf
    refine lv_iconst hx hb dX6_numberOf_80 ki_m1 ?_
    exact hret _ _ _ _ _ dX6_numberOf_81 (Option.some.inj hf) hw
  clear ej
  obtain ⟨g62_9, ej, hf⟩ := bL_e hf
  have R62_9 : ∀ (l4_1 : Int32) (H : Heap) (locs : List Loc) (ls : Array Slot), Wd Z s S H locs → lv_has ls 7 [(4, .int l4_1)] → g62_9 l4_1 = some r → W p l e { frames := 8, cells := 0, slots := 0, locals := 185 } s m args below meth c H locs 0 0 Q (F0 m 62 ls []) := by
    intro l4_1 H locs ls hw hl hf
    have hf := (congrFun ej l4_1).symm.trans hf
    refine lv_iload hx hb dX6_numberOf_62 (lv_at hl 0 rfl) ?_
    exact hret _ _ _ _ _ dX6_numberOf_64 (Option.some.inj hf) hw
  clear ej
  obtain ⟨b9, eb, hf⟩ := bL_e hf
  have RL9 : ∀ (n : Nat) z, (Sum.elim ((fun (_ : Unit) => g80_9 ())) (u1 g62_9)) z = some r → ∀ (l4_2 : Int32) (l5_3 : Int32) (l6_4 : Int32) (H : Heap) (locs : List Loc) (ls : Array Slot), Wd Z s S H locs → lv_has ls 7 [(0, .ref (za Z k0)), (1, .ref (zs Z a1)), (2, .int a2), (3, .int a3), (4, .int l4_2), (5, .int l5_3), (6, .int l6_4)] → bPn b9 n (l4_2, l5_3, l6_4) = some z → W p l e { frames := 8, cells := 0, slots := 0, locals := 185 } s m args below meth c H locs 0 0 Q (F0 m 9 ls []) := by
    intro n
    induction n with
    | zero =>
      intro z hg l4_2 l5_3 l6_4 H locs ls hw hl hz
      exact bPn_0 hz
    | succ n ih =>
      intro z hg l4_2 l5_3 l6_4 H locs ls hw hl hz
      obtain ⟨q_5, hf, hz⟩ := bPn_e hz
      have hf := u3_e ((congrFun eb _).symm.trans hf)
      refine lv_iload hx hb dX6_numberOf_9 (lv_at hl 6 rfl) ?_
      refine lv_aload_n hx hb dX6_numberOf_11 rfl (lv_at hl 1 rfl) ?_
      refine xlen (rest := [.int l6_4]) G hw ha1 hl.1 ml_X6_81 ⟨Nat.le_of_ble_eq_true rfl, Nat.le_of_ble_eq_true rfl⟩ (Nat.le_of_ble_eq_true rfl) ⟨Nat.le_refl _, Nat.le_refl _⟩ dX6_numberOf_12 (fun H locs hw => ?_)
      refine lv_icmp_gt (tgt := 80) hx hb dX6_numberOf_15 (by decide) (fun c_16 => ?_) (fun c_16 => ?_)
      · have hf := (if_pos c_16).symm.trans hf
        obtain rfl := Option.some.inj hf
        obtain rfl := Option.some.inj (hz : some _ = some _)
        exact R80_9 _ _ _ hw (lv_sub hl [] rfl) hg
      · have hf := (if_neg c_16).symm.trans hf
        refine lv_iload hx hb dX6_numberOf_18 (lv_at hl 6 rfl) ?_
        refine lv_aload_n hx hb dX6_numberOf_20 rfl (lv_at hl 1 rfl) ?_
        refine xlen (rest := [.int l6_4]) G hw ha1 hl.1 ml_X6_81 ⟨Nat.le_of_ble_eq_true rfl, Nat.le_of_ble_eq_true rfl⟩ (Nat.le_of_ble_eq_true rfl) ⟨Nat.le_refl _, Nat.le_refl _⟩ dX6_numberOf_21 (fun H locs hw => ?_)
        obtain ⟨j74, ej, hf⟩ := bL_e hf
        have R74 : ∀ (l4_6 : Int32) (l5_7 : Int32) (H : Heap) (locs : List Loc) (ls : Array Slot), Wd Z s S H locs → lv_has ls 7 [(0, .ref (za Z k0)), (1, .ref (zs Z a1)), (2, .int a2), (3, .int a3), (4, .int l4_6), (5, .int l5_7), (6, .int l6_4)] → j74 l4_6 l5_7 = some q_5 → W p l e { frames := 8, cells := 0, slots := 0, locals := 185 } s m args below meth c H locs 0 0 Q (F0 m 74 ls []) := by
          intro l4_6 l5_7 H locs ls hw hl hf
          have hf := (congrFun (congrFun ej l4_6) l5_7).symm.trans hf
          obtain ⟨l6_8, el6_8, hf⟩ := bL_e hf
          refine lv_iinc (v := l6_8) (lv' := [(6, .int l6_8), (0, .ref (za Z k0)), (1, .ref (zs Z a1)), (2, .int a2), (3, .int a3), (4, .int l4_6), (5, .int l5_7)]) hx hb dX6_numberOf_74 hl (k := 6) rfl (by rw [el6_8]; rfl) (by decide) rfl (fun ls hl => ?_)
          refine lv_goto (tgt := 9) hx hb dX6_numberOf_77 (by decide) ?_
          obtain rfl := Option.some.inj hf
          exact ih _ hg _ _ _ _ _ _ hw (lv_sub hl [1, 2, 3, 4, 5, 6, 0] rfl) hz
        clear ej
        obtain ⟨j38, ej, hf⟩ := bL_e hf
        have R38 : ∀ (H : Heap) (locs : List Loc) (ls : Array Slot), Wd Z s S H locs → lv_has ls 7 [(0, .ref (za Z k0)), (1, .ref (zs Z a1)), (2, .int a2), (3, .int a3), (4, .int l4_2), (5, .int l5_3), (6, .int l6_4)] → j38 () = some q_5 → W p l e { frames := 8, cells := 0, slots := 0, locals := 185 } s m args below meth c H locs 0 0 Q (F0 m 38 ls []) := by
          intro  H locs ls hw hl hf
          have hf := (congrFun ej ()).symm.trans hf
          refine lv_iload hx hb dX6_numberOf_38 (lv_at hl 6 rfl) ?_
          refine lv_iload hx hb dX6_numberOf_40 (lv_at hl 5 rfl) ?_
          refine lv_isub hx hb dX6_numberOf_42 ?_
          refine lv_iload_n hx hb dX6_numberOf_43 rfl (lv_at hl 3 rfl) ?_
          refine lv_iload_n hx hb dX6_numberOf_44 rfl (lv_at hl 2 rfl) ?_
          refine lv_isub hx hb dX6_numberOf_45 ?_
          obtain ⟨j65, ej, hf⟩ := bL_e hf
          have R65 : ∀ (H : Heap) (locs : List Loc) (ls : Array Slot), Wd Z s S H locs → lv_has ls 7 [(0, .ref (za Z k0)), (1, .ref (zs Z a1)), (2, .int a2), (3, .int a3), (4, .int l4_2), (6, .int l6_4)] → j65 () = some q_5 → W p l e { frames := 8, cells := 0, slots := 0, locals := 185 } s m args below meth c H locs 0 0 Q (F0 m 65 ls []) := by
            intro  H locs ls hw hl hf
            have hf := (congrFun ej ()).symm.trans hf
            obtain ⟨l4_9, el4_9, hf⟩ := bL_e hf
            refine lv_iinc (v := l4_9) (lv' := [(4, .int l4_9), (0, .ref (za Z k0)), (1, .ref (zs Z a1)), (2, .int a2), (3, .int a3), (6, .int l6_4)]) hx hb dX6_numberOf_65 hl (k := 4) rfl (by rw [el4_9]; rfl) (by decide) rfl (fun ls hl => ?_)
            refine lv_iload hx hb dX6_numberOf_68 (lv_at hl 5 rfl) ?_
            refine lv_iconst hx hb dX6_numberOf_70 ki_1 ?_
            refine lv_iadd hx hb dX6_numberOf_71 ?_
            obtain ⟨l5_10, el5_10, hf⟩ := bL_e hf
            refine top_i el5_10 ?_
            refine lv_istore (lv' := [(5, .int l5_10), (4, .int l4_9), (0, .ref (za Z k0)), (1, .ref (zs Z a1)), (2, .int a2), (3, .int a3), (6, .int l6_4)]) hx hb dX6_numberOf_72 hl (by decide) rfl (fun ls hl => ?_)
            exact R74 _ _ _ _ _ hw (lv_sub hl [2, 3, 4, 5, 1, 0, 6] rfl) hf
          clear ej
          refine lv_icmp_ne (tgt := 65) hx hb dX6_numberOf_46 (by decide) (fun c_13 => ?_) (fun c_13 => ?_)
          · have hf := (if_neg c_13).symm.trans hf
            exact R65 _ _ _ hw (lv_sub hl [0, 1, 2, 3, 4, 6] rfl) hf
          · have hf := (if_pos c_13).symm.trans hf
            refine lv_aload_n hx hb dX6_numberOf_49 rfl (lv_at hl 0 rfl) ?_
            refine lv_aload_n hx hb dX6_numberOf_50 rfl (lv_at hl 1 rfl) ?_
            refine lv_iload hx hb dX6_numberOf_51 (lv_at hl 5 rfl) ?_
            refine lv_iload hx hb dX6_numberOf_53 (lv_at hl 6 rfl) ?_
            refine lv_iload_n hx hb dX6_numberOf_55 rfl (lv_at hl 2 rfl) ?_
            obtain ⟨r_11, hr_11, hf⟩ := bB_e hf
            refine kVi (rest := []) G hw (wX6_isSame hZ S k0 a1 l5_3 l6_4 a2 r_11 h0 ha1 hr_11) cw_X6_90 h0 KX6 ⟨Nat.le_of_ble_eq_true rfl, Nat.le_of_ble_eq_true rfl⟩ rfl hl.1 rfl (Nat.le_of_ble_eq_true rfl) ⟨Nat.le_refl _, Nat.le_refl _⟩ dX6_numberOf_56 (fun H locs hw => ?_)
            refine lv_if_eq (tgt := 65) hx hb dX6_numberOf_59 (by decide) (fun c_12 => ?_) (fun c_12 => ?_)
            · have hf := (if_pos c_12).symm.trans hf
              exact R65 _ _ _ hw (lv_sub hl [0, 1, 2, 3, 4, 6] rfl) hf
            · have hf := (if_neg c_12).symm.trans hf
              obtain rfl := Option.some.inj hf
              obtain rfl := Option.some.inj (hz : some _ = some _)
              exact R62_9 _ _ _ _ hw (lv_sub hl [4] rfl) hg
        clear ej
        refine lv_icmp_eq (tgt := 38) hx hb dX6_numberOf_24 (by decide) (fun c_15 => ?_) (fun c_15 => ?_)
        · have hf := (if_pos c_15).symm.trans hf
          exact R38 _ _ _ hw (lv_sub hl [0, 1, 2, 3, 4, 5, 6] rfl) hf
        · have hf := (if_neg c_15).symm.trans hf
          refine lv_aload_n hx hb dX6_numberOf_27 rfl (lv_at hl 1 rfl) ?_
          refine lv_iload hx hb dX6_numberOf_28 (lv_at hl 6 rfl) ?_
          obtain ⟨hg1, hf⟩ := bG_e hf
          refine xchr (rest := []) G hw ha1 hg1 hl.1 ml_X6_86 ⟨Nat.le_of_ble_eq_true rfl, Nat.le_of_ble_eq_true rfl⟩ (Nat.le_of_ble_eq_true rfl) ⟨Nat.le_refl _, Nat.le_refl _⟩ dX6_numberOf_30 (fun H locs hw => ?_)
          refine lv_bipush hx hb dX6_numberOf_33 kb_32 ?_
          refine lv_icmp_ne (tgt := 74) hx hb dX6_numberOf_35 (by decide) (fun c_14 => ?_) (fun c_14 => ?_)
          · have hf := (if_neg c_14).symm.trans hf
            exact R74 _ _ _ _ _ hw (lv_sub hl [0, 1, 2, 3, 4, 5, 6] rfl) hf
          · have hf := (if_pos c_14).symm.trans hf
            exact R38 _ _ _ hw (lv_sub hl [0, 1, 2, 3, 4, 5, 6] rfl) hf
  clear eb
  obtain ⟨z, hz, hf⟩ := bB_e hf
  obtain ⟨n, hz⟩ := bP_e hz
  exact RL9 n z hf _ _ _ _ _ _ hw (lv_sub hl [3, 4, 5, 6, 2, 1, 0] rfl) hz

noncomputable def F11_at (S : pS) (a1 : Int32) (a2 : Int32) : Option (Int32) :=
  if (F10_hasSpear S 1 a1) = 0 then
    some ((-1) : Int32)
  else
    if a2 = 0 then
      bG (vp_in a1 6) <|
      some (S 3 a1.toNatClampNeg)
    else
      if a2 = 1 then
        bG (vp_in a1 6) <|
        some (S 4 a1.toNatClampNeg)
      else
        some ((-1) : Int32)
set_option maxRecDepth 100000 in
set_option maxHeartbeats 4000000 in
theorem wX11_at {l : Launch} {Z : pZ}  (hZ : CC Z) (S : pS) (a1 : Int32) (a2 : Int32) (r : Int32) (h0 : isA Z K_PF 0) (hf : F11_at S a1 a2 = some r) : CI l Z yX11_at cX11_at 3 .int 4 81 [.ref (za Z 0), .int a1, .int a2] S r S := by
  unfold F11_at at hf
  refine eI (own := RX11) (by decide) rfl (Nat.le_of_ble_eq_true rfl) (fun p e s m args below meth c Q ls G hl hw hret => ?_)
  obtain ⟨hx, hb, hml, hown, hts⟩ := G.1
  have hl : lv_has ls 3 [(0, .ref (za Z 0)), (1, .int a1), (2, .int a2)] := hl
  refine lv_aload_n hx hb dX11_at_0 rfl (lv_at hl 0 rfl) ?_
  refine gF G hw h0 KX11 0 (k2 := 1) rfl (by decide) rfl fl_X11_10 dX11_at_1 ?_
  refine lv_iload_n hx hb dX11_at_4 rfl (lv_at hl 1 rfl) ?_
  refine kVi (rest := []) G hw (wX10_hasSpear hZ S 1 a1 (F10_hasSpear S 1 a1) (sub_PF_now hZ h0) rfl) cw_X11_193 (sub_PF_now hZ h0) KX10 ⟨Nat.le_of_ble_eq_true rfl, Nat.le_of_ble_eq_true rfl⟩ rfl hl.1 rfl (Nat.le_of_ble_eq_true rfl) ⟨Nat.le_refl _, Nat.le_refl _⟩ dX11_at_5 (fun H locs hw => ?_)
  refine lv_if_ne (tgt := 13) hx hb dX11_at_8 (by decide) (fun c_5 => ?_) (fun c_5 => ?_)
  · have hf := (if_neg c_5).symm.trans hf
    refine lv_iload_n hx hb dX11_at_13 rfl (lv_at hl 2 rfl) ?_
    refine lv_if_ne (tgt := 29) hx hb dX11_at_14 (by decide) (fun c_4 => ?_) (fun c_4 => ?_)
    · have hf := (if_neg c_4).symm.trans hf
      refine lv_iload_n hx hb dX11_at_29 rfl (lv_at hl 2 rfl) ?_
      refine lv_iconst hx hb dX11_at_30 ki_1 ?_
      refine lv_icmp_ne (tgt := 46) hx hb dX11_at_31 (by decide) (fun c_2 => ?_) (fun c_2 => ?_)
      · have hf := (if_neg c_2).symm.trans hf
        refine lv_iconst hx hb dX11_at_46 ki_m1 ?_
        exact hret _ _ _ _ _ dX11_at_47 (Option.some.inj hf) hw
      · have hf := (if_pos c_2).symm.trans hf
        refine lv_aload_n hx hb dX11_at_34 rfl (lv_at hl 0 rfl) ?_
        refine gF G hw h0 KX11 0 (k2 := 1) rfl (by decide) rfl fl_X11_10 dX11_at_35 ?_
        refine gF G hw (sub_PF_now hZ h0) KX10 10 (k2 := 4) rfl (by decide) rfl fl_X11_307 dX11_at_38 ?_
        refine lv_iload_n hx hb dX11_at_41 rfl (lv_at hl 1 rfl) ?_
        obtain ⟨hg_1, hf⟩ := bG_e hf
        refine aI G hw (sub_World_tip hZ (sub_PF_now hZ h0)) hg_1 (j := a1.toNatClampNeg) rfl dX11_at_42 ?_
        refine lv_goto (tgt := 47) hx hb dX11_at_43 (by decide) ?_
        exact hret _ _ _ _ _ dX11_at_47 (Option.some.inj hf) hw
    · have hf := (if_pos c_4).symm.trans hf
      refine lv_aload_n hx hb dX11_at_17 rfl (lv_at hl 0 rfl) ?_
      refine gF G hw h0 KX11 0 (k2 := 1) rfl (by decide) rfl fl_X11_10 dX11_at_18 ?_
      refine gF G hw (sub_PF_now hZ h0) KX10 9 (k2 := 3) rfl (by decide) rfl fl_X11_304 dX11_at_21 ?_
      refine lv_iload_n hx hb dX11_at_24 rfl (lv_at hl 1 rfl) ?_
      obtain ⟨hg_3, hf⟩ := bG_e hf
      refine aI G hw (sub_World_soft hZ (sub_PF_now hZ h0)) hg_3 (j := a1.toNatClampNeg) rfl dX11_at_25 ?_
      refine lv_goto (tgt := 47) hx hb dX11_at_26 (by decide) ?_
      exact hret _ _ _ _ _ dX11_at_47 (Option.some.inj hf) hw
  · have hf := (if_pos c_5).symm.trans hf
    refine lv_iconst hx hb dX11_at_11 ki_m1 ?_
    exact hret _ _ _ _ _ dX11_at_12 (Option.some.inj hf) hw
noncomputable def F11_book (S : pS) (a1 : Int32) (a2 : Int32) : Option (Int32) :=
  bL (fun (_ : Unit) =>
    some ((-100) : Int32)) fun j33 =>
  if (F11_within a2 0 8) = 0 then
    j33 ()
  else
    if (F10_hasLine S 1 a1) = 0 then
      j33 ()
    else
      bB (F10_column S 1 a1 a2) fun r_1 =>
      some r_1
set_option maxRecDepth 100000 in
set_option maxHeartbeats 4000000 in
theorem wX11_book {l : Launch} {Z : pZ}  (hZ : CC Z) (S : pS) (a1 : Int32) (a2 : Int32) (r : Int32) (h0 : isA Z K_PF 0) (hf : F11_book S a1 a2 = some r) : CI l Z yX11_book cX11_book 3 .int 5 104 [.ref (za Z 0), .int a1, .int a2] S r S := by
  unfold F11_book at hf
  refine eI (own := RX11) (by decide) rfl (Nat.le_of_ble_eq_true rfl) (fun p e s m args below meth c Q ls G hl hw hret => ?_)
  obtain ⟨hx, hb, hml, hown, hts⟩ := G.1
  have hl : lv_has ls 3 [(0, .ref (za Z 0)), (1, .int a1), (2, .int a2)] := hl
  refine lv_iload_n hx hb dX11_book_0 rfl (lv_at hl 2 rfl) ?_
  refine lv_iconst hx hb dX11_book_1 ki_0 ?_
  refine lv_bipush hx hb dX11_book_2 kb_8 ?_
  refine kSi (rest := []) G hw (wX11_within hZ S a2 0 8 (F11_within a2 0 8) rfl) cw_X11_51 ⟨Nat.le_of_ble_eq_true rfl, Nat.le_of_ble_eq_true rfl⟩ rfl hl.1 rfl (Nat.le_of_ble_eq_true rfl) ⟨Nat.le_refl _, Nat.le_refl _⟩ dX11_book_4 (fun H locs hw => ?_)
  obtain ⟨j33, ej, hf⟩ := bL_e hf
  have R33 : ∀ (H : Heap) (locs : List Loc) (ls : Array Slot), Wd Z s S H locs → lv_has ls 3 [] → j33 () = some r → W p l e { frames := 5, cells := 0, slots := 0, locals := 104 } s m args below meth c H locs 0 0 Q (F0 m 33 ls []) := by
    intro  H locs ls hw hl hf
    have hf := (congrFun ej ()).symm.trans hf
    refine lv_bipush hx hb dX11_book_33 kb_m100 ?_
    exact hret _ _ _ _ _ dX11_book_35 (Option.some.inj hf) hw
  clear ej
  refine lv_if_eq (tgt := 33) hx hb dX11_book_7 (by decide) (fun c_3 => ?_) (fun c_3 => ?_)
  · have hf := (if_pos c_3).symm.trans hf
    exact R33 _ _ _ hw (lv_sub hl [] rfl) hf
  · have hf := (if_neg c_3).symm.trans hf
    refine lv_aload_n hx hb dX11_book_10 rfl (lv_at hl 0 rfl) ?_
    refine gF G hw h0 KX11 0 (k2 := 1) rfl (by decide) rfl fl_X11_10 dX11_book_11 ?_
    refine lv_iload_n hx hb dX11_book_14 rfl (lv_at hl 1 rfl) ?_
    refine kVi (rest := []) G hw (wX10_hasLine hZ S 1 a1 (F10_hasLine S 1 a1) (sub_PF_now hZ h0) rfl) cw_X11_310 (sub_PF_now hZ h0) KX10 ⟨Nat.le_of_ble_eq_true rfl, Nat.le_of_ble_eq_true rfl⟩ rfl hl.1 rfl (Nat.le_of_ble_eq_true rfl) ⟨Nat.le_refl _, Nat.le_refl _⟩ dX11_book_15 (fun H locs hw => ?_)
    refine lv_if_eq (tgt := 33) hx hb dX11_book_18 (by decide) (fun c_2 => ?_) (fun c_2 => ?_)
    · have hf := (if_pos c_2).symm.trans hf
      exact R33 _ _ _ hw (lv_sub hl [] rfl) hf
    · have hf := (if_neg c_2).symm.trans hf
      refine lv_aload_n hx hb dX11_book_21 rfl (lv_at hl 0 rfl) ?_
      refine gF G hw h0 KX11 0 (k2 := 1) rfl (by decide) rfl fl_X11_10 dX11_book_22 ?_
      refine lv_iload_n hx hb dX11_book_25 rfl (lv_at hl 1 rfl) ?_
      refine lv_iload_n hx hb dX11_book_26 rfl (lv_at hl 2 rfl) ?_
      obtain ⟨r_1, hr_1, hf⟩ := bB_e hf
      refine kVi (rest := []) G hw (wX10_column hZ S 1 a1 a2 r_1 (sub_PF_now hZ h0) hr_1) cw_X11_313 (sub_PF_now hZ h0) KX10 ⟨Nat.le_of_ble_eq_true rfl, Nat.le_of_ble_eq_true rfl⟩ rfl hl.1 rfl (Nat.le_of_ble_eq_true rfl) ⟨Nat.le_refl _, Nat.le_refl _⟩ dX11_book_27 (fun H locs hw => ?_)
      refine lv_goto (tgt := 35) hx hb dX11_book_30 (by decide) ?_
      exact hret _ _ _ _ _ dX11_book_35 (Option.some.inj hf) hw
noncomputable def F10_ahead (S : pS) (k0 : Nat) (a1 : Int32) : Option (Int32) :=
  bB (F10_one S k0 a1) fun r_1 =>
  bO r_1 (
    some ((-1) : Int32)) fun o_2 =>
  bL (fun (l3_3 : Int32) =>
    some l3_3) fun g82_17 =>
  bL (u2 fun (l3_4 : Int32) (l4_5 : Int32) =>
    if (S k0 5) ≤ l4_5 then
      some (.inr l3_4)
    else
      if 8 ≤ l4_5 then
        some (.inr l3_4)
      else
        bG (vp_in l4_5 8) <|
        bL (fun (l3_8 : Int32) =>
          bL (l4_5 + 1) fun l4_9 =>
          some (.inl (l3_8, l4_9))) fun j76 =>
        bL (fun (_ : Unit) =>
          bL (l3_4 + 1) fun l3_10 =>
          j76 l3_10) fun j73 =>
        if (S o_2 2) < (S ((k0 + 28) + 2 * l4_5.toNatClampNeg) 2) then
          j73 ()
        else
          bG (vp_in l4_5 8) <|
          if (S ((k0 + 28) + 2 * l4_5.toNatClampNeg) 2) = (S o_2 2) then
            if a1 ≤ l4_5 then
              j76 l3_4
            else
              j73 ()
          else
            j76 l3_4) fun b17 =>
  bB (bP b17 ((0 : Int32), (0 : Int32))) (u1 g82_17)
set_option maxRecDepth 100000 in
set_option maxHeartbeats 4000000 in
theorem wX10_ahead {l : Launch} {Z : pZ}  (hZ : CC Z) (S : pS) (k0 : Nat) (a1 : Int32) (r : Int32) (h0 : isA Z K_World k0) (hf : F10_ahead S k0 a1 = some r) : CI l Z yX10_ahead cX10_ahead 5 .int 4 81 [.ref (za Z k0), .int a1] S r S := by
  unfold F10_ahead at hf
  refine eI (own := RX10) (by decide) rfl (Nat.le_of_ble_eq_true rfl) (fun p e s m args below meth c Q ls G hl hw hret => ?_)
  obtain ⟨hx, hb, hml, hown, hts⟩ := G.1
  have hl : lv_has ls 5 [(0, .ref (za Z k0)), (1, .int a1)] := hl
  refine lv_aload_n hx hb dX10_ahead_0 rfl (lv_at hl 0 rfl) ?_
  refine lv_iload_n hx hb dX10_ahead_1 rfl (lv_at hl 1 rfl) ?_
  obtain ⟨r_1, hr_1, hf⟩ := bB_e hf
  refine kVq (rest := []) G hw (wX10_one hZ S k0 a1 r_1 h0 hr_1) cw_X10_93 h0 KX10 ⟨Nat.le_of_ble_eq_true rfl, Nat.le_of_ble_eq_true rfl⟩ rfl hl.1 rfl (Nat.le_of_ble_eq_true rfl) ⟨Nat.le_refl _, Nat.le_refl _⟩ dX10_ahead_2 (fun H locs hw => ?_)
  refine astQn (lv' := [(2, va_rf (Option.map (za Z) r_1)), (0, .ref (za Z k0)), (1, .int a1)]) hx hb dX10_ahead_5 rfl hl (by decide) rfl (fun ls hl => ?_)
  refine aldQn hx hb dX10_ahead_6 rfl (lv_at hl 0 rfl) ?_
  refine ifnnQ (tgt := 12) hx hb dX10_ahead_7 (by decide) (fun e_17 => ?_) (fun o_2 e_17 => ?_)
  · subst e_17
    have hf := bO_n rfl hf
    refine lv_iconst hx hb dX10_ahead_10 ki_m1 ?_
    exact hret _ _ _ _ _ dX10_ahead_11 (Option.some.inj hf) hw
  · subst e_17
    have hf := bO_s rfl hf
    have ho_2 := ret_X10_one hZ S k0 a1 h0 (hr_1.trans (congrArg some rfl))
    refine lv_iconst hx hb dX10_ahead_12 ki_0 ?_
    refine lv_istore_n (lv' := [(3, .int 0), (2, .ref (za Z o_2)), (0, .ref (za Z k0)), (1, .int a1)]) hx hb dX10_ahead_13 rfl hl (by decide) rfl (fun ls hl => ?_)
    refine lv_iconst hx hb dX10_ahead_14 ki_0 ?_
    refine lv_istore (lv' := [(4, .int 0), (3, .int 0), (2, .ref (za Z o_2)), (0, .ref (za Z k0)), (1, .int a1)]) hx hb dX10_ahead_15 hl (by decide) rfl (fun ls hl => ?_)
    obtain ⟨g82_17, ej, hf⟩ := bL_e hf
    have R82_17 : ∀ (l3_3 : Int32) (H : Heap) (locs : List Loc) (ls : Array Slot), Wd Z s S H locs → lv_has ls 5 [(3, .int l3_3)] → g82_17 l3_3 = some r → W p l e { frames := 4, cells := 0, slots := 0, locals := 81 } s m args below meth c H locs 0 0 Q (F0 m 82 ls []) := by
      intro l3_3 H locs ls hw hl hf
      have hf := (congrFun ej l3_3).symm.trans hf
      refine lv_iload_n hx hb dX10_ahead_82 rfl (lv_at hl 0 rfl) ?_
      exact hret _ _ _ _ _ dX10_ahead_83 (Option.some.inj hf) hw
    clear ej
    obtain ⟨b17, eb, hf⟩ := bL_e hf
    have RL17 : ∀ (n : Nat) z, (u1 g82_17) z = some r → ∀ (l3_4 : Int32) (l4_5 : Int32) (H : Heap) (locs : List Loc) (ls : Array Slot), Wd Z s S H locs → lv_has ls 5 [(0, .ref (za Z k0)), (1, .int a1), (2, .ref (za Z o_2)), (3, .int l3_4), (4, .int l4_5)] → bPn b17 n (l3_4, l4_5) = some z → W p l e { frames := 4, cells := 0, slots := 0, locals := 81 } s m args below meth c H locs 0 0 Q (F0 m 17 ls []) := by
      intro n
      induction n with
      | zero =>
        intro z hg l3_4 l4_5 H locs ls hw hl hz
        exact bPn_0 hz
      | succ n ih =>
        intro z hg l3_4 l4_5 H locs ls hw hl hz
        obtain ⟨q_6, hf, hz⟩ := bPn_e hz
        have hf := u2_e ((congrFun eb _).symm.trans hf)
        refine lv_iload hx hb dX10_ahead_17 (lv_at hl 4 rfl) ?_
        refine lv_aload_n hx hb dX10_ahead_19 rfl (lv_at hl 0 rfl) ?_
        refine gI G hw h0 KX10 5 (by decide) rfl fl_X10_63 dX10_ahead_20 ?_
        refine lv_icmp_ge (tgt := 82) hx hb dX10_ahead_23 (by decide) (fun c_16 => ?_) (fun c_16 => ?_)
        · have hf := (if_pos c_16).symm.trans hf
          obtain rfl := Option.some.inj hf
          obtain rfl := Option.some.inj (hz : some _ = some _)
          exact R82_17 _ _ _ _ hw (lv_sub hl [3] rfl) hg
        · have hf := (if_neg c_16).symm.trans hf
          refine lv_iload hx hb dX10_ahead_26 (lv_at hl 4 rfl) ?_
          refine lv_bipush hx hb dX10_ahead_28 kb_8 ?_
          refine lv_icmp_ge (tgt := 82) hx hb dX10_ahead_30 (by decide) (fun c_15 => ?_) (fun c_15 => ?_)
          · have hf := (if_pos c_15).symm.trans hf
            obtain rfl := Option.some.inj hf
            obtain rfl := Option.some.inj (hz : some _ = some _)
            exact R82_17 _ _ _ _ hw (lv_sub hl [3] rfl) hg
          · have hf := (if_neg c_15).symm.trans hf
            refine lv_aload_n hx hb dX10_ahead_33 rfl (lv_at hl 0 rfl) ?_
            refine gF G hw h0 KX10 11 (k2 := (k0 + 4)) rfl (by decide) rfl fl_X10_23 dX10_ahead_34 ?_
            refine lv_iload hx hb dX10_ahead_37 (lv_at hl 4 rfl) ?_
            obtain ⟨hg_7, hf⟩ := bG_e hf
            refine aR G hw (sub_World_team hZ h0) hg_7 (j := l4_5.toNatClampNeg) (k2 := ((k0 + 28) + 2 * l4_5.toNatClampNeg)) rfl rfl dX10_ahead_39 ?_
            refine gI G hw (tm hZ (sub_World_team hZ h0) (vin_lt hg_7)) KX8 2 (by decide) rfl fl_X10_123 dX10_ahead_40 ?_
            refine lv_aload_n hx hb dX10_ahead_43 rfl (lv_at hl 2 rfl) ?_
            refine gI G hw ho_2 KX8 2 (by decide) rfl fl_X10_123 dX10_ahead_44 ?_
            obtain ⟨j76, ej, hf⟩ := bL_e hf
            have R76 : ∀ (l3_8 : Int32) (H : Heap) (locs : List Loc) (ls : Array Slot), Wd Z s S H locs → lv_has ls 5 [(0, .ref (za Z k0)), (1, .int a1), (2, .ref (za Z o_2)), (3, .int l3_8), (4, .int l4_5)] → j76 l3_8 = some q_6 → W p l e { frames := 4, cells := 0, slots := 0, locals := 81 } s m args below meth c H locs 0 0 Q (F0 m 76 ls []) := by
              intro l3_8 H locs ls hw hl hf
              have hf := (congrFun ej l3_8).symm.trans hf
              obtain ⟨l4_9, el4_9, hf⟩ := bL_e hf
              refine lv_iinc (v := l4_9) (lv' := [(4, .int l4_9), (0, .ref (za Z k0)), (1, .int a1), (2, .ref (za Z o_2)), (3, .int l3_8)]) hx hb dX10_ahead_76 hl (k := 4) rfl (by rw [el4_9]; rfl) (by decide) rfl (fun ls hl => ?_)
              refine lv_goto (tgt := 17) hx hb dX10_ahead_79 (by decide) ?_
              obtain rfl := Option.some.inj hf
              exact ih _ hg _ _ _ _ _ hw (lv_sub hl [1, 2, 3, 4, 0] rfl) hz
            clear ej
            obtain ⟨j73, ej, hf⟩ := bL_e hf
            have R73 : ∀ (H : Heap) (locs : List Loc) (ls : Array Slot), Wd Z s S H locs → lv_has ls 5 [(0, .ref (za Z k0)), (1, .int a1), (2, .ref (za Z o_2)), (3, .int l3_4), (4, .int l4_5)] → j73 () = some q_6 → W p l e { frames := 4, cells := 0, slots := 0, locals := 81 } s m args below meth c H locs 0 0 Q (F0 m 73 ls []) := by
              intro  H locs ls hw hl hf
              have hf := (congrFun ej ()).symm.trans hf
              obtain ⟨l3_10, el3_10, hf⟩ := bL_e hf
              refine lv_iinc (v := l3_10) (lv' := [(3, .int l3_10), (0, .ref (za Z k0)), (1, .int a1), (2, .ref (za Z o_2)), (4, .int l4_5)]) hx hb dX10_ahead_73 hl (k := 3) rfl (by rw [el3_10]; rfl) (by decide) rfl (fun ls hl => ?_)
              exact R76 _ _ _ _ hw (lv_sub hl [1, 2, 3, 0, 4] rfl) hf
            clear ej
            refine lv_icmp_gt (tgt := 73) hx hb dX10_ahead_47 (by decide) (fun c_14 => ?_) (fun c_14 => ?_)
            · have hf := (if_pos c_14).symm.trans hf
              exact R73 _ _ _ hw (lv_sub hl [0, 1, 2, 3, 4] rfl) hf
            · have hf := (if_neg c_14).symm.trans hf
              refine lv_aload_n hx hb dX10_ahead_50 rfl (lv_at hl 0 rfl) ?_
              refine gF G hw h0 KX10 11 (k2 := (k0 + 4)) rfl (by decide) rfl fl_X10_23 dX10_ahead_51 ?_
              refine lv_iload hx hb dX10_ahead_54 (lv_at hl 4 rfl) ?_
              obtain ⟨hg_11, hf⟩ := bG_e hf
              refine aR G hw (sub_World_team hZ h0) hg_11 (j := l4_5.toNatClampNeg) (k2 := ((k0 + 28) + 2 * l4_5.toNatClampNeg)) rfl rfl dX10_ahead_56 ?_
              refine gI G hw (tm hZ (sub_World_team hZ h0) (vin_lt hg_11)) KX8 2 (by decide) rfl fl_X10_123 dX10_ahead_57 ?_
              refine lv_aload_n hx hb dX10_ahead_60 rfl (lv_at hl 2 rfl) ?_
              refine gI G hw ho_2 KX8 2 (by decide) rfl fl_X10_123 dX10_ahead_61 ?_
              refine lv_icmp_ne (tgt := 76) hx hb dX10_ahead_64 (by decide) (fun c_13 => ?_) (fun c_13 => ?_)
              · have hf := (if_neg c_13).symm.trans hf
                exact R76 _ _ _ _ hw (lv_sub hl [0, 1, 2, 3, 4] rfl) hf
              · have hf := (if_pos c_13).symm.trans hf
                refine lv_iload hx hb dX10_ahead_67 (lv_at hl 4 rfl) ?_
                refine lv_iload_n hx hb dX10_ahead_69 rfl (lv_at hl 1 rfl) ?_
                refine lv_icmp_ge (tgt := 76) hx hb dX10_ahead_70 (by decide) (fun c_12 => ?_) (fun c_12 => ?_)
                · have hf := (if_pos c_12).symm.trans hf
                  exact R76 _ _ _ _ hw (lv_sub hl [0, 1, 2, 3, 4] rfl) hf
                · have hf := (if_neg c_12).symm.trans hf
                  exact R73 _ _ _ hw (lv_sub hl [0, 1, 2, 3, 4] rfl) hf
    clear eb
    obtain ⟨z, hz, hf⟩ := bB_e hf
    obtain ⟨n, hz⟩ := bP_e hz
    exact RL17 n z hf _ _ _ _ _ hw (lv_sub hl [3, 4, 2, 1, 0] rfl) hz
noncomputable def F11_place (S : pS) (a1 : Int32) : Option (Int32) :=
  bL (fun (_ : Unit) =>
    some ((-1) : Int32)) fun g33_2 =>
  bL (fun (l2_1 : Int32) =>
    some l2_1) fun g25_2 =>
  bL (u1 fun (l2_2 : Int32) =>
    if (S 1 5) ≤ l2_2 then
      some (.inr (.inl ()))
    else
      bB (F10_ahead S 1 l2_2) fun r_4 =>
      if r_4 = a1 then
        some (.inr (.inr l2_2))
      else
        bL (l2_2 + 1) fun l2_5 =>
        some (.inl l2_5)) fun b2 =>
  bB (bP b2 (0 : Int32)) (Sum.elim ((fun (_ : Unit) => g33_2 ())) (u1 g25_2))
set_option maxRecDepth 100000 in
set_option maxHeartbeats 4000000 in
theorem wX11_place {l : Launch} {Z : pZ}  (hZ : CC Z) (S : pS) (a1 : Int32) (r : Int32) (h0 : isA Z K_PF 0) (hf : F11_place S a1 = some r) : CI l Z yX11_place cX11_place 3 .int 5 105 [.ref (za Z 0), .int a1] S r S := by
  unfold F11_place at hf
  refine eI (own := RX11) (by decide) rfl (Nat.le_of_ble_eq_true rfl) (fun p e s m args below meth c Q ls G hl hw hret => ?_)
  obtain ⟨hx, hb, hml, hown, hts⟩ := G.1
  have hl : lv_has ls 3 [(0, .ref (za Z 0)), (1, .int a1)] := hl
  refine lv_iconst hx hb dX11_place_0 ki_0 ?_
  refine lv_istore_n (lv' := [(2, .int 0), (0, .ref (za Z 0)), (1, .int a1)]) hx hb dX11_place_1 rfl hl (by decide) rfl (fun ls hl => ?_)
  obtain ⟨g33_2, ej, hf⟩ := bL_e hf
  have R33_2 : ∀ (H : Heap) (locs : List Loc) (ls : Array Slot), Wd Z s S H locs → lv_has ls 3 [] → g33_2 () = some r → W p l e { frames := 5, cells := 0, slots := 0, locals := 105 } s m args below meth c H locs 0 0 Q (F0 m 33 ls []) := by
    intro  H locs ls hw hl hf
    have hf := (congrFun ej ()).symm.trans hf
    refine lv_iconst hx hb dX11_place_33 ki_m1 ?_
    exact hret _ _ _ _ _ dX11_place_34 (Option.some.inj hf) hw
  clear ej
  obtain ⟨g25_2, ej, hf⟩ := bL_e hf
  have R25_2 : ∀ (l2_1 : Int32) (H : Heap) (locs : List Loc) (ls : Array Slot), Wd Z s S H locs → lv_has ls 3 [(2, .int l2_1)] → g25_2 l2_1 = some r → W p l e { frames := 5, cells := 0, slots := 0, locals := 105 } s m args below meth c H locs 0 0 Q (F0 m 25 ls []) := by
    intro l2_1 H locs ls hw hl hf
    have hf := (congrFun ej l2_1).symm.trans hf
    refine lv_iload_n hx hb dX11_place_25 rfl (lv_at hl 0 rfl) ?_
    exact hret _ _ _ _ _ dX11_place_26 (Option.some.inj hf) hw
  clear ej
  obtain ⟨b2, eb, hf⟩ := bL_e hf
  have RL2 : ∀ (n : Nat) z, (Sum.elim ((fun (_ : Unit) => g33_2 ())) (u1 g25_2)) z = some r → ∀ (l2_2 : Int32) (H : Heap) (locs : List Loc) (ls : Array Slot), Wd Z s S H locs → lv_has ls 3 [(0, .ref (za Z 0)), (1, .int a1), (2, .int l2_2)] → bPn b2 n l2_2 = some z → W p l e { frames := 5, cells := 0, slots := 0, locals := 105 } s m args below meth c H locs 0 0 Q (F0 m 2 ls []) := by
    intro n
    induction n with
    | zero =>
      intro z hg l2_2 H locs ls hw hl hz
      exact bPn_0 hz
    | succ n ih =>
      intro z hg l2_2 H locs ls hw hl hz
      obtain ⟨q_3, hf, hz⟩ := bPn_e hz
      have hf := u1_e ((congrFun eb _).symm.trans hf)
      refine lv_iload_n hx hb dX11_place_2 rfl (lv_at hl 2 rfl) ?_
      refine lv_aload_n hx hb dX11_place_3 rfl (lv_at hl 0 rfl) ?_
      refine gF G hw h0 KX11 0 (k2 := 1) rfl (by decide) rfl fl_X11_10 dX11_place_4 ?_
      refine gI G hw (sub_PF_now hZ h0) KX10 5 (by decide) rfl fl_X11_62 dX11_place_7 ?_
      refine lv_icmp_ge (tgt := 33) hx hb dX11_place_10 (by decide) (fun c_7 => ?_) (fun c_7 => ?_)
      · have hf := (if_pos c_7).symm.trans hf
        obtain rfl := Option.some.inj hf
        obtain rfl := Option.some.inj (hz : some _ = some _)
        exact R33_2 _ _ _ hw (lv_sub hl [] rfl) hg
      · have hf := (if_neg c_7).symm.trans hf
        refine lv_aload_n hx hb dX11_place_13 rfl (lv_at hl 0 rfl) ?_
        refine gF G hw h0 KX11 0 (k2 := 1) rfl (by decide) rfl fl_X11_10 dX11_place_14 ?_
        refine lv_iload_n hx hb dX11_place_17 rfl (lv_at hl 2 rfl) ?_
        obtain ⟨r_4, hr_4, hf⟩ := bB_e hf
        refine kVi (rest := []) G hw (wX10_ahead hZ S 1 l2_2 r_4 (sub_PF_now hZ h0) hr_4) cw_X11_316 (sub_PF_now hZ h0) KX10 ⟨Nat.le_of_ble_eq_true rfl, Nat.le_of_ble_eq_true rfl⟩ rfl hl.1 rfl (Nat.le_of_ble_eq_true rfl) ⟨Nat.le_refl _, Nat.le_refl _⟩ dX11_place_18 (fun H locs hw => ?_)
        refine lv_iload_n hx hb dX11_place_21 rfl (lv_at hl 1 rfl) ?_
        refine lv_icmp_ne (tgt := 27) hx hb dX11_place_22 (by decide) (fun c_6 => ?_) (fun c_6 => ?_)
        · have hf := (if_neg c_6).symm.trans hf
          obtain ⟨l2_5, el2_5, hf⟩ := bL_e hf
          refine lv_iinc (v := l2_5) (lv' := [(2, .int l2_5), (0, .ref (za Z 0)), (1, .int a1)]) hx hb dX11_place_27 hl (k := 2) rfl (by rw [el2_5]; rfl) (by decide) rfl (fun ls hl => ?_)
          refine lv_goto (tgt := 2) hx hb dX11_place_30 (by decide) ?_
          obtain rfl := Option.some.inj hf
          exact ih _ hg _ _ _ _ hw (lv_sub hl [1, 2, 0] rfl) hz
        · have hf := (if_pos c_6).symm.trans hf
          obtain rfl := Option.some.inj hf
          obtain rfl := Option.some.inj (hz : some _ = some _)
          exact R25_2 _ _ _ _ hw (lv_sub hl [2] rfl) hg
  clear eb
  obtain ⟨z, hz, hf⟩ := bB_e hf
  obtain ⟨n, hz⟩ := bP_e hz
  exact RL2 n z hf _ _ _ _ hw (lv_sub hl [1, 2, 0] rfl) hz
noncomputable def F11_record (S : pS) (a1 : Int32) : Option (Int32) :=
  bL (fun (l2_1 : Int32) =>
    some l2_1) fun g77_4 =>
  bL (u2 fun (l2_2 : Int32) (l3_3 : Int32) =>
    if (S 1 6) ≤ l3_3 then
      some (.inr l2_2)
    else
      bB (F10_column S 1 l3_3 8) fun r_5 =>
      bL (fun (l2_6 : Int32) =>
        bL (l3_3 + 1) fun l3_7 =>
        some (.inl (l2_6, l3_7))) fun j71 =>
      if r_5 = 0 then
        bB (F10_column S 1 l3_3 3) fun r_8 =>
        if r_8 = a1 then
          bL (fun (_ : Unit) =>
            j71 l3_3) fun j69 =>
          if l2_2 = (-1) then
            j69 ()
          else
            bB (F10_column S 1 l3_3 7) fun r_9 =>
            bB (F10_column S 1 l2_2 7) fun r_10 =>
            if r_9 ≤ r_10 then
              j71 l2_2
            else
              j69 ()
        else
          j71 l2_2
      else
        j71 l2_2) fun b4 =>
  bB (bP b4 (((-1) : Int32), (0 : Int32))) (u1 g77_4)
set_option maxRecDepth 100000 in
set_option maxHeartbeats 4000000 in
theorem wX11_record {l : Launch} {Z : pZ}  (hZ : CC Z) (S : pS) (a1 : Int32) (r : Int32) (h0 : isA Z K_PF 0) (hf : F11_record S a1 = some r) : CI l Z yX11_record cX11_record 4 .int 5 104 [.ref (za Z 0), .int a1] S r S := by
  unfold F11_record at hf
  refine eI (own := RX11) (by decide) rfl (Nat.le_of_ble_eq_true rfl) (fun p e s m args below meth c Q ls G hl hw hret => ?_)
  obtain ⟨hx, hb, hml, hown, hts⟩ := G.1
  have hl : lv_has ls 4 [(0, .ref (za Z 0)), (1, .int a1)] := hl
  refine lv_iconst hx hb dX11_record_0 ki_m1 ?_
  refine lv_istore_n (lv' := [(2, .int (-1)), (0, .ref (za Z 0)), (1, .int a1)]) hx hb dX11_record_1 rfl hl (by decide) rfl (fun ls hl => ?_)
  refine lv_iconst hx hb dX11_record_2 ki_0 ?_
  refine lv_istore_n (lv' := [(3, .int 0), (2, .int (-1)), (0, .ref (za Z 0)), (1, .int a1)]) hx hb dX11_record_3 rfl hl (by decide) rfl (fun ls hl => ?_)
  obtain ⟨g77_4, ej, hf⟩ := bL_e hf
  have R77_4 : ∀ (l2_1 : Int32) (H : Heap) (locs : List Loc) (ls : Array Slot), Wd Z s S H locs → lv_has ls 4 [(2, .int l2_1)] → g77_4 l2_1 = some r → W p l e { frames := 5, cells := 0, slots := 0, locals := 104 } s m args below meth c H locs 0 0 Q (F0 m 77 ls []) := by
    intro l2_1 H locs ls hw hl hf
    have hf := (congrFun ej l2_1).symm.trans hf
    refine lv_iload_n hx hb dX11_record_77 rfl (lv_at hl 0 rfl) ?_
    exact hret _ _ _ _ _ dX11_record_78 (Option.some.inj hf) hw
  clear ej
  obtain ⟨b4, eb, hf⟩ := bL_e hf
  have RL4 : ∀ (n : Nat) z, (u1 g77_4) z = some r → ∀ (l2_2 : Int32) (l3_3 : Int32) (H : Heap) (locs : List Loc) (ls : Array Slot), Wd Z s S H locs → lv_has ls 4 [(0, .ref (za Z 0)), (1, .int a1), (2, .int l2_2), (3, .int l3_3)] → bPn b4 n (l2_2, l3_3) = some z → W p l e { frames := 5, cells := 0, slots := 0, locals := 104 } s m args below meth c H locs 0 0 Q (F0 m 4 ls []) := by
    intro n
    induction n with
    | zero =>
      intro z hg l2_2 l3_3 H locs ls hw hl hz
      exact bPn_0 hz
    | succ n ih =>
      intro z hg l2_2 l3_3 H locs ls hw hl hz
      obtain ⟨q_4, hf, hz⟩ := bPn_e hz
      have hf := u2_e ((congrFun eb _).symm.trans hf)
      refine lv_iload_n hx hb dX11_record_4 rfl (lv_at hl 3 rfl) ?_
      refine lv_aload_n hx hb dX11_record_5 rfl (lv_at hl 0 rfl) ?_
      refine gF G hw h0 KX11 0 (k2 := 1) rfl (by decide) rfl fl_X11_10 dX11_record_6 ?_
      refine gI G hw (sub_PF_now hZ h0) KX10 6 (by decide) rfl fl_X11_319 dX11_record_9 ?_
      refine lv_icmp_ge (tgt := 77) hx hb dX11_record_12 (by decide) (fun c_15 => ?_) (fun c_15 => ?_)
      · have hf := (if_pos c_15).symm.trans hf
        obtain rfl := Option.some.inj hf
        obtain rfl := Option.some.inj (hz : some _ = some _)
        exact R77_4 _ _ _ _ hw (lv_sub hl [2] rfl) hg
      · have hf := (if_neg c_15).symm.trans hf
        refine lv_aload_n hx hb dX11_record_15 rfl (lv_at hl 0 rfl) ?_
        refine gF G hw h0 KX11 0 (k2 := 1) rfl (by decide) rfl fl_X11_10 dX11_record_16 ?_
        refine lv_iload_n hx hb dX11_record_19 rfl (lv_at hl 3 rfl) ?_
        refine lv_bipush hx hb dX11_record_20 kb_8 ?_
        obtain ⟨r_5, hr_5, hf⟩ := bB_e hf
        refine kVi (rest := []) G hw (wX10_column hZ S 1 l3_3 8 r_5 (sub_PF_now hZ h0) hr_5) cw_X11_313 (sub_PF_now hZ h0) KX10 ⟨Nat.le_of_ble_eq_true rfl, Nat.le_of_ble_eq_true rfl⟩ rfl hl.1 rfl (Nat.le_of_ble_eq_true rfl) ⟨Nat.le_refl _, Nat.le_refl _⟩ dX11_record_22 (fun H locs hw => ?_)
        obtain ⟨j71, ej, hf⟩ := bL_e hf
        have R71 : ∀ (l2_6 : Int32) (H : Heap) (locs : List Loc) (ls : Array Slot), Wd Z s S H locs → lv_has ls 4 [(0, .ref (za Z 0)), (1, .int a1), (2, .int l2_6), (3, .int l3_3)] → j71 l2_6 = some q_4 → W p l e { frames := 5, cells := 0, slots := 0, locals := 104 } s m args below meth c H locs 0 0 Q (F0 m 71 ls []) := by
          intro l2_6 H locs ls hw hl hf
          have hf := (congrFun ej l2_6).symm.trans hf
          obtain ⟨l3_7, el3_7, hf⟩ := bL_e hf
          refine lv_iinc (v := l3_7) (lv' := [(3, .int l3_7), (0, .ref (za Z 0)), (1, .int a1), (2, .int l2_6)]) hx hb dX11_record_71 hl (k := 3) rfl (by rw [el3_7]; rfl) (by decide) rfl (fun ls hl => ?_)
          refine lv_goto (tgt := 4) hx hb dX11_record_74 (by decide) ?_
          obtain rfl := Option.some.inj hf
          exact ih _ hg _ _ _ _ _ hw (lv_sub hl [1, 2, 3, 0] rfl) hz
        clear ej
        refine lv_if_ne (tgt := 71) hx hb dX11_record_25 (by decide) (fun c_14 => ?_) (fun c_14 => ?_)
        · have hf := (if_neg c_14).symm.trans hf
          exact R71 _ _ _ _ hw (lv_sub hl [0, 1, 2, 3] rfl) hf
        · have hf := (if_pos c_14).symm.trans hf
          refine lv_aload_n hx hb dX11_record_28 rfl (lv_at hl 0 rfl) ?_
          refine gF G hw h0 KX11 0 (k2 := 1) rfl (by decide) rfl fl_X11_10 dX11_record_29 ?_
          refine lv_iload_n hx hb dX11_record_32 rfl (lv_at hl 3 rfl) ?_
          refine lv_iconst hx hb dX11_record_33 ki_3 ?_
          obtain ⟨r_8, hr_8, hf⟩ := bB_e hf
          refine kVi (rest := []) G hw (wX10_column hZ S 1 l3_3 3 r_8 (sub_PF_now hZ h0) hr_8) cw_X11_313 (sub_PF_now hZ h0) KX10 ⟨Nat.le_of_ble_eq_true rfl, Nat.le_of_ble_eq_true rfl⟩ rfl hl.1 rfl (Nat.le_of_ble_eq_true rfl) ⟨Nat.le_refl _, Nat.le_refl _⟩ dX11_record_34 (fun H locs hw => ?_)
          refine lv_iload_n hx hb dX11_record_37 rfl (lv_at hl 1 rfl) ?_
          refine lv_icmp_ne (tgt := 71) hx hb dX11_record_38 (by decide) (fun c_13 => ?_) (fun c_13 => ?_)
          · have hf := (if_neg c_13).symm.trans hf
            exact R71 _ _ _ _ hw (lv_sub hl [0, 1, 2, 3] rfl) hf
          · have hf := (if_pos c_13).symm.trans hf
            refine lv_iload_n hx hb dX11_record_41 rfl (lv_at hl 2 rfl) ?_
            refine lv_iconst hx hb dX11_record_42 ki_m1 ?_
            obtain ⟨j69, ej, hf⟩ := bL_e hf
            have R69 : ∀ (H : Heap) (locs : List Loc) (ls : Array Slot), Wd Z s S H locs → lv_has ls 4 [(0, .ref (za Z 0)), (1, .int a1), (3, .int l3_3)] → j69 () = some q_4 → W p l e { frames := 5, cells := 0, slots := 0, locals := 104 } s m args below meth c H locs 0 0 Q (F0 m 69 ls []) := by
              intro  H locs ls hw hl hf
              have hf := (congrFun ej ()).symm.trans hf
              refine lv_iload_n hx hb dX11_record_69 rfl (lv_at hl 2 rfl) ?_
              refine lv_istore_n (lv' := [(2, .int l3_3), (0, .ref (za Z 0)), (1, .int a1), (3, .int l3_3)]) hx hb dX11_record_70 rfl hl (by decide) rfl (fun ls hl => ?_)
              exact R71 _ _ _ _ hw (lv_sub hl [1, 2, 0, 3] rfl) hf
            clear ej
            refine lv_icmp_eq (tgt := 69) hx hb dX11_record_43 (by decide) (fun c_12 => ?_) (fun c_12 => ?_)
            · have hf := (if_pos c_12).symm.trans hf
              exact R69 _ _ _ hw (lv_sub hl [0, 1, 3] rfl) hf
            · have hf := (if_neg c_12).symm.trans hf
              refine lv_aload_n hx hb dX11_record_46 rfl (lv_at hl 0 rfl) ?_
              refine gF G hw h0 KX11 0 (k2 := 1) rfl (by decide) rfl fl_X11_10 dX11_record_47 ?_
              refine lv_iload_n hx hb dX11_record_50 rfl (lv_at hl 3 rfl) ?_
              refine lv_bipush hx hb dX11_record_51 kb_7 ?_
              obtain ⟨r_9, hr_9, hf⟩ := bB_e hf
              refine kVi (rest := []) G hw (wX10_column hZ S 1 l3_3 7 r_9 (sub_PF_now hZ h0) hr_9) cw_X11_313 (sub_PF_now hZ h0) KX10 ⟨Nat.le_of_ble_eq_true rfl, Nat.le_of_ble_eq_true rfl⟩ rfl hl.1 rfl (Nat.le_of_ble_eq_true rfl) ⟨Nat.le_refl _, Nat.le_refl _⟩ dX11_record_53 (fun H locs hw => ?_)
              refine lv_aload_n hx hb dX11_record_56 rfl (lv_at hl 0 rfl) ?_
              refine gF G hw h0 KX11 0 (k2 := 1) rfl (by decide) rfl fl_X11_10 dX11_record_57 ?_
              refine lv_iload_n hx hb dX11_record_60 rfl (lv_at hl 2 rfl) ?_
              refine lv_bipush hx hb dX11_record_61 kb_7 ?_
              obtain ⟨r_10, hr_10, hf⟩ := bB_e hf
              refine kVi (rest := [.int r_9]) G hw (wX10_column hZ S 1 l2_2 7 r_10 (sub_PF_now hZ h0) hr_10) cw_X11_313 (sub_PF_now hZ h0) KX10 ⟨Nat.le_of_ble_eq_true rfl, Nat.le_of_ble_eq_true rfl⟩ rfl hl.1 rfl (Nat.le_of_ble_eq_true rfl) ⟨Nat.le_refl _, Nat.le_refl _⟩ dX11_record_63 (fun H locs hw => ?_)
              refine lv_icmp_le (tgt := 71) hx hb dX11_record_66 (by decide) (fun c_11 => ?_) (fun c_11 => ?_)
              · have hf := (if_pos c_11).symm.trans hf
                exact R71 _ _ _ _ hw (lv_sub hl [0, 1, 2, 3] rfl) hf
              · have hf := (if_neg c_11).symm.trans hf
                exact R69 _ _ _ hw (lv_sub hl [0, 1, 3] rfl) hf
  clear eb
  obtain ⟨z, hz, hf⟩ := bB_e hf
  obtain ⟨n, hz⟩ := bP_e hz
  exact RL4 n z hf _ _ _ _ _ hw (lv_sub hl [2, 3, 1, 0] rfl) hz
noncomputable def F10_bestBefore (S : pS) (k0 : Nat) (a1 : Int32) (a2 : Int32) : Option (Int32) :=
  bL (fun (l3_1 : Int32) =>
    some l3_1) fun g65_5 =>
  bL (u2 fun (l3_2 : Int32) (l4_3 : Int32) =>
    if (S k0 6) ≤ l4_3 then
      some (.inr l3_2)
    else
      bB (F10_isToday S k0 l4_3 a1) fun r_5 =>
      bL (fun (l3_6 : Int32) =>
        bL (l4_3 + 1) fun l4_7 =>
        some (.inl (l3_6, l4_7))) fun j59 =>
      if r_5 = 0 then
        j59 l3_2
      else
        bB (F10_column S k0 l4_3 8) fun r_8 =>
        if r_8 = 0 then
          bB (F10_column S k0 l4_3 1) fun r_9 =>
          if a2 ≤ r_9 then
            j59 l3_2
          else
            bB (F10_column S k0 l4_3 7) fun r_10 =>
            bL (jmax l3_2 r_10) fun l3_11 =>
            j59 l3_11
        else
          j59 l3_2) fun b5 =>
  bB (bP b5 ((0 : Int32), (0 : Int32))) (u1 g65_5)
set_option maxRecDepth 100000 in
set_option maxHeartbeats 4000000 in
theorem wX10_bestBefore {l : Launch} {Z : pZ}  (hZ : CC Z) (S : pS) (k0 : Nat) (a1 : Int32) (a2 : Int32) (r : Int32) (h0 : isA Z K_World k0) (hf : F10_bestBefore S k0 a1 a2 = some r) : CI l Z yX10_bestBefore cX10_bestBefore 5 .int 6 126 [.ref (za Z k0), .int a1, .int a2] S r S := by
  unfold F10_bestBefore at hf
  refine eI (own := RX10) (by decide) rfl (Nat.le_of_ble_eq_true rfl) (fun p e s m args below meth c Q ls G hl hw hret => ?_)
  obtain ⟨hx, hb, hml, hown, hts⟩ := G.1
  have hl : lv_has ls 5 [(0, .ref (za Z k0)), (1, .int a1), (2, .int a2)] := hl
  refine lv_iconst hx hb dX10_bestBefore_0 ki_0 ?_
  refine lv_istore_n (lv' := [(3, .int 0), (0, .ref (za Z k0)), (1, .int a1), (2, .int a2)]) hx hb dX10_bestBefore_1 rfl hl (by decide) rfl (fun ls hl => ?_)
  refine lv_iconst hx hb dX10_bestBefore_2 ki_0 ?_
  refine lv_istore (lv' := [(4, .int 0), (3, .int 0), (0, .ref (za Z k0)), (1, .int a1), (2, .int a2)]) hx hb dX10_bestBefore_3 hl (by decide) rfl (fun ls hl => ?_)
  obtain ⟨g65_5, ej, hf⟩ := bL_e hf
  have R65_5 : ∀ (l3_1 : Int32) (H : Heap) (locs : List Loc) (ls : Array Slot), Wd Z s S H locs → lv_has ls 5 [(3, .int l3_1)] → g65_5 l3_1 = some r → W p l e { frames := 6, cells := 0, slots := 0, locals := 126 } s m args below meth c H locs 0 0 Q (F0 m 65 ls []) := by
    intro l3_1 H locs ls hw hl hf
    have hf := (congrFun ej l3_1).symm.trans hf
    refine lv_iload_n hx hb dX10_bestBefore_65 rfl (lv_at hl 0 rfl) ?_
    exact hret _ _ _ _ _ dX10_bestBefore_66 (Option.some.inj hf) hw
  clear ej
  obtain ⟨b5, eb, hf⟩ := bL_e hf
  have RL5 : ∀ (n : Nat) z, (u1 g65_5) z = some r → ∀ (l3_2 : Int32) (l4_3 : Int32) (H : Heap) (locs : List Loc) (ls : Array Slot), Wd Z s S H locs → lv_has ls 5 [(0, .ref (za Z k0)), (1, .int a1), (2, .int a2), (3, .int l3_2), (4, .int l4_3)] → bPn b5 n (l3_2, l4_3) = some z → W p l e { frames := 6, cells := 0, slots := 0, locals := 126 } s m args below meth c H locs 0 0 Q (F0 m 5 ls []) := by
    intro n
    induction n with
    | zero =>
      intro z hg l3_2 l4_3 H locs ls hw hl hz
      exact bPn_0 hz
    | succ n ih =>
      intro z hg l3_2 l4_3 H locs ls hw hl hz
      obtain ⟨q_4, hf, hz⟩ := bPn_e hz
      have hf := u2_e ((congrFun eb _).symm.trans hf)
      refine lv_iload hx hb dX10_bestBefore_5 (lv_at hl 4 rfl) ?_
      refine lv_aload_n hx hb dX10_bestBefore_7 rfl (lv_at hl 0 rfl) ?_
      refine gI G hw h0 KX10 6 (by decide) rfl fl_X10_66 dX10_bestBefore_8 ?_
      refine lv_icmp_ge (tgt := 65) hx hb dX10_bestBefore_11 (by decide) (fun c_15 => ?_) (fun c_15 => ?_)
      · have hf := (if_pos c_15).symm.trans hf
        obtain rfl := Option.some.inj hf
        obtain rfl := Option.some.inj (hz : some _ = some _)
        exact R65_5 _ _ _ _ hw (lv_sub hl [3] rfl) hg
      · have hf := (if_neg c_15).symm.trans hf
        refine lv_aload_n hx hb dX10_bestBefore_14 rfl (lv_at hl 0 rfl) ?_
        refine lv_iload hx hb dX10_bestBefore_15 (lv_at hl 4 rfl) ?_
        refine lv_iload_n hx hb dX10_bestBefore_17 rfl (lv_at hl 1 rfl) ?_
        obtain ⟨r_5, hr_5, hf⟩ := bB_e hf
        refine kVi (rest := []) G hw (wX10_isToday hZ S k0 l4_3 a1 r_5 h0 hr_5) cw_X10_114 h0 KX10 ⟨Nat.le_of_ble_eq_true rfl, Nat.le_of_ble_eq_true rfl⟩ rfl hl.1 rfl (Nat.le_of_ble_eq_true rfl) ⟨Nat.le_refl _, Nat.le_refl _⟩ dX10_bestBefore_18 (fun H locs hw => ?_)
        obtain ⟨j59, ej, hf⟩ := bL_e hf
        have R59 : ∀ (l3_6 : Int32) (H : Heap) (locs : List Loc) (ls : Array Slot), Wd Z s S H locs → lv_has ls 5 [(0, .ref (za Z k0)), (1, .int a1), (2, .int a2), (3, .int l3_6), (4, .int l4_3)] → j59 l3_6 = some q_4 → W p l e { frames := 6, cells := 0, slots := 0, locals := 126 } s m args below meth c H locs 0 0 Q (F0 m 59 ls []) := by
          intro l3_6 H locs ls hw hl hf
          have hf := (congrFun ej l3_6).symm.trans hf
          obtain ⟨l4_7, el4_7, hf⟩ := bL_e hf
          refine lv_iinc (v := l4_7) (lv' := [(4, .int l4_7), (0, .ref (za Z k0)), (1, .int a1), (2, .int a2), (3, .int l3_6)]) hx hb dX10_bestBefore_59 hl (k := 4) rfl (by rw [el4_7]; rfl) (by decide) rfl (fun ls hl => ?_)
          refine lv_goto (tgt := 5) hx hb dX10_bestBefore_62 (by decide) ?_
          obtain rfl := Option.some.inj hf
          exact ih _ hg _ _ _ _ _ hw (lv_sub hl [1, 2, 3, 4, 0] rfl) hz
        clear ej
        refine lv_if_eq (tgt := 59) hx hb dX10_bestBefore_21 (by decide) (fun c_14 => ?_) (fun c_14 => ?_)
        · have hf := (if_pos c_14).symm.trans hf
          exact R59 _ _ _ _ hw (lv_sub hl [0, 1, 2, 3, 4] rfl) hf
        · have hf := (if_neg c_14).symm.trans hf
          refine lv_aload_n hx hb dX10_bestBefore_24 rfl (lv_at hl 0 rfl) ?_
          refine lv_iload hx hb dX10_bestBefore_25 (lv_at hl 4 rfl) ?_
          refine lv_bipush hx hb dX10_bestBefore_27 kb_8 ?_
          obtain ⟨r_8, hr_8, hf⟩ := bB_e hf
          refine kVi (rest := []) G hw (wX10_column hZ S k0 l4_3 8 r_8 h0 hr_8) cw_X10_110 h0 KX10 ⟨Nat.le_of_ble_eq_true rfl, Nat.le_of_ble_eq_true rfl⟩ rfl hl.1 rfl (Nat.le_of_ble_eq_true rfl) ⟨Nat.le_refl _, Nat.le_refl _⟩ dX10_bestBefore_29 (fun H locs hw => ?_)
          refine lv_if_ne (tgt := 59) hx hb dX10_bestBefore_32 (by decide) (fun c_13 => ?_) (fun c_13 => ?_)
          · have hf := (if_neg c_13).symm.trans hf
            exact R59 _ _ _ _ hw (lv_sub hl [0, 1, 2, 3, 4] rfl) hf
          · have hf := (if_pos c_13).symm.trans hf
            refine lv_aload_n hx hb dX10_bestBefore_35 rfl (lv_at hl 0 rfl) ?_
            refine lv_iload hx hb dX10_bestBefore_36 (lv_at hl 4 rfl) ?_
            refine lv_iconst hx hb dX10_bestBefore_38 ki_1 ?_
            obtain ⟨r_9, hr_9, hf⟩ := bB_e hf
            refine kVi (rest := []) G hw (wX10_column hZ S k0 l4_3 1 r_9 h0 hr_9) cw_X10_110 h0 KX10 ⟨Nat.le_of_ble_eq_true rfl, Nat.le_of_ble_eq_true rfl⟩ rfl hl.1 rfl (Nat.le_of_ble_eq_true rfl) ⟨Nat.le_refl _, Nat.le_refl _⟩ dX10_bestBefore_39 (fun H locs hw => ?_)
            refine lv_iload_n hx hb dX10_bestBefore_42 rfl (lv_at hl 2 rfl) ?_
            refine lv_icmp_ge (tgt := 59) hx hb dX10_bestBefore_43 (by decide) (fun c_12 => ?_) (fun c_12 => ?_)
            · have hf := (if_pos c_12).symm.trans hf
              exact R59 _ _ _ _ hw (lv_sub hl [0, 1, 2, 3, 4] rfl) hf
            · have hf := (if_neg c_12).symm.trans hf
              refine lv_iload_n hx hb dX10_bestBefore_46 rfl (lv_at hl 3 rfl) ?_
              refine lv_aload_n hx hb dX10_bestBefore_47 rfl (lv_at hl 0 rfl) ?_
              refine lv_iload hx hb dX10_bestBefore_48 (lv_at hl 4 rfl) ?_
              refine lv_bipush hx hb dX10_bestBefore_50 kb_7 ?_
              obtain ⟨r_10, hr_10, hf⟩ := bB_e hf
              refine kVi (rest := [.int l3_2]) G hw (wX10_column hZ S k0 l4_3 7 r_10 h0 hr_10) cw_X10_110 h0 KX10 ⟨Nat.le_of_ble_eq_true rfl, Nat.le_of_ble_eq_true rfl⟩ rfl hl.1 rfl (Nat.le_of_ble_eq_true rfl) ⟨Nat.le_refl _, Nat.le_refl _⟩ dX10_bestBefore_52 (fun H locs hw => ?_)
              refine xmax G hl.1 ml_X10_118 (Nat.le_of_ble_eq_true rfl) (Nat.le_of_ble_eq_true rfl) ⟨Nat.le_refl _, Nat.le_refl _⟩ dX10_bestBefore_55 ?_
              obtain ⟨l3_11, el3_11, hf⟩ := bL_e hf
              refine top_i el3_11 ?_
              refine lv_istore_n (lv' := [(3, .int l3_11), (0, .ref (za Z k0)), (1, .int a1), (2, .int a2), (4, .int l4_3)]) hx hb dX10_bestBefore_58 rfl hl (by decide) rfl (fun ls hl => ?_)
              exact R59 _ _ _ _ hw (lv_sub hl [1, 2, 3, 0, 4] rfl) hf
  clear eb
  obtain ⟨z, hz, hf⟩ := bB_e hf
  obtain ⟨n, hz⟩ := bP_e hz
  exact RL5 n z hf _ _ _ _ _ hw (lv_sub hl [2, 3, 4, 1, 0] rfl) hz
noncomputable def F11_after (S : pS) (a1 : Int32) (a2 : Int32) : Option (Int32) :=
  bB (F10_one S 1 a1) fun r_1 =>
  bL (fun (_ : Unit) =>
    some ((-1) : Int32)) fun j33 =>
  bO r_1 (
    j33 ()) fun o_2 =>
  if (F11_within a2 0 6) = 0 then
    j33 ()
  else
    bB (F10_bestBefore S 1 a1 a2) fun r_3 =>
    some r_3
set_option maxRecDepth 100000 in
set_option maxHeartbeats 4000000 in
theorem wX11_after {l : Launch} {Z : pZ}  (hZ : CC Z) (S : pS) (a1 : Int32) (a2 : Int32) (r : Int32) (h0 : isA Z K_PF 0) (hf : F11_after S a1 a2 = some r) : CI l Z yX11_after cX11_after 3 .int 7 150 [.ref (za Z 0), .int a1, .int a2] S r S := by
  unfold F11_after at hf
  refine eI (own := RX11) (by decide) rfl (Nat.le_of_ble_eq_true rfl) (fun p e s m args below meth c Q ls G hl hw hret => ?_)
  obtain ⟨hx, hb, hml, hown, hts⟩ := G.1
  have hl : lv_has ls 3 [(0, .ref (za Z 0)), (1, .int a1), (2, .int a2)] := hl
  refine lv_aload_n hx hb dX11_after_0 rfl (lv_at hl 0 rfl) ?_
  refine gF G hw h0 KX11 0 (k2 := 1) rfl (by decide) rfl fl_X11_10 dX11_after_1 ?_
  refine lv_iload_n hx hb dX11_after_4 rfl (lv_at hl 1 rfl) ?_
  obtain ⟨r_1, hr_1, hf⟩ := bB_e hf
  refine kVq (rest := []) G hw (wX10_one hZ S 1 a1 r_1 (sub_PF_now hZ h0) hr_1) cw_X11_80 (sub_PF_now hZ h0) KX10 ⟨Nat.le_of_ble_eq_true rfl, Nat.le_of_ble_eq_true rfl⟩ rfl hl.1 rfl (Nat.le_of_ble_eq_true rfl) ⟨Nat.le_refl _, Nat.le_refl _⟩ dX11_after_5 (fun H locs hw => ?_)
  obtain ⟨j33, ej, hf⟩ := bL_e hf
  have R33 : ∀ (H : Heap) (locs : List Loc) (ls : Array Slot), Wd Z s S H locs → lv_has ls 3 [] → j33 () = some r → W p l e { frames := 7, cells := 0, slots := 0, locals := 150 } s m args below meth c H locs 0 0 Q (F0 m 33 ls []) := by
    intro  H locs ls hw hl hf
    have hf := (congrFun ej ()).symm.trans hf
    refine lv_iconst hx hb dX11_after_33 ki_m1 ?_
    exact hret _ _ _ _ _ dX11_after_34 (Option.some.inj hf) hw
  clear ej
  refine ifnQ (tgt := 33) hx hb dX11_after_8 (by decide) (fun e_5 => ?_) (fun o_2 e_5 => ?_)
  · subst e_5
    have hf := bO_n rfl hf
    exact R33 _ _ _ hw (lv_sub hl [] rfl) hf
  · subst e_5
    have hf := bO_s rfl hf
    have ho_2 := ret_X10_one hZ S 1 a1 (sub_PF_now hZ h0) (hr_1.trans (congrArg some rfl))
    refine lv_iload_n hx hb dX11_after_11 rfl (lv_at hl 2 rfl) ?_
    refine lv_iconst hx hb dX11_after_12 ki_0 ?_
    refine lv_bipush hx hb dX11_after_13 kb_6 ?_
    refine kSi (rest := []) G hw (wX11_within hZ S a2 0 6 (F11_within a2 0 6) rfl) cw_X11_51 ⟨Nat.le_of_ble_eq_true rfl, Nat.le_of_ble_eq_true rfl⟩ rfl hl.1 rfl (Nat.le_of_ble_eq_true rfl) ⟨Nat.le_refl _, Nat.le_refl _⟩ dX11_after_15 (fun H locs hw => ?_)
    refine lv_if_eq (tgt := 33) hx hb dX11_after_18 (by decide) (fun c_4 => ?_) (fun c_4 => ?_)
    · have hf := (if_pos c_4).symm.trans hf
      exact R33 _ _ _ hw (lv_sub hl [] rfl) hf
    · have hf := (if_neg c_4).symm.trans hf
      refine lv_aload_n hx hb dX11_after_21 rfl (lv_at hl 0 rfl) ?_
      refine gF G hw h0 KX11 0 (k2 := 1) rfl (by decide) rfl fl_X11_10 dX11_after_22 ?_
      refine lv_iload_n hx hb dX11_after_25 rfl (lv_at hl 1 rfl) ?_
      refine lv_iload_n hx hb dX11_after_26 rfl (lv_at hl 2 rfl) ?_
      obtain ⟨r_3, hr_3, hf⟩ := bB_e hf
      refine kVi (rest := []) G hw (wX10_bestBefore hZ S 1 a1 a2 r_3 (sub_PF_now hZ h0) hr_3) cw_X11_320 (sub_PF_now hZ h0) KX10 ⟨Nat.le_of_ble_eq_true rfl, Nat.le_of_ble_eq_true rfl⟩ rfl hl.1 rfl (Nat.le_of_ble_eq_true rfl) ⟨Nat.le_refl _, Nat.le_refl _⟩ dX11_after_27 (fun H locs hw => ?_)
      refine lv_goto (tgt := 34) hx hb dX11_after_30 (by decide) ?_
      exact hret _ _ _ _ _ dX11_after_34 (Option.some.inj hf) hw
noncomputable def F11_look (S : pS) (a1 : Int32) : Option (Int32) :=
  if a1 = 0 then
    some (S 1 4)
  else if a1 = 1 then
    some (S 1 5)
  else if a1 = 2 then
    some (S 1 2)
  else if a1 = 3 then
    some (S 1 3)
  else if a1 = 4 then
    some (S 1 1)
  else if a1 = 5 then
    some (S 1 6)
  else if a1 = 6 then
    some (S 1 0)
  else if a1 = 7 then
    some (S 8 0)
  else if a1 = 8 then
    some (S 15 0)
  else if a1 = 9 then
    some (S 65 0)
  else if a1 = 10 then
    some (S 1 7)
  else if a1 = 11 then
    some (S 22 0)
  else 
    if (F11_within a1 20 24) = 0 then
      some ((-1000) : Int32)
    else
      bG (vp_in (a1 - 20) 5) <|
      some (S 2 ((a1 - 20).toNatClampNeg))
set_option maxRecDepth 100000 in
set_option maxHeartbeats 4000000 in
theorem wX11_look {l : Launch} {Z : pZ}  (hZ : CC Z) (S : pS) (a1 : Int32) (r : Int32) (h0 : isA Z K_PF 0) (hf : F11_look S a1 = some r) : CI l Z yX11_look cX11_look 2 .int 4 82 [.ref (za Z 0), .int a1] S r S := by
  unfold F11_look at hf
  refine eI (own := RX11) (by decide) rfl (Nat.le_of_ble_eq_true rfl) (fun p e s m args below meth c Q ls G hl hw hret => ?_)
  obtain ⟨hx, hb, hml, hown, hts⟩ := G.1
  have hl : lv_has ls 2 [(0, .ref (za Z 0)), (1, .int a1)] := hl
  refine lv_iload_n hx hb dX11_look_0 rfl (lv_at hl 1 rfl) ?_
  by_cases c_1 : a1 = 0
  · have hf := (if_pos c_1).symm.trans hf
    refine lv_tableIn (tgt := 64) hx hb dX11_look_1 (by rw [c_1]; decide) (by rw [c_1]; decide) (off := 63) (by rw [c_1]; decide) (by decide) ?_
    refine lv_aload_n hx hb dX11_look_64 rfl (lv_at hl 0 rfl) ?_
    refine gF G hw h0 KX11 0 (k2 := 1) rfl (by decide) rfl fl_X11_10 dX11_look_65 ?_
    refine gI G hw (sub_PF_now hZ h0) KX10 4 (by decide) rfl fl_X11_55 dX11_look_68 ?_
    exact hret _ _ _ _ _ dX11_look_71 (Option.some.inj hf) hw
  have hf := (if_neg c_1).symm.trans hf
  by_cases c_2 : a1 = 1
  · have hf := (if_pos c_2).symm.trans hf
    refine lv_tableIn (tgt := 72) hx hb dX11_look_1 (by rw [c_2]; decide) (by rw [c_2]; decide) (off := 71) (by rw [c_2]; decide) (by decide) ?_
    refine lv_aload_n hx hb dX11_look_72 rfl (lv_at hl 0 rfl) ?_
    refine gF G hw h0 KX11 0 (k2 := 1) rfl (by decide) rfl fl_X11_10 dX11_look_73 ?_
    refine gI G hw (sub_PF_now hZ h0) KX10 5 (by decide) rfl fl_X11_62 dX11_look_76 ?_
    exact hret _ _ _ _ _ dX11_look_79 (Option.some.inj hf) hw
  have hf := (if_neg c_2).symm.trans hf
  by_cases c_3 : a1 = 2
  · have hf := (if_pos c_3).symm.trans hf
    refine lv_tableIn (tgt := 80) hx hb dX11_look_1 (by rw [c_3]; decide) (by rw [c_3]; decide) (off := 79) (by rw [c_3]; decide) (by decide) ?_
    refine lv_aload_n hx hb dX11_look_80 rfl (lv_at hl 0 rfl) ?_
    refine gF G hw h0 KX11 0 (k2 := 1) rfl (by decide) rfl fl_X11_10 dX11_look_81 ?_
    refine gI G hw (sub_PF_now hZ h0) KX10 2 (by decide) rfl fl_X11_205 dX11_look_84 ?_
    exact hret _ _ _ _ _ dX11_look_87 (Option.some.inj hf) hw
  have hf := (if_neg c_3).symm.trans hf
  by_cases c_4 : a1 = 3
  · have hf := (if_pos c_4).symm.trans hf
    refine lv_tableIn (tgt := 88) hx hb dX11_look_1 (by rw [c_4]; decide) (by rw [c_4]; decide) (off := 87) (by rw [c_4]; decide) (by decide) ?_
    refine lv_aload_n hx hb dX11_look_88 rfl (lv_at hl 0 rfl) ?_
    refine gF G hw h0 KX11 0 (k2 := 1) rfl (by decide) rfl fl_X11_10 dX11_look_89 ?_
    refine gI G hw (sub_PF_now hZ h0) KX10 3 (by decide) rfl fl_X11_323 dX11_look_92 ?_
    exact hret _ _ _ _ _ dX11_look_95 (Option.some.inj hf) hw
  have hf := (if_neg c_4).symm.trans hf
  by_cases c_5 : a1 = 4
  · have hf := (if_pos c_5).symm.trans hf
    refine lv_tableIn (tgt := 96) hx hb dX11_look_1 (by rw [c_5]; decide) (by rw [c_5]; decide) (off := 95) (by rw [c_5]; decide) (by decide) ?_
    refine lv_aload_n hx hb dX11_look_96 rfl (lv_at hl 0 rfl) ?_
    refine gF G hw h0 KX11 0 (k2 := 1) rfl (by decide) rfl fl_X11_10 dX11_look_97 ?_
    refine gI G hw (sub_PF_now hZ h0) KX10 1 (by decide) rfl fl_X11_278 dX11_look_100 ?_
    exact hret _ _ _ _ _ dX11_look_103 (Option.some.inj hf) hw
  have hf := (if_neg c_5).symm.trans hf
  by_cases c_6 : a1 = 5
  · have hf := (if_pos c_6).symm.trans hf
    refine lv_tableIn (tgt := 104) hx hb dX11_look_1 (by rw [c_6]; decide) (by rw [c_6]; decide) (off := 103) (by rw [c_6]; decide) (by decide) ?_
    refine lv_aload_n hx hb dX11_look_104 rfl (lv_at hl 0 rfl) ?_
    refine gF G hw h0 KX11 0 (k2 := 1) rfl (by decide) rfl fl_X11_10 dX11_look_105 ?_
    refine gI G hw (sub_PF_now hZ h0) KX10 6 (by decide) rfl fl_X11_319 dX11_look_108 ?_
    exact hret _ _ _ _ _ dX11_look_111 (Option.some.inj hf) hw
  have hf := (if_neg c_6).symm.trans hf
  by_cases c_7 : a1 = 6
  · have hf := (if_pos c_7).symm.trans hf
    refine lv_tableIn (tgt := 112) hx hb dX11_look_1 (by rw [c_7]; decide) (by rw [c_7]; decide) (off := 111) (by rw [c_7]; decide) (by decide) ?_
    refine lv_aload_n hx hb dX11_look_112 rfl (lv_at hl 0 rfl) ?_
    refine gF G hw h0 KX11 0 (k2 := 1) rfl (by decide) rfl fl_X11_10 dX11_look_113 ?_
    refine gI G hw (sub_PF_now hZ h0) KX10 0 (by decide) rfl fl_X11_44 dX11_look_116 ?_
    exact hret _ _ _ _ _ dX11_look_119 (Option.some.inj hf) hw
  have hf := (if_neg c_7).symm.trans hf
  by_cases c_8 : a1 = 7
  · have hf := (if_pos c_8).symm.trans hf
    refine lv_tableIn (tgt := 120) hx hb dX11_look_1 (by rw [c_8]; decide) (by rw [c_8]; decide) (off := 119) (by rw [c_8]; decide) (by decide) ?_
    refine lv_aload_n hx hb dX11_look_120 rfl (lv_at hl 0 rfl) ?_
    refine gF G hw h0 KX11 0 (k2 := 1) rfl (by decide) rfl fl_X11_10 dX11_look_121 ?_
    refine gF G hw (sub_PF_now hZ h0) KX10 14 (k2 := 8) rfl (by decide) rfl fl_X11_114 dX11_look_124 ?_
    refine gI G hw (sub_World_flight hZ (sub_PF_now hZ h0)) KX3 0 (by decide) rfl fl_X11_147 dX11_look_127 ?_
    exact hret _ _ _ _ _ dX11_look_130 (Option.some.inj hf) hw
  have hf := (if_neg c_8).symm.trans hf
  by_cases c_9 : a1 = 8
  · have hf := (if_pos c_9).symm.trans hf
    refine lv_tableIn (tgt := 131) hx hb dX11_look_1 (by rw [c_9]; decide) (by rw [c_9]; decide) (off := 130) (by rw [c_9]; decide) (by decide) ?_
    refine lv_aload_n hx hb dX11_look_131 rfl (lv_at hl 0 rfl) ?_
    refine gF G hw h0 KX11 0 (k2 := 1) rfl (by decide) rfl fl_X11_10 dX11_look_132 ?_
    refine gF G hw (sub_PF_now hZ h0) KX10 15 (k2 := 15) rfl (by decide) rfl fl_X11_124 dX11_look_135 ?_
    refine gI G hw (sub_World_arms hZ (sub_PF_now hZ h0)) KX3 0 (by decide) rfl fl_X11_147 dX11_look_138 ?_
    exact hret _ _ _ _ _ dX11_look_141 (Option.some.inj hf) hw
  have hf := (if_neg c_9).symm.trans hf
  by_cases c_10 : a1 = 9
  · have hf := (if_pos c_10).symm.trans hf
    refine lv_tableIn (tgt := 142) hx hb dX11_look_1 (by rw [c_10]; decide) (by rw [c_10]; decide) (off := 141) (by rw [c_10]; decide) (by decide) ?_
    refine lv_aload_n hx hb dX11_look_142 rfl (lv_at hl 0 rfl) ?_
    refine gF G hw h0 KX11 4 (k2 := 65) rfl (by decide) rfl fl_X11_40 dX11_look_143 ?_
    refine gI G hw (sub_PF_past hZ h0) KX4 0 (by decide) rfl fl_X11_326 dX11_look_146 ?_
    exact hret _ _ _ _ _ dX11_look_149 (Option.some.inj hf) hw
  have hf := (if_neg c_10).symm.trans hf
  by_cases c_11 : a1 = 10
  · have hf := (if_pos c_11).symm.trans hf
    refine lv_tableIn (tgt := 150) hx hb dX11_look_1 (by rw [c_11]; decide) (by rw [c_11]; decide) (off := 149) (by rw [c_11]; decide) (by decide) ?_
    refine lv_aload_n hx hb dX11_look_150 rfl (lv_at hl 0 rfl) ?_
    refine gF G hw h0 KX11 0 (k2 := 1) rfl (by decide) rfl fl_X11_10 dX11_look_151 ?_
    refine gI G hw (sub_PF_now hZ h0) KX10 7 (by decide) rfl fl_X11_176 dX11_look_154 ?_
    exact hret _ _ _ _ _ dX11_look_157 (Option.some.inj hf) hw
  have hf := (if_neg c_11).symm.trans hf
  by_cases c_12 : a1 = 11
  · have hf := (if_pos c_12).symm.trans hf
    refine lv_tableIn (tgt := 158) hx hb dX11_look_1 (by rw [c_12]; decide) (by rw [c_12]; decide) (off := 157) (by rw [c_12]; decide) (by decide) ?_
    refine lv_aload_n hx hb dX11_look_158 rfl (lv_at hl 0 rfl) ?_
    refine gF G hw h0 KX11 0 (k2 := 1) rfl (by decide) rfl fl_X11_10 dX11_look_159 ?_
    refine gF G hw (sub_PF_now hZ h0) KX10 16 (k2 := 22) rfl (by decide) rfl fl_X11_136 dX11_look_162 ?_
    refine gI G hw (sub_World_training hZ (sub_PF_now hZ h0)) KX3 0 (by decide) rfl fl_X11_147 dX11_look_165 ?_
    exact hret _ _ _ _ _ dX11_look_168 (Option.some.inj hf) hw
  have hf := (if_neg c_12).symm.trans hf
  refine lv_tableOut (tgt := 169) hx hb dX11_look_1 (sw_out [0, 1, 2, 3, 4, 5, 6, 7, 8, 9, 10, 11] (by decide +kernel) (List.forall_mem_cons.mpr ⟨c_1, (List.forall_mem_cons.mpr ⟨c_2, (List.forall_mem_cons.mpr ⟨c_3, (List.forall_mem_cons.mpr ⟨c_4, (List.forall_mem_cons.mpr ⟨c_5, (List.forall_mem_cons.mpr ⟨c_6, (List.forall_mem_cons.mpr ⟨c_7, (List.forall_mem_cons.mpr ⟨c_8, (List.forall_mem_cons.mpr ⟨c_9, (List.forall_mem_cons.mpr ⟨c_10, (List.forall_mem_cons.mpr ⟨c_11, (List.forall_mem_cons.mpr ⟨c_12, (fun _ h => absurd h List.not_mem_nil)⟩)⟩)⟩)⟩)⟩)⟩)⟩)⟩)⟩)⟩)⟩)⟩)) (by decide) ?_
  refine lv_iload_n hx hb dX11_look_169 rfl (lv_at hl 1 rfl) ?_
  refine lv_bipush hx hb dX11_look_170 kb_20 ?_
  refine lv_bipush hx hb dX11_look_172 kb_24 ?_
  refine kSi (rest := []) G hw (wX11_within hZ S a1 20 24 (F11_within a1 20 24) rfl) cw_X11_51 ⟨Nat.le_of_ble_eq_true rfl, Nat.le_of_ble_eq_true rfl⟩ rfl hl.1 rfl (Nat.le_of_ble_eq_true rfl) ⟨Nat.le_refl _, Nat.le_refl _⟩ dX11_look_174 (fun H locs hw => ?_)
  refine lv_if_eq (tgt := 195) hx hb dX11_look_177 (by decide) (fun c_14 => ?_) (fun c_14 => ?_)
  · have hf := (if_pos c_14).symm.trans hf
    refine lv_sipush hx hb dX11_look_195 ks_m1000 ?_
    exact hret _ _ _ _ _ dX11_look_198 (Option.some.inj hf) hw
  · have hf := (if_neg c_14).symm.trans hf
    refine lv_aload_n hx hb dX11_look_180 rfl (lv_at hl 0 rfl) ?_
    refine gF G hw h0 KX11 0 (k2 := 1) rfl (by decide) rfl fl_X11_10 dX11_look_181 ?_
    refine gF G hw (sub_PF_now hZ h0) KX10 8 (k2 := 2) rfl (by decide) rfl fl_X11_222 dX11_look_184 ?_
    refine lv_iload_n hx hb dX11_look_187 rfl (lv_at hl 1 rfl) ?_
    refine lv_bipush hx hb dX11_look_188 kb_20 ?_
    refine lv_isub hx hb dX11_look_190 ?_
    obtain ⟨hg_13, hf⟩ := bG_e hf
    refine aI G hw (sub_World_told hZ (sub_PF_now hZ h0)) hg_13 (j := (a1 - 20).toNatClampNeg) rfl dX11_look_191 ?_
    refine lv_goto (tgt := 198) hx hb dX11_look_192 (by decide) ?_
    exact hret _ _ _ _ _ dX11_look_198 (Option.some.inj hf) hw
noncomputable def F11_canBlow (a0 : Int32) : Int32 :=
  ((F11_within a0 (-29) 29) &&& 1)
set_option maxRecDepth 100000 in
set_option maxHeartbeats 4000000 in
theorem wX11_canBlow {l : Launch} {Z : pZ}  (hZ : CC Z) (S : pS) (a0 : Int32) (r : Int32)  (hf : F11_canBlow a0 = r) : CI l Z yX11_canBlow cX11_canBlow 1 .boolean 4 82 [.int a0] S r S := by
  unfold F11_canBlow at hf
  refine eZ (own := RX11) (by decide) rfl (Nat.le_of_ble_eq_true rfl) (fun p e s m args below meth c Q ls G hl hw hret => ?_)
  obtain ⟨hx, hb, hml, hown, hts⟩ := G.1
  have hl : lv_has ls 1 [(0, .int a0)] := hl
  refine lv_iload_n hx hb dX11_canBlow_0 rfl (lv_at hl 0 rfl) ?_
  refine lv_bipush hx hb dX11_canBlow_1 kb_m29 ?_
  refine lv_bipush hx hb dX11_canBlow_3 kb_29 ?_
  refine kSi (rest := []) G hw (wX11_within hZ S a0 (-29) 29 (F11_within a0 (-29) 29) rfl) cw_X11_51 ⟨Nat.le_of_ble_eq_true rfl, Nat.le_of_ble_eq_true rfl⟩ rfl hl.1 rfl (Nat.le_of_ble_eq_true rfl) ⟨Nat.le_refl _, Nat.le_refl _⟩ dX11_canBlow_5 (fun H locs hw => ?_)
  exact hret _ _ _ _ _ dX11_canBlow_8 hf hw
noncomputable def F11_fly (S : pS) (a1 : Int32) (a2 : Int32) (a3 : Int32) (a4 : Int32) (a5 : Int32) (a6 : Int32) (a7 : Int32) : Option (Int32 × pS) :=
  if (F11_within a1 0 99) = 0 then
    some (((-10000) : Int32), S)
  else
    if (F11_within a2 0 90) = 0 then
      some (((-10000) : Int32), S)
    else
      if (F11_within a3 (-9) 9) = 0 then
        some (((-10000) : Int32), S)
      else
        if (F10_hasSpear S 1 a4) = 0 then
          some (((-10000) : Int32), S)
        else
          if (F11_canBlow a5) = 0 then
            some (((-10000) : Int32), S)
          else
            if (F11_canBlow a6) = 0 then
              some (((-10000) : Int32), S)
            else
              if (F11_within a7 0 6) = 0 then
                some (((-10000) : Int32), S)
              else
                bB (F2_begin S 60 1 a1 a2 a3 a4 a5 a6) fun S_1 =>
                bB (F2_go S_1 60 8 400) fun S_2 =>
                if a7 = 0 then
                  some (S_2 60 1, S_2)
                else if a7 = 1 then
                  some (F2_landing S_2 60, S_2)
                else if a7 = 2 then
                  some (S_2 60 2, S_2)
                else if a7 = 3 then
                  some (S_2 61 8, S_2)
                else if a7 = 4 then
                  some (S_2 60 3, S_2)
                else if a7 = 5 then
                  if (F2_how S_2 60 (S_2 2 4)) = 0 then
                    some ((1 : Int32), S_2)
                  else
                    some ((0 : Int32), S_2)
                else 
                  some (S_2 61 3, S_2)
set_option maxRecDepth 100000 in
set_option maxHeartbeats 4000000 in
theorem wX11_fly {l : Launch} {Z : pZ}  (hZ : CC Z) (S : pS) (a1 : Int32) (a2 : Int32) (a3 : Int32) (a4 : Int32) (a5 : Int32) (a6 : Int32) (a7 : Int32) (r : Int32) (S2 : pS) (h0 : isA Z K_PF 0) (hf : F11_fly S a1 a2 a3 a4 a5 a6 a7 = some (r, S2)) : CI l Z yX11_fly cX11_fly 9 .int 8 180 [.ref (za Z 0), .int a1, .int a2, .int a3, .int a4, .int a5, .int a6, .int a7] S r S2 := by
  unfold F11_fly at hf
  refine eI (own := RX11) (by decide) rfl (Nat.le_of_ble_eq_true rfl) (fun p e s m args below meth c Q ls G hl hw hret => ?_)
  obtain ⟨hx, hb, hml, hown, hts⟩ := G.1
  have hl : lv_has ls 9 [(0, .ref (za Z 0)), (1, .int a1), (2, .int a2), (3, .int a3), (4, .int a4), (5, .int a5), (6, .int a6), (7, .int a7)] := hl
  refine lv_iload_n hx hb dX11_fly_0 rfl (lv_at hl 1 rfl) ?_
  refine lv_iconst hx hb dX11_fly_1 ki_0 ?_
  refine lv_bipush hx hb dX11_fly_2 kb_99 ?_
  refine kSi (rest := []) G hw (wX11_within hZ S a1 0 99 (F11_within a1 0 99) rfl) cw_X11_51 ⟨Nat.le_of_ble_eq_true rfl, Nat.le_of_ble_eq_true rfl⟩ rfl hl.1 rfl (Nat.le_of_ble_eq_true rfl) ⟨Nat.le_refl _, Nat.le_refl _⟩ dX11_fly_4 (fun H locs hw => ?_)
  refine lv_if_eq (tgt := 70) hx hb dX11_fly_7 (by decide) (fun c_16 => ?_) (fun c_16 => ?_)
  · have hf := (if_pos c_16).symm.trans hf
    refine lv_sipush hx hb dX11_fly_70 ks_m10000 ?_
    obtain ⟨e1, e2⟩ := Prod.mk.inj (Option.some.inj hf)
    exact hret _ _ _ _ _ dX11_fly_73 e1 (by rw [← e2]; exact hw)
  · have hf := (if_neg c_16).symm.trans hf
    refine lv_iload_n hx hb dX11_fly_10 rfl (lv_at hl 2 rfl) ?_
    refine lv_iconst hx hb dX11_fly_11 ki_0 ?_
    refine lv_bipush hx hb dX11_fly_12 kb_90 ?_
    refine kSi (rest := []) G hw (wX11_within hZ S a2 0 90 (F11_within a2 0 90) rfl) cw_X11_51 ⟨Nat.le_of_ble_eq_true rfl, Nat.le_of_ble_eq_true rfl⟩ rfl hl.1 rfl (Nat.le_of_ble_eq_true rfl) ⟨Nat.le_refl _, Nat.le_refl _⟩ dX11_fly_14 (fun H locs hw => ?_)
    refine lv_if_eq (tgt := 70) hx hb dX11_fly_17 (by decide) (fun c_15 => ?_) (fun c_15 => ?_)
    · have hf := (if_pos c_15).symm.trans hf
      refine lv_sipush hx hb dX11_fly_70 ks_m10000 ?_
      obtain ⟨e1, e2⟩ := Prod.mk.inj (Option.some.inj hf)
      exact hret _ _ _ _ _ dX11_fly_73 e1 (by rw [← e2]; exact hw)
    · have hf := (if_neg c_15).symm.trans hf
      refine lv_iload_n hx hb dX11_fly_20 rfl (lv_at hl 3 rfl) ?_
      refine lv_bipush hx hb dX11_fly_21 kb_m9 ?_
      refine lv_bipush hx hb dX11_fly_23 kb_9 ?_
      refine kSi (rest := []) G hw (wX11_within hZ S a3 (-9) 9 (F11_within a3 (-9) 9) rfl) cw_X11_51 ⟨Nat.le_of_ble_eq_true rfl, Nat.le_of_ble_eq_true rfl⟩ rfl hl.1 rfl (Nat.le_of_ble_eq_true rfl) ⟨Nat.le_refl _, Nat.le_refl _⟩ dX11_fly_25 (fun H locs hw => ?_)
      refine lv_if_eq (tgt := 70) hx hb dX11_fly_28 (by decide) (fun c_14 => ?_) (fun c_14 => ?_)
      · have hf := (if_pos c_14).symm.trans hf
        refine lv_sipush hx hb dX11_fly_70 ks_m10000 ?_
        obtain ⟨e1, e2⟩ := Prod.mk.inj (Option.some.inj hf)
        exact hret _ _ _ _ _ dX11_fly_73 e1 (by rw [← e2]; exact hw)
      · have hf := (if_neg c_14).symm.trans hf
        refine lv_aload_n hx hb dX11_fly_31 rfl (lv_at hl 0 rfl) ?_
        refine gF G hw h0 KX11 0 (k2 := 1) rfl (by decide) rfl fl_X11_10 dX11_fly_32 ?_
        refine lv_iload hx hb dX11_fly_35 (lv_at hl 4 rfl) ?_
        refine kVi (rest := []) G hw (wX10_hasSpear hZ S 1 a4 (F10_hasSpear S 1 a4) (sub_PF_now hZ h0) rfl) cw_X11_193 (sub_PF_now hZ h0) KX10 ⟨Nat.le_of_ble_eq_true rfl, Nat.le_of_ble_eq_true rfl⟩ rfl hl.1 rfl (Nat.le_of_ble_eq_true rfl) ⟨Nat.le_refl _, Nat.le_refl _⟩ dX11_fly_37 (fun H locs hw => ?_)
        refine lv_if_eq (tgt := 70) hx hb dX11_fly_40 (by decide) (fun c_13 => ?_) (fun c_13 => ?_)
        · have hf := (if_pos c_13).symm.trans hf
          refine lv_sipush hx hb dX11_fly_70 ks_m10000 ?_
          obtain ⟨e1, e2⟩ := Prod.mk.inj (Option.some.inj hf)
          exact hret _ _ _ _ _ dX11_fly_73 e1 (by rw [← e2]; exact hw)
        · have hf := (if_neg c_13).symm.trans hf
          refine lv_iload hx hb dX11_fly_43 (lv_at hl 5 rfl) ?_
          refine kSi (rest := []) G hw (wX11_canBlow hZ S a5 (F11_canBlow a5) rfl) cw_X11_329 ⟨Nat.le_of_ble_eq_true rfl, Nat.le_of_ble_eq_true rfl⟩ rfl hl.1 rfl (Nat.le_of_ble_eq_true rfl) ⟨Nat.le_refl _, Nat.le_refl _⟩ dX11_fly_45 (fun H locs hw => ?_)
          refine lv_if_eq (tgt := 70) hx hb dX11_fly_48 (by decide) (fun c_12 => ?_) (fun c_12 => ?_)
          · have hf := (if_pos c_12).symm.trans hf
            refine lv_sipush hx hb dX11_fly_70 ks_m10000 ?_
            obtain ⟨e1, e2⟩ := Prod.mk.inj (Option.some.inj hf)
            exact hret _ _ _ _ _ dX11_fly_73 e1 (by rw [← e2]; exact hw)
          · have hf := (if_neg c_12).symm.trans hf
            refine lv_iload hx hb dX11_fly_51 (lv_at hl 6 rfl) ?_
            refine kSi (rest := []) G hw (wX11_canBlow hZ S a6 (F11_canBlow a6) rfl) cw_X11_329 ⟨Nat.le_of_ble_eq_true rfl, Nat.le_of_ble_eq_true rfl⟩ rfl hl.1 rfl (Nat.le_of_ble_eq_true rfl) ⟨Nat.le_refl _, Nat.le_refl _⟩ dX11_fly_53 (fun H locs hw => ?_)
            refine lv_if_eq (tgt := 70) hx hb dX11_fly_56 (by decide) (fun c_11 => ?_) (fun c_11 => ?_)
            · have hf := (if_pos c_11).symm.trans hf
              refine lv_sipush hx hb dX11_fly_70 ks_m10000 ?_
              obtain ⟨e1, e2⟩ := Prod.mk.inj (Option.some.inj hf)
              exact hret _ _ _ _ _ dX11_fly_73 e1 (by rw [← e2]; exact hw)
            · have hf := (if_neg c_11).symm.trans hf
              refine lv_iload hx hb dX11_fly_59 (lv_at hl 7 rfl) ?_
              refine lv_iconst hx hb dX11_fly_61 ki_0 ?_
              refine lv_bipush hx hb dX11_fly_62 kb_6 ?_
              refine kSi (rest := []) G hw (wX11_within hZ S a7 0 6 (F11_within a7 0 6) rfl) cw_X11_51 ⟨Nat.le_of_ble_eq_true rfl, Nat.le_of_ble_eq_true rfl⟩ rfl hl.1 rfl (Nat.le_of_ble_eq_true rfl) ⟨Nat.le_refl _, Nat.le_refl _⟩ dX11_fly_64 (fun H locs hw => ?_)
              refine lv_if_ne (tgt := 74) hx hb dX11_fly_67 (by decide) (fun c_10 => ?_) (fun c_10 => ?_)
              · have hf := (if_neg c_10).symm.trans hf
                refine lv_aload_n hx hb dX11_fly_74 rfl (lv_at hl 0 rfl) ?_
                refine gF G hw h0 KX11 2 (k2 := 59) rfl (by decide) rfl fl_X11_26 dX11_fly_75 ?_
                refine gF G hw (sub_PF_thought hZ h0) KX7 0 (k2 := 60) rfl (by decide) rfl fl_X11_232 dX11_fly_78 ?_
                refine lv_astore (lv' := [(8, .ref (za Z 60)), (0, .ref (za Z 0)), (1, .int a1), (2, .int a2), (3, .int a3), (4, .int a4), (5, .int a5), (6, .int a6), (7, .int a7)]) hx hb dX11_fly_81 hl (by decide) rfl (fun ls hl => ?_)
                refine lv_aload hx hb dX11_fly_83 (lv_at hl 0 rfl) ?_
                refine lv_aload_n hx hb dX11_fly_85 rfl (lv_at hl 1 rfl) ?_
                refine gF G hw h0 KX11 0 (k2 := 1) rfl (by decide) rfl fl_X11_10 dX11_fly_86 ?_
                refine lv_iload_n hx hb dX11_fly_89 rfl (lv_at hl 2 rfl) ?_
                refine lv_iload_n hx hb dX11_fly_90 rfl (lv_at hl 3 rfl) ?_
                refine lv_iload_n hx hb dX11_fly_91 rfl (lv_at hl 4 rfl) ?_
                refine lv_iload hx hb dX11_fly_92 (lv_at hl 5 rfl) ?_
                refine lv_iload hx hb dX11_fly_94 (lv_at hl 6 rfl) ?_
                refine lv_iload hx hb dX11_fly_96 (lv_at hl 7 rfl) ?_
                obtain ⟨S_1, hS_1, hf⟩ := bB_e hf
                refine kVv (rest := []) G hw (wX2_begin hZ S 60 1 a1 a2 a3 a4 a5 a6 S_1 (sub_Thought_flight hZ (sub_PF_thought hZ h0)) (sub_PF_now hZ h0) hS_1) cw_X11_235 (sub_Thought_flight hZ (sub_PF_thought hZ h0)) KX2 ⟨Nat.le_of_ble_eq_true rfl, Nat.le_of_ble_eq_true rfl⟩ rfl hl.1 rfl (Nat.le_of_ble_eq_true rfl) ⟨Nat.le_refl _, Nat.le_refl _⟩ dX11_fly_98 (fun H locs hw => ?_)
                refine lv_aload hx hb dX11_fly_101 (lv_at hl 0 rfl) ?_
                refine lv_aload_n hx hb dX11_fly_103 rfl (lv_at hl 1 rfl) ?_
                refine gF G hw h0 KX11 0 (k2 := 1) rfl (by decide) rfl fl_X11_10 dX11_fly_104 ?_
                refine gF G hw (sub_PF_now hZ h0) KX10 14 (k2 := 8) rfl (by decide) rfl fl_X11_114 dX11_fly_107 ?_
                refine lv_sipush hx hb dX11_fly_110 ks_400 ?_
                obtain ⟨S_2, hS_2, hf⟩ := bB_e hf
                refine kVv (rest := []) G hw (wX2_go hZ S_1 60 8 400 S_2 (sub_Thought_flight hZ (sub_PF_thought hZ h0)) (sub_World_flight hZ (sub_PF_now hZ h0)) hS_2) cw_X11_240 (sub_Thought_flight hZ (sub_PF_thought hZ h0)) KX2 ⟨Nat.le_of_ble_eq_true rfl, Nat.le_of_ble_eq_true rfl⟩ rfl hl.1 rfl (Nat.le_of_ble_eq_true rfl) ⟨Nat.le_refl _, Nat.le_refl _⟩ dX11_fly_113 (fun H locs hw => ?_)
                refine lv_iload hx hb dX11_fly_116 (lv_at hl 8 rfl) ?_
                by_cases c_3 : a7 = 0
                · have hf := (if_pos c_3).symm.trans hf
                  refine lv_tableIn (tgt := 156) hx hb dX11_fly_118 (by rw [c_3]; decide) (by rw [c_3]; decide) (off := 38) (by rw [c_3]; decide) (by decide) ?_
                  refine lv_aload hx hb dX11_fly_156 (lv_at hl 0 rfl) ?_
                  refine gI G hw (sub_Thought_flight hZ (sub_PF_thought hZ h0)) KX2 1 (by decide) rfl fl_X11_253 dX11_fly_158 ?_
                  obtain ⟨e1, e2⟩ := Prod.mk.inj (Option.some.inj hf)
                  exact hret _ _ _ _ _ dX11_fly_161 e1 (by rw [← e2]; exact hw)
                have hf := (if_neg c_3).symm.trans hf
                by_cases c_4 : a7 = 1
                · have hf := (if_pos c_4).symm.trans hf
                  refine lv_tableIn (tgt := 162) hx hb dX11_fly_118 (by rw [c_4]; decide) (by rw [c_4]; decide) (off := 44) (by rw [c_4]; decide) (by decide) ?_
                  refine lv_aload hx hb dX11_fly_162 (lv_at hl 0 rfl) ?_
                  refine kVi (rest := []) G hw (wX2_landing hZ S_2 60 (F2_landing S_2 60) (sub_Thought_flight hZ (sub_PF_thought hZ h0)) rfl) cw_X11_332 (sub_Thought_flight hZ (sub_PF_thought hZ h0)) KX2 ⟨Nat.le_of_ble_eq_true rfl, Nat.le_of_ble_eq_true rfl⟩ rfl hl.1 rfl (Nat.le_of_ble_eq_true rfl) ⟨Nat.le_refl _, Nat.le_refl _⟩ dX11_fly_164 (fun H locs hw => ?_)
                  obtain ⟨e1, e2⟩ := Prod.mk.inj (Option.some.inj hf)
                  exact hret _ _ _ _ _ dX11_fly_167 e1 (by rw [← e2]; exact hw)
                have hf := (if_neg c_4).symm.trans hf
                by_cases c_5 : a7 = 2
                · have hf := (if_pos c_5).symm.trans hf
                  refine lv_tableIn (tgt := 168) hx hb dX11_fly_118 (by rw [c_5]; decide) (by rw [c_5]; decide) (off := 50) (by rw [c_5]; decide) (by decide) ?_
                  refine lv_aload hx hb dX11_fly_168 (lv_at hl 0 rfl) ?_
                  refine gI G hw (sub_Thought_flight hZ (sub_PF_thought hZ h0)) KX2 2 (by decide) rfl fl_X11_336 dX11_fly_170 ?_
                  obtain ⟨e1, e2⟩ := Prod.mk.inj (Option.some.inj hf)
                  exact hret _ _ _ _ _ dX11_fly_173 e1 (by rw [← e2]; exact hw)
                have hf := (if_neg c_5).symm.trans hf
                by_cases c_6 : a7 = 3
                · have hf := (if_pos c_6).symm.trans hf
                  refine lv_tableIn (tgt := 174) hx hb dX11_fly_118 (by rw [c_6]; decide) (by rw [c_6]; decide) (off := 56) (by rw [c_6]; decide) (by decide) ?_
                  refine lv_aload hx hb dX11_fly_174 (lv_at hl 0 rfl) ?_
                  refine gF G hw (sub_Thought_flight hZ (sub_PF_thought hZ h0)) KX2 0 (k2 := 61) rfl (by decide) rfl fl_X11_339 dX11_fly_176 ?_
                  refine lv_bipush hx hb dX11_fly_179 kb_8 ?_
                  refine aI G hw (sub_Flight_is hZ (sub_Thought_flight hZ (sub_PF_thought hZ h0))) (vin_e (by decide)) (j := 8) (by decide) dX11_fly_181 ?_
                  obtain ⟨e1, e2⟩ := Prod.mk.inj (Option.some.inj hf)
                  exact hret _ _ _ _ _ dX11_fly_182 e1 (by rw [← e2]; exact hw)
                have hf := (if_neg c_6).symm.trans hf
                by_cases c_7 : a7 = 4
                · have hf := (if_pos c_7).symm.trans hf
                  refine lv_tableIn (tgt := 183) hx hb dX11_fly_118 (by rw [c_7]; decide) (by rw [c_7]; decide) (off := 65) (by rw [c_7]; decide) (by decide) ?_
                  refine lv_aload hx hb dX11_fly_183 (lv_at hl 0 rfl) ?_
                  refine gI G hw (sub_Thought_flight hZ (sub_PF_thought hZ h0)) KX2 3 (by decide) rfl fl_X11_342 dX11_fly_185 ?_
                  obtain ⟨e1, e2⟩ := Prod.mk.inj (Option.some.inj hf)
                  exact hret _ _ _ _ _ dX11_fly_188 e1 (by rw [← e2]; exact hw)
                have hf := (if_neg c_7).symm.trans hf
                by_cases c_9 : a7 = 5
                · have hf := (if_pos c_9).symm.trans hf
                  refine lv_tableIn (tgt := 189) hx hb dX11_fly_118 (by rw [c_9]; decide) (by rw [c_9]; decide) (off := 71) (by rw [c_9]; decide) (by decide) ?_
                  refine lv_aload hx hb dX11_fly_189 (lv_at hl 0 rfl) ?_
                  refine lv_aload_n hx hb dX11_fly_191 rfl (lv_at hl 1 rfl) ?_
                  refine gF G hw h0 KX11 0 (k2 := 1) rfl (by decide) rfl fl_X11_10 dX11_fly_192 ?_
                  refine gF G hw (sub_PF_now hZ h0) KX10 8 (k2 := 2) rfl (by decide) rfl fl_X11_222 dX11_fly_195 ?_
                  refine lv_iconst hx hb dX11_fly_198 ki_4 ?_
                  refine aI G hw (sub_World_told hZ (sub_PF_now hZ h0)) (vin_e (by decide)) (j := 4) (by decide) dX11_fly_199 ?_
                  refine kVi (rest := []) G hw (wX2_how hZ S_2 60 (S_2 2 4) (F2_how S_2 60 (S_2 2 4)) (sub_Thought_flight hZ (sub_PF_thought hZ h0)) rfl) cw_X11_244 (sub_Thought_flight hZ (sub_PF_thought hZ h0)) KX2 ⟨Nat.le_of_ble_eq_true rfl, Nat.le_of_ble_eq_true rfl⟩ rfl hl.1 rfl (Nat.le_of_ble_eq_true rfl) ⟨Nat.le_refl _, Nat.le_refl _⟩ dX11_fly_200 (fun H locs hw => ?_)
                  refine lv_if_ne (tgt := 210) hx hb dX11_fly_203 (by decide) (fun c_8 => ?_) (fun c_8 => ?_)
                  · have hf := (if_neg c_8).symm.trans hf
                    refine lv_iconst hx hb dX11_fly_210 ki_0 ?_
                    obtain ⟨e1, e2⟩ := Prod.mk.inj (Option.some.inj hf)
                    exact hret _ _ _ _ _ dX11_fly_211 e1 (by rw [← e2]; exact hw)
                  · have hf := (if_pos c_8).symm.trans hf
                    refine lv_iconst hx hb dX11_fly_206 ki_1 ?_
                    refine lv_goto (tgt := 211) hx hb dX11_fly_207 (by decide) ?_
                    obtain ⟨e1, e2⟩ := Prod.mk.inj (Option.some.inj hf)
                    exact hret _ _ _ _ _ dX11_fly_211 e1 (by rw [← e2]; exact hw)
                have hf := (if_neg c_9).symm.trans hf
                refine lv_tableOut (tgt := 212) hx hb dX11_fly_118 (sw_out [0, 1, 2, 3, 4, 5] (by decide +kernel) (List.forall_mem_cons.mpr ⟨c_3, (List.forall_mem_cons.mpr ⟨c_4, (List.forall_mem_cons.mpr ⟨c_5, (List.forall_mem_cons.mpr ⟨c_6, (List.forall_mem_cons.mpr ⟨c_7, (List.forall_mem_cons.mpr ⟨c_9, (fun _ h => absurd h List.not_mem_nil)⟩)⟩)⟩)⟩)⟩)⟩)) (by decide) ?_
                refine lv_aload hx hb dX11_fly_212 (lv_at hl 0 rfl) ?_
                refine gF G hw (sub_Thought_flight hZ (sub_PF_thought hZ h0)) KX2 0 (k2 := 61) rfl (by decide) rfl fl_X11_339 dX11_fly_214 ?_
                refine lv_iconst hx hb dX11_fly_217 ki_3 ?_
                refine aI G hw (sub_Flight_is hZ (sub_Thought_flight hZ (sub_PF_thought hZ h0))) (vin_e (by decide)) (j := 3) (by decide) dX11_fly_218 ?_
                obtain ⟨e1, e2⟩ := Prod.mk.inj (Option.some.inj hf)
                exact hret _ _ _ _ _ dX11_fly_219 e1 (by rw [← e2]; exact hw)
              · have hf := (if_pos c_10).symm.trans hf
                refine lv_sipush hx hb dX11_fly_70 ks_m10000 ?_
                obtain ⟨e1, e2⟩ := Prod.mk.inj (Option.some.inj hf)
                exact hret _ _ _ _ _ dX11_fly_73 e1 (by rw [← e2]; exact hw)
noncomputable def F7_found (S : pS) (k0 : Nat) (a1 : Int32) (a2 : Int32) : pS :=
  if a2 ≤ (S k0 2) then
    S
  else
    bL (sU S k0 2 a2) fun S_1 =>
    bL (sU S_1 k0 1 a1) fun S_2 =>
    S_2
set_option maxRecDepth 100000 in
set_option maxHeartbeats 4000000 in
theorem wX7_found {l : Launch} {Z : pZ}  (hZ : CC Z) (S : pS) (k0 : Nat) (a1 : Int32) (a2 : Int32) (S2 : pS) (h0 : isA Z K_Thought k0) (hf : F7_found S k0 a1 a2 = S2) : CV l Z yX7_found cX7_found 3 3 60 [.ref (za Z k0), .int a1, .int a2] S S2 := by
  unfold F7_found at hf
  refine eV (own := RX7) (by decide) rfl (Nat.le_of_ble_eq_true rfl) (fun p e s m args below meth c Q ls G hl hw hret => ?_)
  obtain ⟨hx, hb, hml, hown, hts⟩ := G.1
  have hl : lv_has ls 3 [(0, .ref (za Z k0)), (1, .int a1), (2, .int a2)] := hl
  refine lv_iload_n hx hb dX7_found_0 rfl (lv_at hl 2 rfl) ?_
  refine lv_aload_n hx hb dX7_found_1 rfl (lv_at hl 0 rfl) ?_
  refine gI G hw h0 KX7 2 (by decide) rfl fl_X7_49 dX7_found_2 ?_
  refine lv_icmp_le (tgt := 18) hx hb dX7_found_5 (by decide) (fun c_3 => ?_) (fun c_3 => ?_)
  · have hf := (if_pos c_3).symm.trans hf
    exact hret _ _ _ _ dX7_found_18 (by rw [← hf]; exact hw)
  · have hf := (if_neg c_3).symm.trans hf
    refine lv_aload_n hx hb dX7_found_8 rfl (lv_at hl 0 rfl) ?_
    refine lv_iload_n hx hb dX7_found_9 rfl (lv_at hl 2 rfl) ?_
    obtain ⟨S_1, eS_1, hf⟩ := bL_e hf
    refine pI G hw h0 KX7 2 (by decide) rfl rfl rfl eS_1 fl_X7_49 dX7_found_10 (fun H locs hw => ?_)
    refine lv_aload_n hx hb dX7_found_13 rfl (lv_at hl 0 rfl) ?_
    refine lv_iload_n hx hb dX7_found_14 rfl (lv_at hl 1 rfl) ?_
    obtain ⟨S_2, eS_2, hf⟩ := bL_e hf
    refine pI G hw h0 KX7 1 (by decide) rfl rfl rfl eS_2 fl_X7_46 dX7_found_15 (fun H locs hw => ?_)
    exact hret _ _ _ _ dX7_found_18 (by rw [← hf]; exact hw)
noncomputable def F7_goodFar (S : pS) (k0 : Nat) (k1 : Nat) (a2 : Int32) (a3 : Int32) (a4 : Int32) (a5 : Int32) : Option (Int32 × pS) :=
  bB (F2_begin S (k0 + 1) k1 a2 a3 0 a4 a5 (S (k1 + 1) 1)) fun S_1 =>
  bB (F2_go S_1 (k0 + 1) (k1 + 7) 400) fun S_2 =>
  if (F2_how S_2 (k0 + 1) (S_2 (k1 + 1) 4)) = 0 then
    some (S_2 (k0 + 1) 1, S_2)
  else
    some (((-1) : Int32), S_2)
set_option maxRecDepth 100000 in
set_option maxHeartbeats 4000000 in
theorem wX7_goodFar {l : Launch} {Z : pZ}  (hZ : CC Z) (S : pS) (k0 : Nat) (k1 : Nat) (a2 : Int32) (a3 : Int32) (a4 : Int32) (a5 : Int32) (r : Int32) (S2 : pS) (h0 : isA Z K_Thought k0) (h1 : isA Z K_World k1) (hf : F7_goodFar S k0 k1 a2 a3 a4 a5 = some (r, S2)) : CI l Z yX7_goodFar cX7_goodFar 6 .int 8 180 [.ref (za Z k0), .ref (za Z k1), .int a2, .int a3, .int a4, .int a5] S r S2 := by
  unfold F7_goodFar at hf
  refine eI (own := RX7) (by decide) rfl (Nat.le_of_ble_eq_true rfl) (fun p e s m args below meth c Q ls G hl hw hret => ?_)
  obtain ⟨hx, hb, hml, hown, hts⟩ := G.1
  have hl : lv_has ls 6 [(0, .ref (za Z k0)), (1, .ref (za Z k1)), (2, .int a2), (3, .int a3), (4, .int a4), (5, .int a5)] := hl
  refine lv_aload_n hx hb dX7_goodFar_0 rfl (lv_at hl 0 rfl) ?_
  refine gF G hw h0 KX7 0 (k2 := (k0 + 1)) rfl (by decide) rfl fl_X7_12 dX7_goodFar_1 ?_
  refine lv_aload_n hx hb dX7_goodFar_4 rfl (lv_at hl 1 rfl) ?_
  refine lv_iload_n hx hb dX7_goodFar_5 rfl (lv_at hl 2 rfl) ?_
  refine lv_iload_n hx hb dX7_goodFar_6 rfl (lv_at hl 3 rfl) ?_
  refine lv_iconst hx hb dX7_goodFar_7 ki_0 ?_
  refine lv_iload hx hb dX7_goodFar_8 (lv_at hl 4 rfl) ?_
  refine lv_iload hx hb dX7_goodFar_10 (lv_at hl 5 rfl) ?_
  refine lv_aload_n hx hb dX7_goodFar_12 rfl (lv_at hl 1 rfl) ?_
  refine gF G hw h1 KX10 8 (k2 := (k1 + 1)) rfl (by decide) rfl fl_X7_22 dX7_goodFar_13 ?_
  refine lv_iconst hx hb dX7_goodFar_16 ki_1 ?_
  refine aI G hw (sub_World_told hZ h1) (vin_e (by decide)) (j := 1) (by decide) dX7_goodFar_17 ?_
  obtain ⟨S_1, hS_1, hf⟩ := bB_e hf
  refine kVv (rest := []) G hw (wX2_begin hZ S (k0 + 1) k1 a2 a3 0 a4 a5 (S (k1 + 1) 1) S_1 (sub_Thought_flight hZ h0) h1 hS_1) cw_X7_27 (sub_Thought_flight hZ h0) KX2 ⟨Nat.le_of_ble_eq_true rfl, Nat.le_of_ble_eq_true rfl⟩ rfl hl.1 rfl (Nat.le_of_ble_eq_true rfl) ⟨Nat.le_refl _, Nat.le_refl _⟩ dX7_goodFar_18 (fun H locs hw => ?_)
  refine lv_aload_n hx hb dX7_goodFar_21 rfl (lv_at hl 0 rfl) ?_
  refine gF G hw h0 KX7 0 (k2 := (k0 + 1)) rfl (by decide) rfl fl_X7_12 dX7_goodFar_22 ?_
  refine lv_aload_n hx hb dX7_goodFar_25 rfl (lv_at hl 1 rfl) ?_
  refine gF G hw h1 KX10 14 (k2 := (k1 + 7)) rfl (by decide) rfl fl_X7_31 dX7_goodFar_26 ?_
  refine lv_sipush hx hb dX7_goodFar_29 ks_400 ?_
  obtain ⟨S_2, hS_2, hf⟩ := bB_e hf
  refine kVv (rest := []) G hw (wX2_go hZ S_1 (k0 + 1) (k1 + 7) 400 S_2 (sub_Thought_flight hZ h0) (sub_World_flight hZ h1) hS_2) cw_X7_34 (sub_Thought_flight hZ h0) KX2 ⟨Nat.le_of_ble_eq_true rfl, Nat.le_of_ble_eq_true rfl⟩ rfl hl.1 rfl (Nat.le_of_ble_eq_true rfl) ⟨Nat.le_refl _, Nat.le_refl _⟩ dX7_goodFar_32 (fun H locs hw => ?_)
  refine lv_aload_n hx hb dX7_goodFar_35 rfl (lv_at hl 0 rfl) ?_
  refine gF G hw h0 KX7 0 (k2 := (k0 + 1)) rfl (by decide) rfl fl_X7_12 dX7_goodFar_36 ?_
  refine lv_aload_n hx hb dX7_goodFar_39 rfl (lv_at hl 1 rfl) ?_
  refine gF G hw h1 KX10 8 (k2 := (k1 + 1)) rfl (by decide) rfl fl_X7_22 dX7_goodFar_40 ?_
  refine lv_iconst hx hb dX7_goodFar_43 ki_4 ?_
  refine aI G hw (sub_World_told hZ h1) (vin_e (by decide)) (j := 4) (by decide) dX7_goodFar_44 ?_
  refine kVi (rest := []) G hw (wX2_how hZ S_2 (k0 + 1) (S_2 (k1 + 1) 4) (F2_how S_2 (k0 + 1) (S_2 (k1 + 1) 4)) (sub_Thought_flight hZ h0) rfl) cw_X7_42 (sub_Thought_flight hZ h0) KX2 ⟨Nat.le_of_ble_eq_true rfl, Nat.le_of_ble_eq_true rfl⟩ rfl hl.1 rfl (Nat.le_of_ble_eq_true rfl) ⟨Nat.le_refl _, Nat.le_refl _⟩ dX7_goodFar_45 (fun H locs hw => ?_)
  refine lv_if_ne (tgt := 61) hx hb dX7_goodFar_48 (by decide) (fun c_3 => ?_) (fun c_3 => ?_)
  · have hf := (if_neg c_3).symm.trans hf
    refine lv_iconst hx hb dX7_goodFar_61 ki_m1 ?_
    obtain ⟨e1, e2⟩ := Prod.mk.inj (Option.some.inj hf)
    exact hret _ _ _ _ _ dX7_goodFar_62 e1 (by rw [← e2]; exact hw)
  · have hf := (if_pos c_3).symm.trans hf
    refine lv_aload_n hx hb dX7_goodFar_51 rfl (lv_at hl 0 rfl) ?_
    refine gF G hw h0 KX7 0 (k2 := (k0 + 1)) rfl (by decide) rfl fl_X7_12 dX7_goodFar_52 ?_
    refine gI G hw (sub_Thought_flight hZ h0) KX2 1 (by decide) rfl fl_X7_38 dX7_goodFar_55 ?_
    refine lv_goto (tgt := 62) hx hb dX7_goodFar_58 (by decide) ?_
    obtain ⟨e1, e2⟩ := Prod.mk.inj (Option.some.inj hf)
    exact hret _ _ _ _ _ dX7_goodFar_62 e1 (by rw [← e2]; exact hw)
noncomputable def F7_findAngle (S : pS) (k0 : Nat) (k1 : Nat) (a2 : Int32) (a3 : Int32) (a4 : Int32) : Option (pS) :=
  bL (sU S k0 1 (-1)) fun S_1 =>
  bL (sU S_1 k0 2 (-1)) fun S_2 =>
  bL (fun (S_3 : pS) =>
    some S_3) fun g43_13 =>
  bL (u2 fun (l5_4 : Int32) (S_5 : pS) =>
    if 60 < l5_4 then
      some (.inr S_5)
    else
      bB2 (F7_goodFar S_5 k0 k1 a2 l5_4 a3 a4) fun r_7 S_8 =>
      bL (F7_found S_8 k0 l5_4 r_7) fun S_9 =>
      bL (l5_4 + 1) fun l5_10 =>
      some (.inl (l5_10, S_9))) fun b13 =>
  bB (bP b13 ((0 : Int32), S_2)) (u1 g43_13)
set_option maxRecDepth 100000 in
set_option maxHeartbeats 4000000 in
theorem wX7_findAngle {l : Launch} {Z : pZ}  (hZ : CC Z) (S : pS) (k0 : Nat) (k1 : Nat) (a2 : Int32) (a3 : Int32) (a4 : Int32) (S2 : pS) (h0 : isA Z K_Thought k0) (h1 : isA Z K_World k1) (hf : F7_findAngle S k0 k1 a2 a3 a4 = some S2) : CV l Z yX7_findAngle cX7_findAngle 6 9 205 [.ref (za Z k0), .ref (za Z k1), .int a2, .int a3, .int a4] S S2 := by
  unfold F7_findAngle at hf
  refine eV (own := RX7) (by decide) rfl (Nat.le_of_ble_eq_true rfl) (fun p e s m args below meth c Q ls G hl hw hret => ?_)
  obtain ⟨hx, hb, hml, hown, hts⟩ := G.1
  have hl : lv_has ls 6 [(0, .ref (za Z k0)), (1, .ref (za Z k1)), (2, .int a2), (3, .int a3), (4, .int a4)] := hl
  refine lv_aload_n hx hb dX7_findAngle_0 rfl (lv_at hl 0 rfl) ?_
  refine lv_iconst hx hb dX7_findAngle_1 ki_m1 ?_
  obtain ⟨S_1, eS_1, hf⟩ := bL_e hf
  refine pI G hw h0 KX7 1 (by decide) rfl rfl rfl eS_1 fl_X7_46 dX7_findAngle_2 (fun H locs hw => ?_)
  refine lv_aload_n hx hb dX7_findAngle_5 rfl (lv_at hl 0 rfl) ?_
  refine lv_iconst hx hb dX7_findAngle_6 ki_m1 ?_
  obtain ⟨S_2, eS_2, hf⟩ := bL_e hf
  refine pI G hw h0 KX7 2 (by decide) rfl rfl rfl eS_2 fl_X7_49 dX7_findAngle_7 (fun H locs hw => ?_)
  refine lv_iconst hx hb dX7_findAngle_10 ki_0 ?_
  refine lv_istore (lv' := [(5, .int 0), (0, .ref (za Z k0)), (1, .ref (za Z k1)), (2, .int a2), (3, .int a3), (4, .int a4)]) hx hb dX7_findAngle_11 hl (by decide) rfl (fun ls hl => ?_)
  obtain ⟨g43_13, ej, hf⟩ := bL_e hf
  have R43_13 : ∀ (S_3 : pS) (H : Heap) (locs : List Loc) (ls : Array Slot), Wd Z s S_3 H locs → lv_has ls 6 [] → g43_13 S_3 = some S2 → W p l e { frames := 9, cells := 0, slots := 0, locals := 205 } s m args below meth c H locs 0 0 Q (F0 m 43 ls []) := by
    intro S_3 H locs ls hw hl hf
    have hf := (congrFun ej S_3).symm.trans hf
    exact hret _ _ _ _ dX7_findAngle_43 (by rw [← (Option.some.inj hf)]; exact hw)
  clear ej
  obtain ⟨b13, eb, hf⟩ := bL_e hf
  have RL13 : ∀ (n : Nat) z, (u1 g43_13) z = some S2 → ∀ (l5_4 : Int32) (S_5 : pS) (H : Heap) (locs : List Loc) (ls : Array Slot), Wd Z s S_5 H locs → lv_has ls 6 [(0, .ref (za Z k0)), (1, .ref (za Z k1)), (2, .int a2), (3, .int a3), (4, .int a4), (5, .int l5_4)] → bPn b13 n (l5_4, S_5) = some z → W p l e { frames := 9, cells := 0, slots := 0, locals := 205 } s m args below meth c H locs 0 0 Q (F0 m 13 ls []) := by
    intro n
    induction n with
    | zero =>
      intro z hg l5_4 S_5 H locs ls hw hl hz
      exact bPn_0 hz
    | succ n ih =>
      intro z hg l5_4 S_5 H locs ls hw hl hz
      obtain ⟨q_6, hf, hz⟩ := bPn_e hz
      have hf := u2_e ((congrFun eb _).symm.trans hf)
      refine lv_iload hx hb dX7_findAngle_13 (lv_at hl 5 rfl) ?_
      refine lv_bipush hx hb dX7_findAngle_15 kb_60 ?_
      refine lv_icmp_gt (tgt := 43) hx hb dX7_findAngle_17 (by decide) (fun c_11 => ?_) (fun c_11 => ?_)
      · have hf := (if_pos c_11).symm.trans hf
        obtain rfl := Option.some.inj hf
        obtain rfl := Option.some.inj (hz : some _ = some _)
        exact R43_13 _ _ _ _ hw (lv_sub hl [] rfl) hg
      · have hf := (if_neg c_11).symm.trans hf
        refine lv_aload_n hx hb dX7_findAngle_20 rfl (lv_at hl 0 rfl) ?_
        refine lv_iload hx hb dX7_findAngle_21 (lv_at hl 5 rfl) ?_
        refine lv_aload_n hx hb dX7_findAngle_23 rfl (lv_at hl 0 rfl) ?_
        refine lv_aload_n hx hb dX7_findAngle_24 rfl (lv_at hl 1 rfl) ?_
        refine lv_iload_n hx hb dX7_findAngle_25 rfl (lv_at hl 2 rfl) ?_
        refine lv_iload hx hb dX7_findAngle_26 (lv_at hl 5 rfl) ?_
        refine lv_iload_n hx hb dX7_findAngle_28 rfl (lv_at hl 3 rfl) ?_
        refine lv_iload hx hb dX7_findAngle_29 (lv_at hl 4 rfl) ?_
        obtain ⟨r_7, S_8, hr_7, hf⟩ := bB2_e hf
        refine kVi (rest := [.int l5_4, .ref (za Z k0)]) G hw (wX7_goodFar hZ S_5 k0 k1 a2 l5_4 a3 a4 r_7 S_8 h0 h1 hr_7) cw_X7_52 h0 KX7 ⟨Nat.le_of_ble_eq_true rfl, Nat.le_of_ble_eq_true rfl⟩ rfl hl.1 rfl (Nat.le_of_ble_eq_true rfl) ⟨Nat.le_refl _, Nat.le_refl _⟩ dX7_findAngle_31 (fun H locs hw => ?_)
        obtain ⟨S_9, hS_9, hf⟩ := bL_e hf
        refine kVv (rest := []) G hw (wX7_found hZ S_8 k0 l5_4 r_7 S_9 h0 hS_9.symm) cw_X7_56 h0 KX7 ⟨Nat.le_of_ble_eq_true rfl, Nat.le_of_ble_eq_true rfl⟩ rfl hl.1 rfl (Nat.le_of_ble_eq_true rfl) ⟨Nat.le_refl _, Nat.le_refl _⟩ dX7_findAngle_34 (fun H locs hw => ?_)
        obtain ⟨l5_10, el5_10, hf⟩ := bL_e hf
        refine lv_iinc (v := l5_10) (lv' := [(5, .int l5_10), (0, .ref (za Z k0)), (1, .ref (za Z k1)), (2, .int a2), (3, .int a3), (4, .int a4)]) hx hb dX7_findAngle_37 hl (k := 5) rfl (by rw [el5_10]; rfl) (by decide) rfl (fun ls hl => ?_)
        refine lv_goto (tgt := 13) hx hb dX7_findAngle_40 (by decide) ?_
        obtain rfl := Option.some.inj hf
        exact ih _ hg _ _ _ _ _ hw (lv_sub hl [1, 2, 3, 4, 5, 0] rfl) hz
  clear eb
  obtain ⟨z, hz, hf⟩ := bB_e hf
  obtain ⟨n, hz⟩ := bP_e hz
  exact RL13 n z hf _ _ _ _ _ hw (lv_sub hl [1, 2, 3, 4, 5, 0] rfl) hz
noncomputable def F7_leastAround (S : pS) (k0 : Nat) (a1 : Int32) (a2 : Int32) : Option (Int32) :=
  bG (vp_in (F11_hold a1 0 90) 91) <|
  bL (S (k0 + 3) ((F11_hold a1 0 90).toNatClampNeg)) fun l3_2 =>
  bL (-a2) fun l4_3 =>
  bL (fun (l3_4 : Int32) =>
    some l3_4) fun g49_17 =>
  bL (u2 fun (l3_5 : Int32) (l4_6 : Int32) =>
    if a2 < l4_6 then
      some (.inr l3_5)
    else
      bG (vp_in (F11_hold (a1 + l4_6) 0 90) 91) <|
      bL (jmin l3_5 (S (k0 + 3) ((F11_hold (a1 + l4_6) 0 90).toNatClampNeg))) fun l3_9 =>
      bL (l4_6 + 1) fun l4_10 =>
      some (.inl (l3_9, l4_10))) fun b17 =>
  bB (bP b17 (l3_2, l4_3)) (u1 g49_17)
set_option maxRecDepth 100000 in
set_option maxHeartbeats 4000000 in
theorem wX7_leastAround {l : Launch} {Z : pZ}  (hZ : CC Z) (S : pS) (k0 : Nat) (a1 : Int32) (a2 : Int32) (r : Int32) (h0 : isA Z K_Thought k0) (hf : F7_leastAround S k0 a1 a2 = some r) : CI l Z yX7_leastAround cX7_leastAround 5 .int 4 82 [.ref (za Z k0), .int a1, .int a2] S r S := by
  unfold F7_leastAround at hf
  refine eI (own := RX7) (by decide) rfl (Nat.le_of_ble_eq_true rfl) (fun p e s m args below meth c Q ls G hl hw hret => ?_)
  obtain ⟨hx, hb, hml, hown, hts⟩ := G.1
  have hl : lv_has ls 5 [(0, .ref (za Z k0)), (1, .int a1), (2, .int a2)] := hl
  refine lv_aload_n hx hb dX7_leastAround_0 rfl (lv_at hl 0 rfl) ?_
  refine gF G hw h0 KX7 3 (k2 := (k0 + 3)) rfl (by decide) rfl fl_X7_18 dX7_leastAround_1 ?_
  refine lv_iload_n hx hb dX7_leastAround_4 rfl (lv_at hl 1 rfl) ?_
  refine lv_iconst hx hb dX7_leastAround_5 ki_0 ?_
  refine lv_bipush hx hb dX7_leastAround_6 kb_90 ?_
  refine kNi (rest := [.ref (za Z (k0 + 3))]) G hw (wX11_hold hZ S a1 0 90 (F11_hold a1 0 90) rfl) cw_X7_64 ⟨Nat.le_of_ble_eq_true rfl, Nat.le_of_ble_eq_true rfl⟩ rfl hl.1 rfl (Nat.le_of_ble_eq_true rfl) ⟨Nat.le_refl _, Nat.le_refl _⟩ dX7_leastAround_8 (fun H locs hw => ?_)
  obtain ⟨hg_1, hf⟩ := bG_e hf
  refine aI G hw (sub_Thought_fars hZ h0) hg_1 (j := (F11_hold a1 0 90).toNatClampNeg) rfl dX7_leastAround_11 ?_
  obtain ⟨l3_2, el3_2, hf⟩ := bL_e hf
  refine top_i el3_2 ?_
  refine lv_istore_n (lv' := [(3, .int l3_2), (0, .ref (za Z k0)), (1, .int a1), (2, .int a2)]) hx hb dX7_leastAround_12 rfl hl (by decide) rfl (fun ls hl => ?_)
  refine lv_iload_n hx hb dX7_leastAround_13 rfl (lv_at hl 3 rfl) ?_
  refine lv_ineg hx hb dX7_leastAround_14 ?_
  obtain ⟨l4_3, el4_3, hf⟩ := bL_e hf
  refine top_i el4_3 ?_
  refine lv_istore (lv' := [(4, .int l4_3), (3, .int l3_2), (0, .ref (za Z k0)), (1, .int a1), (2, .int a2)]) hx hb dX7_leastAround_15 hl (by decide) rfl (fun ls hl => ?_)
  obtain ⟨g49_17, ej, hf⟩ := bL_e hf
  have R49_17 : ∀ (l3_4 : Int32) (H : Heap) (locs : List Loc) (ls : Array Slot), Wd Z s S H locs → lv_has ls 5 [(3, .int l3_4)] → g49_17 l3_4 = some r → W p l e { frames := 4, cells := 0, slots := 0, locals := 82 } s m args below meth c H locs 0 0 Q (F0 m 49 ls []) := by
    intro l3_4 H locs ls hw hl hf
    have hf := (congrFun ej l3_4).symm.trans hf
    refine lv_iload_n hx hb dX7_leastAround_49 rfl (lv_at hl 0 rfl) ?_
    exact hret _ _ _ _ _ dX7_leastAround_50 (Option.some.inj hf) hw
  clear ej
  obtain ⟨b17, eb, hf⟩ := bL_e hf
  have RL17 : ∀ (n : Nat) z, (u1 g49_17) z = some r → ∀ (l3_5 : Int32) (l4_6 : Int32) (H : Heap) (locs : List Loc) (ls : Array Slot), Wd Z s S H locs → lv_has ls 5 [(0, .ref (za Z k0)), (1, .int a1), (2, .int a2), (3, .int l3_5), (4, .int l4_6)] → bPn b17 n (l3_5, l4_6) = some z → W p l e { frames := 4, cells := 0, slots := 0, locals := 82 } s m args below meth c H locs 0 0 Q (F0 m 17 ls []) := by
    intro n
    induction n with
    | zero =>
      intro z hg l3_5 l4_6 H locs ls hw hl hz
      exact bPn_0 hz
    | succ n ih =>
      intro z hg l3_5 l4_6 H locs ls hw hl hz
      obtain ⟨q_7, hf, hz⟩ := bPn_e hz
      have hf := u2_e ((congrFun eb _).symm.trans hf)
      refine lv_iload hx hb dX7_leastAround_17 (lv_at hl 4 rfl) ?_
      refine lv_iload_n hx hb dX7_leastAround_19 rfl (lv_at hl 2 rfl) ?_
      refine lv_icmp_gt (tgt := 49) hx hb dX7_leastAround_20 (by decide) (fun c_11 => ?_) (fun c_11 => ?_)
      · have hf := (if_pos c_11).symm.trans hf
        obtain rfl := Option.some.inj hf
        obtain rfl := Option.some.inj (hz : some _ = some _)
        exact R49_17 _ _ _ _ hw (lv_sub hl [3] rfl) hg
      · have hf := (if_neg c_11).symm.trans hf
        refine lv_iload_n hx hb dX7_leastAround_23 rfl (lv_at hl 3 rfl) ?_
        refine lv_aload_n hx hb dX7_leastAround_24 rfl (lv_at hl 0 rfl) ?_
        refine gF G hw h0 KX7 3 (k2 := (k0 + 3)) rfl (by decide) rfl fl_X7_18 dX7_leastAround_25 ?_
        refine lv_iload_n hx hb dX7_leastAround_28 rfl (lv_at hl 1 rfl) ?_
        refine lv_iload hx hb dX7_leastAround_29 (lv_at hl 4 rfl) ?_
        refine lv_iadd hx hb dX7_leastAround_31 ?_
        refine lv_iconst hx hb dX7_leastAround_32 ki_0 ?_
        refine lv_bipush hx hb dX7_leastAround_33 kb_90 ?_
        refine kNi (rest := [.ref (za Z (k0 + 3)), .int l3_5]) G hw (wX11_hold hZ S (a1 + l4_6) 0 90 (F11_hold (a1 + l4_6) 0 90) rfl) cw_X7_64 ⟨Nat.le_of_ble_eq_true rfl, Nat.le_of_ble_eq_true rfl⟩ rfl hl.1 rfl (Nat.le_of_ble_eq_true rfl) ⟨Nat.le_refl _, Nat.le_refl _⟩ dX7_leastAround_35 (fun H locs hw => ?_)
        obtain ⟨hg_8, hf⟩ := bG_e hf
        refine aI G hw (sub_Thought_fars hZ h0) hg_8 (j := (F11_hold (a1 + l4_6) 0 90).toNatClampNeg) rfl dX7_leastAround_38 ?_
        refine xmin G hl.1 ml_X7_68 (Nat.le_of_ble_eq_true rfl) (Nat.le_of_ble_eq_true rfl) ⟨Nat.le_refl _, Nat.le_refl _⟩ dX7_leastAround_39 ?_
        obtain ⟨l3_9, el3_9, hf⟩ := bL_e hf
        refine top_i el3_9 ?_
        refine lv_istore_n (lv' := [(3, .int l3_9), (0, .ref (za Z k0)), (1, .int a1), (2, .int a2), (4, .int l4_6)]) hx hb dX7_leastAround_42 rfl hl (by decide) rfl (fun ls hl => ?_)
        obtain ⟨l4_10, el4_10, hf⟩ := bL_e hf
        refine lv_iinc (v := l4_10) (lv' := [(4, .int l4_10), (3, .int l3_9), (0, .ref (za Z k0)), (1, .int a1), (2, .int a2)]) hx hb dX7_leastAround_43 hl (k := 4) rfl (by rw [el4_10]; rfl) (by decide) rfl (fun ls hl => ?_)
        refine lv_goto (tgt := 17) hx hb dX7_leastAround_46 (by decide) ?_
        obtain rfl := Option.some.inj hf
        exact ih _ hg _ _ _ _ _ hw (lv_sub hl [2, 3, 4, 1, 0] rfl) hz
  clear eb
  obtain ⟨z, hz, hf⟩ := bB_e hf
  obtain ⟨n, hz⟩ := bP_e hz
  exact RL17 n z hf _ _ _ _ _ hw (lv_sub hl [2, 3, 4, 1, 0] rfl) hz

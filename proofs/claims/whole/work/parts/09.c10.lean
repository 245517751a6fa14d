noncomputable def F11_needed (S : pS) (a1 : Int32) (a2 : Int32) (a3 : Int32) (a4 : Int32) : Option (Int32 × pS) :=
  if (F11_canThrow S 0 a1 a2) = 0 then
    some (((-1) : Int32), S)
  else
    if (F11_canBlow a3) = 0 then
      some (((-1) : Int32), S)
    else
      bL (fun (S_1 : pS) =>
        some (((-1) : Int32), S_1)) fun g69_22 =>
      bL (fun (l5_2 : Int32) (S_3 : pS) =>
        some (l5_2, S_3)) fun g60_22 =>
      bL (u2 fun (l5_4 : Int32) (S_5 : pS) =>
        if 99 < l5_4 then
          some (.inr (.inl S_5))
        else
          bB2 (F7_goodFar S_5 59 1 l5_4 a1 a2 a3) fun r_7 S_8 =>
          bL (fun (_ : Unit) =>
            bL (l5_4 + 1) fun l5_9 =>
            some (.inl (l5_9, S_8))) fun j63 =>
          if r_7 = (-1) then
            j63 ()
          else
            if r_7 < a4 then
              j63 ()
            else
              some (.inr (.inr (l5_4, S_8)))) fun b22 =>
      bB (bP b22 ((0 : Int32), S)) (Sum.elim (u1 g69_22) (u2 g60_22))
set_option maxRecDepth 100000 in
set_option maxHeartbeats 4000000 in
theorem wX11_needed {l : Launch} {Z : pZ}  (hZ : CC Z) (S : pS) (a1 : Int32) (a2 : Int32) (a3 : Int32) (a4 : Int32) (r : Int32) (S2 : pS) (h0 : isA Z K_PF 0) (hf : F11_needed S a1 a2 a3 a4 = some (r, S2)) : CI l Z yX11_needed cX11_needed 7 .int 9 205 [.ref (za Z 0), .int a1, .int a2, .int a3, .int a4] S r S2 := by
  unfold F11_needed at hf
  refine eI (own := RX11) (by decide) rfl (Nat.le_of_ble_eq_true rfl) (fun p e s m args below meth c Q ls G hl hw hret => ?_)
  obtain ⟨hx, hb, hml, hown, hts⟩ := G.1
  have hl : lv_has ls 7 [(0, .ref (za Z 0)), (1, .int a1), (2, .int a2), (3, .int a3), (4, .int a4)] := hl
  refine lv_aload_n hx hb dX11_needed_0 rfl (lv_at hl 0 rfl) ?_
  refine lv_iconst hx hb dX11_needed_1 ki_0 ?_
  refine lv_iload_n hx hb dX11_needed_2 rfl (lv_at hl 1 rfl) ?_
  refine lv_iload_n hx hb dX11_needed_3 rfl (lv_at hl 2 rfl) ?_
  refine kVi (rest := []) G hw (wX11_canThrow hZ S 0 a1 a2 (F11_canThrow S 0 a1 a2) h0 rfl) cw_X11_186 h0 KX11 ⟨Nat.le_of_ble_eq_true rfl, Nat.le_of_ble_eq_true rfl⟩ rfl hl.1 rfl (Nat.le_of_ble_eq_true rfl) ⟨Nat.le_refl _, Nat.le_refl _⟩ dX11_needed_4 (fun H locs hw => ?_)
  refine lv_if_eq (tgt := 17) hx hb dX11_needed_7 (by decide) (fun c_14 => ?_) (fun c_14 => ?_)
  · have hf := (if_pos c_14).symm.trans hf
    refine lv_iconst hx hb dX11_needed_17 ki_m1 ?_
    obtain ⟨e1, e2⟩ := Prod.mk.inj (Option.some.inj hf)
    exact hret _ _ _ _ _ dX11_needed_18 e1 (by rw [← e2]; exact hw)
  · have hf := (if_neg c_14).symm.trans hf
    refine lv_iload_n hx hb dX11_needed_10 rfl (lv_at hl 3 rfl) ?_
    refine kSi (rest := []) G hw (wX11_canBlow hZ S a3 (F11_canBlow a3) rfl) cw_X11_329 ⟨Nat.le_of_ble_eq_true rfl, Nat.le_of_ble_eq_true rfl⟩ rfl hl.1 rfl (Nat.le_of_ble_eq_true rfl) ⟨Nat.le_refl _, Nat.le_refl _⟩ dX11_needed_11 (fun H locs hw => ?_)
    refine lv_if_ne (tgt := 19) hx hb dX11_needed_14 (by decide) (fun c_13 => ?_) (fun c_13 => ?_)
    · have hf := (if_neg c_13).symm.trans hf
      refine lv_iconst hx hb dX11_needed_19 ki_0 ?_
      refine lv_istore (lv' := [(5, .int 0), (0, .ref (za Z 0)), (1, .int a1), (2, .int a2), (3, .int a3), (4, .int a4)]) hx hb dX11_needed_20 hl (by decide) rfl (fun ls hl => ?_)
      obtain ⟨g69_22, ej, hf⟩ := bL_e hf
      have R69_22 : ∀ (S_1 : pS) (H : Heap) (locs : List Loc) (ls : Array Slot), Wd Z s S_1 H locs → lv_has ls 7 [] → g69_22 S_1 = some (r, S2) → W p l e { frames := 9, cells := 0, slots := 0, locals := 205 } s m args below meth c H locs 0 0 Q (F0 m 69 ls []) := by
        intro S_1 H locs ls hw hl hf
        have hf := (congrFun ej S_1).symm.trans hf
        refine lv_iconst hx hb dX11_needed_69 ki_m1 ?_
        obtain ⟨e1, e2⟩ := Prod.mk.inj (Option.some.inj hf)
        exact hret _ _ _ _ _ dX11_needed_70 e1 (by rw [← e2]; exact hw)
      clear ej
      obtain ⟨g60_22, ej, hf⟩ := bL_e hf
      have R60_22 : ∀ (l5_2 : Int32) (S_3 : pS) (H : Heap) (locs : List Loc) (ls : Array Slot), Wd Z s S_3 H locs → lv_has ls 7 [(5, .int l5_2)] → g60_22 l5_2 S_3 = some (r, S2) → W p l e { frames := 9, cells := 0, slots := 0, locals := 205 } s m args below meth c H locs 0 0 Q (F0 m 60 ls []) := by
        intro l5_2 S_3 H locs ls hw hl hf
        have hf := (congrFun (congrFun ej l5_2) S_3).symm.trans hf
        refine lv_iload hx hb dX11_needed_60 (lv_at hl 0 rfl) ?_
        obtain ⟨e1, e2⟩ := Prod.mk.inj (Option.some.inj hf)
        exact hret _ _ _ _ _ dX11_needed_62 e1 (by rw [← e2]; exact hw)
      clear ej
      obtain ⟨b22, eb, hf⟩ := bL_e hf
      have RL22 : ∀ (n : Nat) z, (Sum.elim (u1 g69_22) (u2 g60_22)) z = some (r, S2) → ∀ (l5_4 : Int32) (S_5 : pS) (H : Heap) (locs : List Loc) (ls : Array Slot), Wd Z s S_5 H locs → lv_has ls 7 [(0, .ref (za Z 0)), (1, .int a1), (2, .int a2), (3, .int a3), (4, .int a4), (5, .int l5_4)] → bPn b22 n (l5_4, S_5) = some z → W p l e { frames := 9, cells := 0, slots := 0, locals := 205 } s m args below meth c H locs 0 0 Q (F0 m 22 ls []) := by
        intro n
        induction n with
        | zero =>
          intro z hg l5_4 S_5 H locs ls hw hl hz
          exact bPn_0 hz
        | succ n ih =>
          intro z hg l5_4 S_5 H locs ls hw hl hz
          obtain ⟨q_6, hf, hz⟩ := bPn_e hz
          have hf := u2_e ((congrFun eb _).symm.trans hf)
          refine lv_iload hx hb dX11_needed_22 (lv_at hl 5 rfl) ?_
          refine lv_bipush hx hb dX11_needed_24 kb_99 ?_
          refine lv_icmp_gt (tgt := 69) hx hb dX11_needed_26 (by decide) (fun c_12 => ?_) (fun c_12 => ?_)
          · have hf := (if_pos c_12).symm.trans hf
            obtain rfl := Option.some.inj hf
            obtain rfl := Option.some.inj (hz : some _ = some _)
            exact R69_22 _ _ _ _ hw (lv_sub hl [] rfl) hg
          · have hf := (if_neg c_12).symm.trans hf
            refine lv_aload_n hx hb dX11_needed_29 rfl (lv_at hl 0 rfl) ?_
            refine gF G hw h0 KX11 2 (k2 := 59) rfl (by decide) rfl fl_X11_26 dX11_needed_30 ?_
            refine lv_aload_n hx hb dX11_needed_33 rfl (lv_at hl 0 rfl) ?_
            refine gF G hw h0 KX11 0 (k2 := 1) rfl (by decide) rfl fl_X11_10 dX11_needed_34 ?_
            refine lv_iload hx hb dX11_needed_37 (lv_at hl 5 rfl) ?_
            refine lv_iload_n hx hb dX11_needed_39 rfl (lv_at hl 1 rfl) ?_
            refine lv_iload_n hx hb dX11_needed_40 rfl (lv_at hl 2 rfl) ?_
            refine lv_iload_n hx hb dX11_needed_41 rfl (lv_at hl 3 rfl) ?_
            obtain ⟨r_7, S_8, hr_7, hf⟩ := bB2_e hf
            refine kVi (rest := []) G hw (wX7_goodFar hZ S_5 59 1 l5_4 a1 a2 a3 r_7 S_8 (sub_PF_thought hZ h0) (sub_PF_now hZ h0) hr_7) cw_X11_381 (sub_PF_thought hZ h0) KX7 ⟨Nat.le_of_ble_eq_true rfl, Nat.le_of_ble_eq_true rfl⟩ rfl hl.1 rfl (Nat.le_of_ble_eq_true rfl) ⟨Nat.le_refl _, Nat.le_refl _⟩ dX11_needed_42 (fun H locs hw => ?_)
            refine lv_istore (lv' := [(6, .int r_7), (0, .ref (za Z 0)), (1, .int a1), (2, .int a2), (3, .int a3), (4, .int a4), (5, .int l5_4)]) hx hb dX11_needed_45 hl (by decide) rfl (fun ls hl => ?_)
            refine lv_iload hx hb dX11_needed_47 (lv_at hl 0 rfl) ?_
            refine lv_iconst hx hb dX11_needed_49 ki_m1 ?_
            obtain ⟨j63, ej, hf⟩ := bL_e hf
            have R63 : ∀ (H : Heap) (locs : List Loc) (ls : Array Slot), Wd Z s S_8 H locs → lv_has ls 7 [(0, .ref (za Z 0)), (1, .int a1), (2, .int a2), (3, .int a3), (4, .int a4), (5, .int l5_4)] → j63 () = some q_6 → W p l e { frames := 9, cells := 0, slots := 0, locals := 205 } s m args below meth c H locs 0 0 Q (F0 m 63 ls []) := by
              intro  H locs ls hw hl hf
              have hf := (congrFun ej ()).symm.trans hf
              obtain ⟨l5_9, el5_9, hf⟩ := bL_e hf
              refine lv_iinc (v := l5_9) (lv' := [(5, .int l5_9), (0, .ref (za Z 0)), (1, .int a1), (2, .int a2), (3, .int a3), (4, .int a4)]) hx hb dX11_needed_63 hl (k := 5) rfl (by rw [el5_9]; rfl) (by decide) rfl (fun ls hl => ?_)
              refine lv_goto (tgt := 22) hx hb dX11_needed_66 (by decide) ?_
              obtain rfl := Option.some.inj hf
              exact ih _ hg _ _ _ _ _ hw (lv_sub hl [1, 2, 3, 4, 5, 0] rfl) hz
            clear ej
            refine lv_icmp_eq (tgt := 63) hx hb dX11_needed_50 (by decide) (fun c_11 => ?_) (fun c_11 => ?_)
            · have hf := (if_pos c_11).symm.trans hf
              exact R63 _ _ _ hw (lv_sub hl [1, 2, 3, 4, 5, 6] rfl) hf
            · have hf := (if_neg c_11).symm.trans hf
              refine lv_iload hx hb dX11_needed_53 (lv_at hl 0 rfl) ?_
              refine lv_iload hx hb dX11_needed_55 (lv_at hl 5 rfl) ?_
              refine lv_icmp_lt (tgt := 63) hx hb dX11_needed_57 (by decide) (fun c_10 => ?_) (fun c_10 => ?_)
              · have hf := (if_pos c_10).symm.trans hf
                exact R63 _ _ _ hw (lv_sub hl [1, 2, 3, 4, 5, 6] rfl) hf
              · have hf := (if_neg c_10).symm.trans hf
                obtain rfl := Option.some.inj hf
                obtain rfl := Option.some.inj (hz : some _ = some _)
                exact R60_22 _ _ _ _ _ hw (lv_sub hl [6] rfl) hg
      clear eb
      obtain ⟨z, hz, hf⟩ := bB_e hf
      obtain ⟨n, hz⟩ := bP_e hz
      exact RL22 n z hf _ _ _ _ _ hw (lv_sub hl [1, 2, 3, 4, 5, 0] rfl) hz
    · have hf := (if_pos c_13).symm.trans hf
      refine lv_iconst hx hb dX11_needed_17 ki_m1 ?_
      obtain ⟨e1, e2⟩ := Prod.mk.inj (Option.some.inj hf)
      exact hret _ _ _ _ _ dX11_needed_18 e1 (by rw [← e2]; exact hw)
noncomputable def F11_rests (S : pS) (a1 : Int32) (a2 : Int32) : Option (Int32 × pS) :=
  bB (F10_one S 1 a1) fun r_1 =>
  bO r_1 (
    some (((-1) : Int32), S)) fun o_2 =>
  if (F11_within a2 0 1000) = 0 then
    some (((-1) : Int32), S)
  else
    bL (F0_ask S 63 o_2 (S 1 2)) fun S_3 =>
    bL (S_3 o_2 1) fun l4_4 =>
    bL (fun (S_5 : pS) =>
      some (((-1) : Int32), S_5)) fun g110_50 =>
    bL (fun (l5_6 : Int32) (S_7 : pS) =>
      some (l5_6, S_7)) fun g64_50 =>
    bL (u3 fun (l4_8 : Int32) (l5_9 : Int32) (S_10 : pS) =>
      if 400 < l5_9 then
        some (.inr (.inl S_10))
      else
        if a2 < l4_8 then
          bL (F0_askState S_10 63 l4_8 (S_10 o_2 3)) fun S_12 =>
          bB2 (F0_tell S_12 63 15 2) fun r_13 S_14 =>
          bL (jmax 0 (l4_8 - r_13)) fun l4_15 =>
          bL (l5_9 + 1) fun l5_16 =>
          some (.inl (l4_15, l5_16, S_14))
        else
          some (.inr (.inr (l5_9, S_10)))) fun b50 =>
    bB (bP b50 (l4_4, (0 : Int32), S_3)) (Sum.elim (u1 g110_50) (u2 g64_50))
set_option maxRecDepth 100000 in
set_option maxHeartbeats 4000000 in
theorem wX11_rests {l : Launch} {Z : pZ}  (hZ : CC Z) (S : pS) (a1 : Int32) (a2 : Int32) (r : Int32) (S2 : pS) (h0 : isA Z K_PF 0) (hf : F11_rests S a1 a2 = some (r, S2)) : CI l Z yX11_rests cX11_rests 6 .int 7 154 [.ref (za Z 0), .int a1, .int a2] S r S2 := by
  unfold F11_rests at hf
  refine eI (own := RX11) (by decide) rfl (Nat.le_of_ble_eq_true rfl) (fun p e s m args below meth c Q ls G hl hw hret => ?_)
  obtain ⟨hx, hb, hml, hown, hts⟩ := G.1
  have hl : lv_has ls 6 [(0, .ref (za Z 0)), (1, .int a1), (2, .int a2)] := hl
  refine lv_aload_n hx hb dX11_rests_0 rfl (lv_at hl 0 rfl) ?_
  refine gF G hw h0 KX11 0 (k2 := 1) rfl (by decide) rfl fl_X11_10 dX11_rests_1 ?_
  refine lv_iload_n hx hb dX11_rests_4 rfl (lv_at hl 1 rfl) ?_
  obtain ⟨r_1, hr_1, hf⟩ := bB_e hf
  refine kVq (rest := []) G hw (wX10_one hZ S 1 a1 r_1 (sub_PF_now hZ h0) hr_1) cw_X11_80 (sub_PF_now hZ h0) KX10 ⟨Nat.le_of_ble_eq_true rfl, Nat.le_of_ble_eq_true rfl⟩ rfl hl.1 rfl (Nat.le_of_ble_eq_true rfl) ⟨Nat.le_refl _, Nat.le_refl _⟩ dX11_rests_5 (fun H locs hw => ?_)
  refine astQn (lv' := [(3, va_rf (Option.map (za Z) r_1)), (0, .ref (za Z 0)), (1, .int a1), (2, .int a2)]) hx hb dX11_rests_8 rfl hl (by decide) rfl (fun ls hl => ?_)
  refine aldQn hx hb dX11_rests_9 rfl (lv_at hl 0 rfl) ?_
  refine ifnQ (tgt := 24) hx hb dX11_rests_10 (by decide) (fun e_20 => ?_) (fun o_2 e_20 => ?_)
  · subst e_20
    have hf := bO_n rfl hf
    refine lv_iconst hx hb dX11_rests_24 ki_m1 ?_
    obtain ⟨e1, e2⟩ := Prod.mk.inj (Option.some.inj hf)
    exact hret _ _ _ _ _ dX11_rests_25 e1 (by rw [← e2]; exact hw)
  · subst e_20
    have hf := bO_s rfl hf
    have ho_2 := ret_X10_one hZ S 1 a1 (sub_PF_now hZ h0) (hr_1.trans (congrArg some rfl))
    refine lv_iload_n hx hb dX11_rests_13 rfl (lv_at hl 3 rfl) ?_
    refine lv_iconst hx hb dX11_rests_14 ki_0 ?_
    refine lv_sipush hx hb dX11_rests_15 ks_1000 ?_
    refine kSi (rest := []) G hw (wX11_within hZ S a2 0 1000 (F11_within a2 0 1000) rfl) cw_X11_51 ⟨Nat.le_of_ble_eq_true rfl, Nat.le_of_ble_eq_true rfl⟩ rfl hl.1 rfl (Nat.le_of_ble_eq_true rfl) ⟨Nat.le_refl _, Nat.le_refl _⟩ dX11_rests_18 (fun H locs hw => ?_)
    refine lv_if_ne (tgt := 26) hx hb dX11_rests_21 (by decide) (fun c_19 => ?_) (fun c_19 => ?_)
    · have hf := (if_neg c_19).symm.trans hf
      refine lv_aload_n hx hb dX11_rests_26 rfl (lv_at hl 1 rfl) ?_
      refine gF G hw h0 KX11 3 (k2 := 63) rfl (by decide) rfl fl_X11_33 dX11_rests_27 ?_
      refine lv_aload_n hx hb dX11_rests_30 rfl (lv_at hl 0 rfl) ?_
      refine lv_aload_n hx hb dX11_rests_31 rfl (lv_at hl 1 rfl) ?_
      refine gF G hw h0 KX11 0 (k2 := 1) rfl (by decide) rfl fl_X11_10 dX11_rests_32 ?_
      refine gI G hw (sub_PF_now hZ h0) KX10 2 (by decide) rfl fl_X11_205 dX11_rests_35 ?_
      obtain ⟨S_3, hS_3, hf⟩ := bL_e hf
      refine kVv (rest := []) G hw (wX0_ask hZ S 63 o_2 (S 1 2) S_3 (sub_PF_arms hZ h0) ho_2 hS_3.symm) cw_X11_208 (sub_PF_arms hZ h0) KX0 ⟨Nat.le_of_ble_eq_true rfl, Nat.le_of_ble_eq_true rfl⟩ rfl hl.1 rfl (Nat.le_of_ble_eq_true rfl) ⟨Nat.le_refl _, Nat.le_refl _⟩ dX11_rests_38 (fun H locs hw => ?_)
      refine lv_aload_n hx hb dX11_rests_41 rfl (lv_at hl 0 rfl) ?_
      refine gI G hw ho_2 KX8 1 (by decide) rfl fl_X11_89 dX11_rests_42 ?_
      obtain ⟨l4_4, el4_4, hf⟩ := bL_e hf
      refine top_i el4_4 ?_
      refine lv_istore (lv' := [(4, .int l4_4), (3, .ref (za Z o_2)), (0, .ref (za Z 0)), (1, .int a1), (2, .int a2)]) hx hb dX11_rests_45 hl (by decide) rfl (fun ls hl => ?_)
      refine lv_iconst hx hb dX11_rests_47 ki_0 ?_
      refine lv_istore (lv' := [(5, .int 0), (4, .int l4_4), (3, .ref (za Z o_2)), (0, .ref (za Z 0)), (1, .int a1), (2, .int a2)]) hx hb dX11_rests_48 hl (by decide) rfl (fun ls hl => ?_)
      obtain ⟨g110_50, ej, hf⟩ := bL_e hf
      have R110_50 : ∀ (S_5 : pS) (H : Heap) (locs : List Loc) (ls : Array Slot), Wd Z s S_5 H locs → lv_has ls 6 [] → g110_50 S_5 = some (r, S2) → W p l e { frames := 7, cells := 0, slots := 0, locals := 154 } s m args below meth c H locs 0 0 Q (F0 m 110 ls []) := by
        intro S_5 H locs ls hw hl hf
        have hf := (congrFun ej S_5).symm.trans hf
        refine lv_iconst hx hb dX11_rests_110 ki_m1 ?_
        obtain ⟨e1, e2⟩ := Prod.mk.inj (Option.some.inj hf)
        exact hret _ _ _ _ _ dX11_rests_111 e1 (by rw [← e2]; exact hw)
      clear ej
      obtain ⟨g64_50, ej, hf⟩ := bL_e hf
      have R64_50 : ∀ (l5_6 : Int32) (S_7 : pS) (H : Heap) (locs : List Loc) (ls : Array Slot), Wd Z s S_7 H locs → lv_has ls 6 [(5, .int l5_6)] → g64_50 l5_6 S_7 = some (r, S2) → W p l e { frames := 7, cells := 0, slots := 0, locals := 154 } s m args below meth c H locs 0 0 Q (F0 m 64 ls []) := by
        intro l5_6 S_7 H locs ls hw hl hf
        have hf := (congrFun (congrFun ej l5_6) S_7).symm.trans hf
        refine lv_iload hx hb dX11_rests_64 (lv_at hl 0 rfl) ?_
        obtain ⟨e1, e2⟩ := Prod.mk.inj (Option.some.inj hf)
        exact hret _ _ _ _ _ dX11_rests_66 e1 (by rw [← e2]; exact hw)
      clear ej
      obtain ⟨b50, eb, hf⟩ := bL_e hf
      have RL50 : ∀ (n : Nat) z, (Sum.elim (u1 g110_50) (u2 g64_50)) z = some (r, S2) → ∀ (l4_8 : Int32) (l5_9 : Int32) (S_10 : pS) (H : Heap) (locs : List Loc) (ls : Array Slot), Wd Z s S_10 H locs → lv_has ls 6 [(0, .ref (za Z 0)), (2, .int a2), (3, .ref (za Z o_2)), (4, .int l4_8), (5, .int l5_9)] → bPn b50 n (l4_8, l5_9, S_10) = some z → W p l e { frames := 7, cells := 0, slots := 0, locals := 154 } s m args below meth c H locs 0 0 Q (F0 m 50 ls []) := by
        intro n
        induction n with
        | zero =>
          intro z hg l4_8 l5_9 S_10 H locs ls hw hl hz
          exact bPn_0 hz
        | succ n ih =>
          intro z hg l4_8 l5_9 S_10 H locs ls hw hl hz
          obtain ⟨q_11, hf, hz⟩ := bPn_e hz
          have hf := u3_e ((congrFun eb _).symm.trans hf)
          refine lv_iload hx hb dX11_rests_50 (lv_at hl 4 rfl) ?_
          refine lv_sipush hx hb dX11_rests_52 ks_400 ?_
          refine lv_icmp_gt (tgt := 110) hx hb dX11_rests_55 (by decide) (fun c_18 => ?_) (fun c_18 => ?_)
          · have hf := (if_pos c_18).symm.trans hf
            obtain rfl := Option.some.inj hf
            obtain rfl := Option.some.inj (hz : some _ = some _)
            exact R110_50 _ _ _ _ hw (lv_sub hl [] rfl) hg
          · have hf := (if_neg c_18).symm.trans hf
            refine lv_iload hx hb dX11_rests_58 (lv_at hl 3 rfl) ?_
            refine lv_iload_n hx hb dX11_rests_60 rfl (lv_at hl 1 rfl) ?_
            refine lv_icmp_gt (tgt := 67) hx hb dX11_rests_61 (by decide) (fun c_17 => ?_) (fun c_17 => ?_)
            · have hf := (if_pos c_17).symm.trans hf
              refine lv_aload_n hx hb dX11_rests_67 rfl (lv_at hl 0 rfl) ?_
              refine gF G hw h0 KX11 3 (k2 := 63) rfl (by decide) rfl fl_X11_33 dX11_rests_68 ?_
              refine lv_iload hx hb dX11_rests_71 (lv_at hl 3 rfl) ?_
              refine lv_aload_n hx hb dX11_rests_73 rfl (lv_at hl 2 rfl) ?_
              refine gI G hw ho_2 KX8 3 (by decide) rfl fl_X11_247 dX11_rests_74 ?_
              obtain ⟨S_12, hS_12, hf⟩ := bL_e hf
              refine kVv (rest := []) G hw (wX0_askState hZ S_10 63 l4_8 (S_10 o_2 3) S_12 (sub_PF_arms hZ h0) hS_12.symm) cw_X11_367 (sub_PF_arms hZ h0) KX0 ⟨Nat.le_of_ble_eq_true rfl, Nat.le_of_ble_eq_true rfl⟩ rfl hl.1 rfl (Nat.le_of_ble_eq_true rfl) ⟨Nat.le_refl _, Nat.le_refl _⟩ dX11_rests_77 (fun H locs hw => ?_)
              refine lv_iconst hx hb dX11_rests_80 ki_0 ?_
              refine lv_iload hx hb dX11_rests_81 (lv_at hl 3 rfl) ?_
              refine lv_aload_n hx hb dX11_rests_83 rfl (lv_at hl 0 rfl) ?_
              refine gF G hw h0 KX11 3 (k2 := 63) rfl (by decide) rfl fl_X11_33 dX11_rests_84 ?_
              refine lv_aload_n hx hb dX11_rests_87 rfl (lv_at hl 0 rfl) ?_
              refine gF G hw h0 KX11 0 (k2 := 1) rfl (by decide) rfl fl_X11_10 dX11_rests_88 ?_
              refine gF G hw (sub_PF_now hZ h0) KX10 15 (k2 := 15) rfl (by decide) rfl fl_X11_124 dX11_rests_91 ?_
              refine lv_iconst hx hb dX11_rests_94 ki_2 ?_
              obtain ⟨r_13, S_14, hr_13, hf⟩ := bB2_e hf
              refine kVi (rest := [.int l4_8, .int 0]) G hw (wX0_tell hZ S_12 63 15 2 r_13 S_14 (sub_PF_arms hZ h0) (sub_World_arms hZ (sub_PF_now hZ h0)) hr_13) cw_X11_216 (sub_PF_arms hZ h0) KX0 ⟨Nat.le_of_ble_eq_true rfl, Nat.le_of_ble_eq_true rfl⟩ rfl hl.1 rfl (Nat.le_of_ble_eq_true rfl) ⟨Nat.le_refl _, Nat.le_refl _⟩ dX11_rests_95 (fun H locs hw => ?_)
              refine lv_isub hx hb dX11_rests_98 ?_
              refine xmax G hl.1 ml_X11_256 (Nat.le_of_ble_eq_true rfl) (Nat.le_of_ble_eq_true rfl) ⟨Nat.le_refl _, Nat.le_refl _⟩ dX11_rests_99 ?_
              obtain ⟨l4_15, el4_15, hf⟩ := bL_e hf
              refine top_i el4_15 ?_
              refine lv_istore (lv' := [(4, .int l4_15), (0, .ref (za Z 0)), (2, .int a2), (3, .ref (za Z o_2)), (5, .int l5_9)]) hx hb dX11_rests_102 hl (by decide) rfl (fun ls hl => ?_)
              obtain ⟨l5_16, el5_16, hf⟩ := bL_e hf
              refine lv_iinc (v := l5_16) (lv' := [(5, .int l5_16), (4, .int l4_15), (0, .ref (za Z 0)), (2, .int a2), (3, .ref (za Z o_2))]) hx hb dX11_rests_104 hl (k := 4) rfl (by rw [el5_16]; rfl) (by decide) rfl (fun ls hl => ?_)
              refine lv_goto (tgt := 50) hx hb dX11_rests_107 (by decide) ?_
              obtain rfl := Option.some.inj hf
              exact ih _ hg _ _ _ _ _ _ hw (lv_sub hl [2, 3, 4, 1, 0] rfl) hz
            · have hf := (if_neg c_17).symm.trans hf
              obtain rfl := Option.some.inj hf
              obtain rfl := Option.some.inj (hz : some _ = some _)
              exact R64_50 _ _ _ _ _ hw (lv_sub hl [4] rfl) hg
      clear eb
      obtain ⟨z, hz, hf⟩ := bB_e hf
      obtain ⟨n, hz⟩ := bP_e hz
      exact RL50 n z hf _ _ _ _ _ _ hw (lv_sub hl [3, 5, 2, 1, 0] rfl) hz
    · have hf := (if_pos c_19).symm.trans hf
      refine lv_iconst hx hb dX11_rests_24 ki_m1 ?_
      obtain ⟨e1, e2⟩ := Prod.mk.inj (Option.some.inj hf)
      exact hret _ _ _ _ _ dX11_rests_25 e1 (by rw [← e2]; exact hw)

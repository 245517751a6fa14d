noncomputable def F11_better (S : pS) (a1 : Int32) (a2 : Int32) (a3 : Int32) (a4 : Int32) : Option (Int64 × pS) :=
  if (F11_canThrow S a1 a2 a3) = 0 then
    some (((-1) : Int64), S)
  else
    if (F10_hasSpear S 1 a4) = 0 then
      some (((-1) : Int64), S)
    else
      bL (fun (l5_1 : Int64) (S_2 : pS) =>
        some (l5_1, S_2)) fun g104_33 =>
      bL (u3 fun (l5_3 : Int64) (l7_4 : Int32) (S_5 : pS) =>
        if 20 < l7_4 then
          some (.inr (l5_3, S_5))
        else
          bB2 (F7_goodFar S_5 59 1 a1 a2 a3 l7_4) fun r_7 S_8 =>
          bL (fun (l5_9 : Int64) (S_10 : pS) =>
            bL (l7_4 + 1) fun l7_11 =>
            some (.inl (l5_9, l7_11, S_10))) fun j98 =>
          if r_7 = (-1) then
            j98 l5_3 S_8
          else
            bB2 (F7_goodFar S_8 59 1 a1 a2 a4 l7_4) fun r_12 S_13 =>
            if r_7 ≤ r_12 then
              j98 l5_3 S_13
            else
              bL (l5_3 ||| ((1 : Int64) <<< ((l7_4 + 20 : Int32).toInt64 &&& 63))) fun l5_14 =>
              j98 l5_14 S_13) fun b33 =>
      bB (bP b33 ((0 : Int64), ((-20) : Int32), S)) (u2 g104_33)
set_option maxRecDepth 100000 in
set_option maxHeartbeats 4000000 in
theorem wX11_better {l : Launch} {Z : pZ}  (hZ : CC Z) (S : pS) (a1 : Int32) (a2 : Int32) (a3 : Int32) (a4 : Int32) (r : Int64) (S2 : pS) (h0 : isA Z K_PF 0) (hf : F11_better S a1 a2 a3 a4 = some (r, S2)) : CL l Z yX11_better cX11_better 9 9 205 [.ref (za Z 0), .int a1, .int a2, .int a3, .int a4] S r S2 := by
  unfold F11_better at hf
  refine eL (own := RX11) (by decide) rfl (Nat.le_of_ble_eq_true rfl) (fun p e s m args below meth c Q ls G hl hw hret => ?_)
  obtain ⟨hx, hb, hml, hown, hts⟩ := G.1
  have hl : lv_has ls 9 [(0, .ref (za Z 0)), (1, .int a1), (2, .int a2), (3, .int a3), (4, .int a4)] := hl
  refine lv_aload_n hx hb dX11_better_0 rfl (lv_at hl 0 rfl) ?_
  refine lv_iload_n hx hb dX11_better_1 rfl (lv_at hl 1 rfl) ?_
  refine lv_iload_n hx hb dX11_better_2 rfl (lv_at hl 2 rfl) ?_
  refine lv_iload_n hx hb dX11_better_3 rfl (lv_at hl 3 rfl) ?_
  refine kVi (rest := []) G hw (wX11_canThrow hZ S a1 a2 a3 (F11_canThrow S a1 a2 a3) h0 rfl) cw_X11_186 h0 KX11 ⟨Nat.le_of_ble_eq_true rfl, Nat.le_of_ble_eq_true rfl⟩ rfl hl.1 rfl (Nat.le_of_ble_eq_true rfl) ⟨Nat.le_refl _, Nat.le_refl _⟩ dX11_better_4 (fun H locs hw => ?_)
  refine lv_if_eq (tgt := 22) hx hb dX11_better_7 (by decide) (fun c_19 => ?_) (fun c_19 => ?_)
  · have hf := (if_pos c_19).symm.trans hf
    refine lv_ldc2 hx hb hown (hts _ cl_X11_358) dX11_better_22 ?_
    obtain ⟨e1, e2⟩ := Prod.mk.inj (Option.some.inj hf)
    exact hret _ _ _ _ _ dX11_better_25 e1 (by rw [← e2]; exact hw)
  · have hf := (if_neg c_19).symm.trans hf
    refine lv_aload_n hx hb dX11_better_10 rfl (lv_at hl 0 rfl) ?_
    refine gF G hw h0 KX11 0 (k2 := 1) rfl (by decide) rfl fl_X11_10 dX11_better_11 ?_
    refine lv_iload hx hb dX11_better_14 (lv_at hl 4 rfl) ?_
    refine kVi (rest := []) G hw (wX10_hasSpear hZ S 1 a4 (F10_hasSpear S 1 a4) (sub_PF_now hZ h0) rfl) cw_X11_193 (sub_PF_now hZ h0) KX10 ⟨Nat.le_of_ble_eq_true rfl, Nat.le_of_ble_eq_true rfl⟩ rfl hl.1 rfl (Nat.le_of_ble_eq_true rfl) ⟨Nat.le_refl _, Nat.le_refl _⟩ dX11_better_16 (fun H locs hw => ?_)
    refine lv_if_ne (tgt := 26) hx hb dX11_better_19 (by decide) (fun c_18 => ?_) (fun c_18 => ?_)
    · have hf := (if_neg c_18).symm.trans hf
      refine lv_lconst (v := 0) hx hb dX11_better_26 (by decide) ?_
      refine lv_lstore (lv' := [(5, .long 0), (0, .ref (za Z 0)), (1, .int a1), (2, .int a2), (3, .int a3), (4, .int a4)]) hx hb dX11_better_27 hl (by decide) rfl (fun ls hl => ?_)
      refine lv_bipush hx hb dX11_better_29 kb_m20 ?_
      refine lv_istore (lv' := [(7, .int (-20)), (5, .long 0), (0, .ref (za Z 0)), (1, .int a1), (2, .int a2), (3, .int a3), (4, .int a4)]) hx hb dX11_better_31 hl (by decide) rfl (fun ls hl => ?_)
      obtain ⟨g104_33, ej, hf⟩ := bL_e hf
      have R104_33 : ∀ (l5_1 : Int64) (S_2 : pS) (H : Heap) (locs : List Loc) (ls : Array Slot), Wd Z s S_2 H locs → lv_has ls 9 [(5, .long l5_1)] → g104_33 l5_1 S_2 = some (r, S2) → W p l e { frames := 9, cells := 0, slots := 0, locals := 205 } s m args below meth c H locs 0 0 Q (F0 m 104 ls []) := by
        intro l5_1 S_2 H locs ls hw hl hf
        have hf := (congrFun (congrFun ej l5_1) S_2).symm.trans hf
        refine lv_lload hx hb dX11_better_104 (lv_at hl 0 rfl) ?_
        obtain ⟨e1, e2⟩ := Prod.mk.inj (Option.some.inj hf)
        exact hret _ _ _ _ _ dX11_better_106 e1 (by rw [← e2]; exact hw)
      clear ej
      obtain ⟨b33, eb, hf⟩ := bL_e hf
      have RL33 : ∀ (n : Nat) z, (u2 g104_33) z = some (r, S2) → ∀ (l5_3 : Int64) (l7_4 : Int32) (S_5 : pS) (H : Heap) (locs : List Loc) (ls : Array Slot), Wd Z s S_5 H locs → lv_has ls 9 [(0, .ref (za Z 0)), (1, .int a1), (2, .int a2), (3, .int a3), (4, .int a4), (5, .long l5_3), (7, .int l7_4)] → bPn b33 n (l5_3, l7_4, S_5) = some z → W p l e { frames := 9, cells := 0, slots := 0, locals := 205 } s m args below meth c H locs 0 0 Q (F0 m 33 ls []) := by
        intro n
        induction n with
        | zero =>
          intro z hg l5_3 l7_4 S_5 H locs ls hw hl hz
          exact bPn_0 hz
        | succ n ih =>
          intro z hg l5_3 l7_4 S_5 H locs ls hw hl hz
          obtain ⟨q_6, hf, hz⟩ := bPn_e hz
          have hf := u3_e ((congrFun eb _).symm.trans hf)
          refine lv_iload hx hb dX11_better_33 (lv_at hl 6 rfl) ?_
          refine lv_bipush hx hb dX11_better_35 kb_20 ?_
          refine lv_icmp_gt (tgt := 104) hx hb dX11_better_37 (by decide) (fun c_17 => ?_) (fun c_17 => ?_)
          · have hf := (if_pos c_17).symm.trans hf
            obtain rfl := Option.some.inj hf
            obtain rfl := Option.some.inj (hz : some _ = some _)
            exact R104_33 _ _ _ _ _ hw (lv_sub hl [5] rfl) hg
          · have hf := (if_neg c_17).symm.trans hf
            refine lv_aload_n hx hb dX11_better_40 rfl (lv_at hl 0 rfl) ?_
            refine gF G hw h0 KX11 2 (k2 := 59) rfl (by decide) rfl fl_X11_26 dX11_better_41 ?_
            refine lv_aload_n hx hb dX11_better_44 rfl (lv_at hl 0 rfl) ?_
            refine gF G hw h0 KX11 0 (k2 := 1) rfl (by decide) rfl fl_X11_10 dX11_better_45 ?_
            refine lv_iload_n hx hb dX11_better_48 rfl (lv_at hl 1 rfl) ?_
            refine lv_iload_n hx hb dX11_better_49 rfl (lv_at hl 2 rfl) ?_
            refine lv_iload_n hx hb dX11_better_50 rfl (lv_at hl 3 rfl) ?_
            refine lv_iload hx hb dX11_better_51 (lv_at hl 6 rfl) ?_
            obtain ⟨r_7, S_8, hr_7, hf⟩ := bB2_e hf
            refine kVi (rest := []) G hw (wX7_goodFar hZ S_5 59 1 a1 a2 a3 l7_4 r_7 S_8 (sub_PF_thought hZ h0) (sub_PF_now hZ h0) hr_7) cw_X11_381 (sub_PF_thought hZ h0) KX7 ⟨Nat.le_of_ble_eq_true rfl, Nat.le_of_ble_eq_true rfl⟩ rfl hl.1 rfl (Nat.le_of_ble_eq_true rfl) ⟨Nat.le_refl _, Nat.le_refl _⟩ dX11_better_53 (fun H locs hw => ?_)
            refine lv_istore (lv' := [(8, .int r_7), (0, .ref (za Z 0)), (1, .int a1), (2, .int a2), (3, .int a3), (4, .int a4), (5, .long l5_3), (7, .int l7_4)]) hx hb dX11_better_56 hl (by decide) rfl (fun ls hl => ?_)
            refine lv_iload hx hb dX11_better_58 (lv_at hl 0 rfl) ?_
            refine lv_iconst hx hb dX11_better_60 ki_m1 ?_
            obtain ⟨j98, ej, hf⟩ := bL_e hf
            have R98 : ∀ (l5_9 : Int64) (S_10 : pS) (H : Heap) (locs : List Loc) (ls : Array Slot), Wd Z s S_10 H locs → lv_has ls 9 [(0, .ref (za Z 0)), (1, .int a1), (2, .int a2), (3, .int a3), (4, .int a4), (5, .long l5_9), (7, .int l7_4)] → j98 l5_9 S_10 = some q_6 → W p l e { frames := 9, cells := 0, slots := 0, locals := 205 } s m args below meth c H locs 0 0 Q (F0 m 98 ls []) := by
              intro l5_9 S_10 H locs ls hw hl hf
              have hf := (congrFun (congrFun ej l5_9) S_10).symm.trans hf
              obtain ⟨l7_11, el7_11, hf⟩ := bL_e hf
              refine lv_iinc (v := l7_11) (lv' := [(7, .int l7_11), (0, .ref (za Z 0)), (1, .int a1), (2, .int a2), (3, .int a3), (4, .int a4), (5, .long l5_9)]) hx hb dX11_better_98 hl (k := 6) rfl (by rw [el7_11]; rfl) (by decide) rfl (fun ls hl => ?_)
              refine lv_goto (tgt := 33) hx hb dX11_better_101 (by decide) ?_
              obtain rfl := Option.some.inj hf
              exact ih _ hg _ _ _ _ _ _ hw (lv_sub hl [1, 2, 3, 4, 5, 6, 0] rfl) hz
            clear ej
            refine lv_icmp_eq (tgt := 98) hx hb dX11_better_61 (by decide) (fun c_16 => ?_) (fun c_16 => ?_)
            · have hf := (if_pos c_16).symm.trans hf
              exact R98 _ _ _ _ _ hw (lv_sub hl [1, 2, 3, 4, 5, 6, 7] rfl) hf
            · have hf := (if_neg c_16).symm.trans hf
              refine lv_iload hx hb dX11_better_64 (lv_at hl 0 rfl) ?_
              refine lv_aload_n hx hb dX11_better_66 rfl (lv_at hl 1 rfl) ?_
              refine gF G hw h0 KX11 2 (k2 := 59) rfl (by decide) rfl fl_X11_26 dX11_better_67 ?_
              refine lv_aload_n hx hb dX11_better_70 rfl (lv_at hl 1 rfl) ?_
              refine gF G hw h0 KX11 0 (k2 := 1) rfl (by decide) rfl fl_X11_10 dX11_better_71 ?_
              refine lv_iload_n hx hb dX11_better_74 rfl (lv_at hl 2 rfl) ?_
              refine lv_iload_n hx hb dX11_better_75 rfl (lv_at hl 3 rfl) ?_
              refine lv_iload hx hb dX11_better_76 (lv_at hl 5 rfl) ?_
              refine lv_iload hx hb dX11_better_78 (lv_at hl 7 rfl) ?_
              obtain ⟨r_12, S_13, hr_12, hf⟩ := bB2_e hf
              refine kVi (rest := [.int r_7]) G hw (wX7_goodFar hZ S_8 59 1 a1 a2 a4 l7_4 r_12 S_13 (sub_PF_thought hZ h0) (sub_PF_now hZ h0) hr_12) cw_X11_381 (sub_PF_thought hZ h0) KX7 ⟨Nat.le_of_ble_eq_true rfl, Nat.le_of_ble_eq_true rfl⟩ rfl hl.1 rfl (Nat.le_of_ble_eq_true rfl) ⟨Nat.le_refl _, Nat.le_refl _⟩ dX11_better_80 (fun H locs hw => ?_)
              refine lv_icmp_le (tgt := 98) hx hb dX11_better_83 (by decide) (fun c_15 => ?_) (fun c_15 => ?_)
              · have hf := (if_pos c_15).symm.trans hf
                exact R98 _ _ _ _ _ hw (lv_sub hl [1, 2, 3, 4, 5, 6, 7] rfl) hf
              · have hf := (if_neg c_15).symm.trans hf
                refine lv_lload hx hb dX11_better_86 (lv_at hl 6 rfl) ?_
                refine lv_lconst (v := 1) hx hb dX11_better_88 (by decide) ?_
                refine lv_iload hx hb dX11_better_89 (lv_at hl 7 rfl) ?_
                refine lv_bipush hx hb dX11_better_91 kb_20 ?_
                refine lv_iadd hx hb dX11_better_93 ?_
                refine lv_lshl hx hb dX11_better_94 rfl ?_
                refine lv_lor hx hb dX11_better_95 ?_
                obtain ⟨l5_14, el5_14, hf⟩ := bL_e hf
                refine top_l el5_14 ?_
                refine lv_lstore (lv' := [(5, .long l5_14), (8, .int r_7), (0, .ref (za Z 0)), (1, .int a1), (2, .int a2), (3, .int a3), (4, .int a4), (7, .int l7_4)]) hx hb dX11_better_96 hl (by decide) rfl (fun ls hl => ?_)
                exact R98 _ _ _ _ _ hw (lv_sub hl [2, 3, 4, 5, 6, 0, 7] rfl) hf
      clear eb
      obtain ⟨z, hz, hf⟩ := bB_e hf
      obtain ⟨n, hz⟩ := bP_e hz
      exact RL33 n z hf _ _ _ _ _ _ hw (lv_sub hl [2, 3, 4, 5, 6, 1, 0] rfl) hz
    · have hf := (if_pos c_18).symm.trans hf
      refine lv_ldc2 hx hb hown (hts _ cl_X11_358) dX11_better_22 ?_
      obtain ⟨e1, e2⟩ := Prod.mk.inj (Option.some.inj hf)
      exact hret _ _ _ _ _ dX11_better_25 e1 (by rw [← e2]; exact hw)
noncomputable def F11_span (S : pS) (a1 : Int32) (a2 : Int32) : Option (Int32 × pS) :=
  if (F10_hasLine S 1 a1) = 0 then
    some (((-1) : Int32), S)
  else
    if (F11_within a2 0 1) = 0 then
      some (((-1) : Int32), S)
    else
      bL (S 2 3) fun l3_1 =>
      bL (-l3_1) fun l5_2 =>
      bL (fun (l4_3 : Int32) (S_4 : pS) =>
        some (l4_3, S_4)) fun g136_39 =>
      bL (u3 fun (l4_5 : Int32) (l5_6 : Int32) (S_7 : pS) =>
        if l3_1 < l5_6 then
          some (.inr (l4_5, S_7))
        else
          bB (F10_column S_7 1 a1 5) fun r_9 =>
          bL (F11_hold (r_9 + l5_6) 0 90) fun l6_10 =>
          bB (F10_column S_7 1 a1 4) fun r_11 =>
          bB (F10_column S_7 1 a1 3) fun r_12 =>
          bB2 (F7_far S_7 59 1 r_11 l6_10 r_12 0) fun r_13 S_14 =>
          bL (fun (l4_15 : Int32) =>
            bL (l5_6 + 1) fun l5_16 =>
            some (.inl (l4_15, l5_16, S_14))) fun j130 =>
          bL (fun (_ : Unit) =>
            j130 r_13) fun j126 =>
          if l4_5 = (-1) then
            j126 ()
          else
            if a2 = 0 then
              if l4_5 ≤ r_13 then
                j130 l4_5
              else
                j126 ()
            else
              if r_13 ≤ l4_5 then
                j130 l4_5
              else
                j126 ()) fun b39 =>
      bB (bP b39 (((-1) : Int32), l5_2, S)) (u2 g136_39)
set_option maxRecDepth 100000 in
set_option maxHeartbeats 4000000 in
theorem wX11_span {l : Launch} {Z : pZ}  (hZ : CC Z) (S : pS) (a1 : Int32) (a2 : Int32) (r : Int32) (S2 : pS) (h0 : isA Z K_PF 0) (hf : F11_span S a1 a2 = some (r, S2)) : CI l Z yX11_span cX11_span 8 .int 9 205 [.ref (za Z 0), .int a1, .int a2] S r S2 := by
  unfold F11_span at hf
  refine eI (own := RX11) (by decide) rfl (Nat.le_of_ble_eq_true rfl) (fun p e s m args below meth c Q ls G hl hw hret => ?_)
  obtain ⟨hx, hb, hml, hown, hts⟩ := G.1
  have hl : lv_has ls 8 [(0, .ref (za Z 0)), (1, .int a1), (2, .int a2)] := hl
  refine lv_aload_n hx hb dX11_span_0 rfl (lv_at hl 0 rfl) ?_
  refine gF G hw h0 KX11 0 (k2 := 1) rfl (by decide) rfl fl_X11_10 dX11_span_1 ?_
  refine lv_iload_n hx hb dX11_span_4 rfl (lv_at hl 1 rfl) ?_
  refine kVi (rest := []) G hw (wX10_hasLine hZ S 1 a1 (F10_hasLine S 1 a1) (sub_PF_now hZ h0) rfl) cw_X11_310 (sub_PF_now hZ h0) KX10 ⟨Nat.le_of_ble_eq_true rfl, Nat.le_of_ble_eq_true rfl⟩ rfl hl.1 rfl (Nat.le_of_ble_eq_true rfl) ⟨Nat.le_refl _, Nat.le_refl _⟩ dX11_span_5 (fun H locs hw => ?_)
  refine lv_if_eq (tgt := 20) hx hb dX11_span_8 (by decide) (fun c_23 => ?_) (fun c_23 => ?_)
  · have hf := (if_pos c_23).symm.trans hf
    refine lv_iconst hx hb dX11_span_20 ki_m1 ?_
    obtain ⟨e1, e2⟩ := Prod.mk.inj (Option.some.inj hf)
    exact hret _ _ _ _ _ dX11_span_21 e1 (by rw [← e2]; exact hw)
  · have hf := (if_neg c_23).symm.trans hf
    refine lv_iload_n hx hb dX11_span_11 rfl (lv_at hl 2 rfl) ?_
    refine lv_iconst hx hb dX11_span_12 ki_0 ?_
    refine lv_iconst hx hb dX11_span_13 ki_1 ?_
    refine kSi (rest := []) G hw (wX11_within hZ S a2 0 1 (F11_within a2 0 1) rfl) cw_X11_51 ⟨Nat.le_of_ble_eq_true rfl, Nat.le_of_ble_eq_true rfl⟩ rfl hl.1 rfl (Nat.le_of_ble_eq_true rfl) ⟨Nat.le_refl _, Nat.le_refl _⟩ dX11_span_14 (fun H locs hw => ?_)
    refine lv_if_ne (tgt := 22) hx hb dX11_span_17 (by decide) (fun c_22 => ?_) (fun c_22 => ?_)
    · have hf := (if_neg c_22).symm.trans hf
      refine lv_aload_n hx hb dX11_span_22 rfl (lv_at hl 0 rfl) ?_
      refine gF G hw h0 KX11 0 (k2 := 1) rfl (by decide) rfl fl_X11_10 dX11_span_23 ?_
      refine gF G hw (sub_PF_now hZ h0) KX10 8 (k2 := 2) rfl (by decide) rfl fl_X11_222 dX11_span_26 ?_
      refine lv_iconst hx hb dX11_span_29 ki_3 ?_
      refine aI G hw (sub_World_told hZ (sub_PF_now hZ h0)) (vin_e (by decide)) (j := 3) (by decide) dX11_span_30 ?_
      obtain ⟨l3_1, el3_1, hf⟩ := bL_e hf
      refine top_i el3_1 ?_
      refine lv_istore_n (lv' := [(3, .int l3_1), (0, .ref (za Z 0)), (1, .int a1), (2, .int a2)]) hx hb dX11_span_31 rfl hl (by decide) rfl (fun ls hl => ?_)
      refine lv_iconst hx hb dX11_span_32 ki_m1 ?_
      refine lv_istore (lv' := [(4, .int (-1)), (3, .int l3_1), (0, .ref (za Z 0)), (1, .int a1), (2, .int a2)]) hx hb dX11_span_33 hl (by decide) rfl (fun ls hl => ?_)
      refine lv_iload_n hx hb dX11_span_35 rfl (lv_at hl 1 rfl) ?_
      refine lv_ineg hx hb dX11_span_36 ?_
      obtain ⟨l5_2, el5_2, hf⟩ := bL_e hf
      refine top_i el5_2 ?_
      refine lv_istore (lv' := [(5, .int l5_2), (4, .int (-1)), (3, .int l3_1), (0, .ref (za Z 0)), (1, .int a1), (2, .int a2)]) hx hb dX11_span_37 hl (by decide) rfl (fun ls hl => ?_)
      obtain ⟨g136_39, ej, hf⟩ := bL_e hf
      have R136_39 : ∀ (l4_3 : Int32) (S_4 : pS) (H : Heap) (locs : List Loc) (ls : Array Slot), Wd Z s S_4 H locs → lv_has ls 8 [(4, .int l4_3)] → g136_39 l4_3 S_4 = some (r, S2) → W p l e { frames := 9, cells := 0, slots := 0, locals := 205 } s m args below meth c H locs 0 0 Q (F0 m 136 ls []) := by
        intro l4_3 S_4 H locs ls hw hl hf
        have hf := (congrFun (congrFun ej l4_3) S_4).symm.trans hf
        refine lv_iload hx hb dX11_span_136 (lv_at hl 0 rfl) ?_
        obtain ⟨e1, e2⟩ := Prod.mk.inj (Option.some.inj hf)
        exact hret _ _ _ _ _ dX11_span_138 e1 (by rw [← e2]; exact hw)
      clear ej
      obtain ⟨b39, eb, hf⟩ := bL_e hf
      have RL39 : ∀ (n : Nat) z, (u2 g136_39) z = some (r, S2) → ∀ (l4_5 : Int32) (l5_6 : Int32) (S_7 : pS) (H : Heap) (locs : List Loc) (ls : Array Slot), Wd Z s S_7 H locs → lv_has ls 8 [(0, .ref (za Z 0)), (1, .int a1), (2, .int a2), (3, .int l3_1), (4, .int l4_5), (5, .int l5_6)] → bPn b39 n (l4_5, l5_6, S_7) = some z → W p l e { frames := 9, cells := 0, slots := 0, locals := 205 } s m args below meth c H locs 0 0 Q (F0 m 39 ls []) := by
        intro n
        induction n with
        | zero =>
          intro z hg l4_5 l5_6 S_7 H locs ls hw hl hz
          exact bPn_0 hz
        | succ n ih =>
          intro z hg l4_5 l5_6 S_7 H locs ls hw hl hz
          obtain ⟨q_8, hf, hz⟩ := bPn_e hz
          have hf := u3_e ((congrFun eb _).symm.trans hf)
          refine lv_iload hx hb dX11_span_39 (lv_at hl 5 rfl) ?_
          refine lv_iload_n hx hb dX11_span_41 rfl (lv_at hl 3 rfl) ?_
          refine lv_icmp_gt (tgt := 136) hx hb dX11_span_42 (by decide) (fun c_21 => ?_) (fun c_21 => ?_)
          · have hf := (if_pos c_21).symm.trans hf
            obtain rfl := Option.some.inj hf
            obtain rfl := Option.some.inj (hz : some _ = some _)
            exact R136_39 _ _ _ _ _ hw (lv_sub hl [4] rfl) hg
          · have hf := (if_neg c_21).symm.trans hf
            refine lv_aload_n hx hb dX11_span_45 rfl (lv_at hl 0 rfl) ?_
            refine gF G hw h0 KX11 0 (k2 := 1) rfl (by decide) rfl fl_X11_10 dX11_span_46 ?_
            refine lv_iload_n hx hb dX11_span_49 rfl (lv_at hl 1 rfl) ?_
            refine lv_iconst hx hb dX11_span_50 ki_5 ?_
            obtain ⟨r_9, hr_9, hf⟩ := bB_e hf
            refine kVi (rest := []) G hw (wX10_column hZ S_7 1 a1 5 r_9 (sub_PF_now hZ h0) hr_9) cw_X11_313 (sub_PF_now hZ h0) KX10 ⟨Nat.le_of_ble_eq_true rfl, Nat.le_of_ble_eq_true rfl⟩ rfl hl.1 rfl (Nat.le_of_ble_eq_true rfl) ⟨Nat.le_refl _, Nat.le_refl _⟩ dX11_span_51 (fun H locs hw => ?_)
            refine lv_iload hx hb dX11_span_54 (lv_at hl 5 rfl) ?_
            refine lv_iadd hx hb dX11_span_56 ?_
            refine lv_iconst hx hb dX11_span_57 ki_0 ?_
            refine lv_bipush hx hb dX11_span_58 kb_90 ?_
            refine kSi (rest := []) G hw (wX11_hold hZ S_7 (r_9 + l5_6) 0 90 (F11_hold (r_9 + l5_6) 0 90) rfl) cw_X11_228 ⟨Nat.le_of_ble_eq_true rfl, Nat.le_of_ble_eq_true rfl⟩ rfl hl.1 rfl (Nat.le_of_ble_eq_true rfl) ⟨Nat.le_refl _, Nat.le_refl _⟩ dX11_span_60 (fun H locs hw => ?_)
            obtain ⟨l6_10, el6_10, hf⟩ := bL_e hf
            refine top_i el6_10 ?_
            refine lv_istore (lv' := [(6, .int l6_10), (0, .ref (za Z 0)), (1, .int a1), (2, .int a2), (3, .int l3_1), (4, .int l4_5), (5, .int l5_6)]) hx hb dX11_span_63 hl (by decide) rfl (fun ls hl => ?_)
            refine lv_aload_n hx hb dX11_span_65 rfl (lv_at hl 1 rfl) ?_
            refine gF G hw h0 KX11 2 (k2 := 59) rfl (by decide) rfl fl_X11_26 dX11_span_66 ?_
            refine lv_aload_n hx hb dX11_span_69 rfl (lv_at hl 1 rfl) ?_
            refine gF G hw h0 KX11 0 (k2 := 1) rfl (by decide) rfl fl_X11_10 dX11_span_70 ?_
            refine lv_aload_n hx hb dX11_span_73 rfl (lv_at hl 1 rfl) ?_
            refine gF G hw h0 KX11 0 (k2 := 1) rfl (by decide) rfl fl_X11_10 dX11_span_74 ?_
            refine lv_iload_n hx hb dX11_span_77 rfl (lv_at hl 2 rfl) ?_
            refine lv_iconst hx hb dX11_span_78 ki_4 ?_
            obtain ⟨r_11, hr_11, hf⟩ := bB_e hf
            refine kVi (rest := [.ref (za Z 1), .ref (za Z 59)]) G hw (wX10_column hZ S_7 1 a1 4 r_11 (sub_PF_now hZ h0) hr_11) cw_X11_313 (sub_PF_now hZ h0) KX10 ⟨Nat.le_of_ble_eq_true rfl, Nat.le_of_ble_eq_true rfl⟩ rfl hl.1 rfl (Nat.le_of_ble_eq_true rfl) ⟨Nat.le_refl _, Nat.le_refl _⟩ dX11_span_79 (fun H locs hw => ?_)
            refine lv_iload hx hb dX11_span_82 (lv_at hl 0 rfl) ?_
            refine lv_aload_n hx hb dX11_span_84 rfl (lv_at hl 1 rfl) ?_
            refine gF G hw h0 KX11 0 (k2 := 1) rfl (by decide) rfl fl_X11_10 dX11_span_85 ?_
            refine lv_iload_n hx hb dX11_span_88 rfl (lv_at hl 2 rfl) ?_
            refine lv_iconst hx hb dX11_span_89 ki_3 ?_
            obtain ⟨r_12, hr_12, hf⟩ := bB_e hf
            refine kVi (rest := [.int l6_10, .int r_11, .ref (za Z 1), .ref (za Z 59)]) G hw (wX10_column hZ S_7 1 a1 3 r_12 (sub_PF_now hZ h0) hr_12) cw_X11_313 (sub_PF_now hZ h0) KX10 ⟨Nat.le_of_ble_eq_true rfl, Nat.le_of_ble_eq_true rfl⟩ rfl hl.1 rfl (Nat.le_of_ble_eq_true rfl) ⟨Nat.le_refl _, Nat.le_refl _⟩ dX11_span_90 (fun H locs hw => ?_)
            refine lv_iconst hx hb dX11_span_93 ki_0 ?_
            obtain ⟨r_13, S_14, hr_13, hf⟩ := bB2_e hf
            refine kVi (rest := []) G hw (wX7_far hZ S_7 59 1 r_11 l6_10 r_12 0 r_13 S_14 (sub_PF_thought hZ h0) (sub_PF_now hZ h0) hr_13) cw_X11_360 (sub_PF_thought hZ h0) KX7 ⟨Nat.le_of_ble_eq_true rfl, Nat.le_of_ble_eq_true rfl⟩ rfl hl.1 rfl (Nat.le_of_ble_eq_true rfl) ⟨Nat.le_refl _, Nat.le_refl _⟩ dX11_span_94 (fun H locs hw => ?_)
            refine lv_istore (lv' := [(7, .int r_13), (6, .int l6_10), (0, .ref (za Z 0)), (1, .int a1), (2, .int a2), (3, .int l3_1), (4, .int l4_5), (5, .int l5_6)]) hx hb dX11_span_97 hl (by decide) rfl (fun ls hl => ?_)
            refine lv_iload hx hb dX11_span_99 (lv_at hl 6 rfl) ?_
            refine lv_iconst hx hb dX11_span_101 ki_m1 ?_
            obtain ⟨j130, ej, hf⟩ := bL_e hf
            have R130 : ∀ (l4_15 : Int32) (H : Heap) (locs : List Loc) (ls : Array Slot), Wd Z s S_14 H locs → lv_has ls 8 [(0, .ref (za Z 0)), (1, .int a1), (2, .int a2), (3, .int l3_1), (4, .int l4_15), (5, .int l5_6)] → j130 l4_15 = some q_8 → W p l e { frames := 9, cells := 0, slots := 0, locals := 205 } s m args below meth c H locs 0 0 Q (F0 m 130 ls []) := by
              intro l4_15 H locs ls hw hl hf
              have hf := (congrFun ej l4_15).symm.trans hf
              obtain ⟨l5_16, el5_16, hf⟩ := bL_e hf
              refine lv_iinc (v := l5_16) (lv' := [(5, .int l5_16), (0, .ref (za Z 0)), (1, .int a1), (2, .int a2), (3, .int l3_1), (4, .int l4_15)]) hx hb dX11_span_130 hl (k := 5) rfl (by rw [el5_16]; rfl) (by decide) rfl (fun ls hl => ?_)
              refine lv_goto (tgt := 39) hx hb dX11_span_133 (by decide) ?_
              obtain rfl := Option.some.inj hf
              exact ih _ hg _ _ _ _ _ _ hw (lv_sub hl [1, 2, 3, 4, 5, 0] rfl) hz
            clear ej
            obtain ⟨j126, ej, hf⟩ := bL_e hf
            have R126 : ∀ (H : Heap) (locs : List Loc) (ls : Array Slot), Wd Z s S_14 H locs → lv_has ls 8 [(0, .ref (za Z 0)), (1, .int a1), (2, .int a2), (3, .int l3_1), (5, .int l5_6), (7, .int r_13)] → j126 () = some q_8 → W p l e { frames := 9, cells := 0, slots := 0, locals := 205 } s m args below meth c H locs 0 0 Q (F0 m 126 ls []) := by
              intro  H locs ls hw hl hf
              have hf := (congrFun ej ()).symm.trans hf
              refine lv_iload hx hb dX11_span_126 (lv_at hl 5 rfl) ?_
              refine lv_istore (lv' := [(4, .int r_13), (0, .ref (za Z 0)), (1, .int a1), (2, .int a2), (3, .int l3_1), (5, .int l5_6), (7, .int r_13)]) hx hb dX11_span_128 hl (by decide) rfl (fun ls hl => ?_)
              exact R130 _ _ _ _ hw (lv_sub hl [1, 2, 3, 4, 0, 5] rfl) hf
            clear ej
            refine lv_icmp_eq (tgt := 126) hx hb dX11_span_102 (by decide) (fun c_20 => ?_) (fun c_20 => ?_)
            · have hf := (if_pos c_20).symm.trans hf
              exact R126 _ _ _ hw (lv_sub hl [2, 3, 4, 5, 7, 0] rfl) hf
            · have hf := (if_neg c_20).symm.trans hf
              refine lv_iload_n hx hb dX11_span_105 rfl (lv_at hl 4 rfl) ?_
              refine lv_if_ne (tgt := 119) hx hb dX11_span_106 (by decide) (fun c_19 => ?_) (fun c_19 => ?_)
              · have hf := (if_neg c_19).symm.trans hf
                refine lv_iload hx hb dX11_span_119 (lv_at hl 0 rfl) ?_
                refine lv_iload hx hb dX11_span_121 (lv_at hl 6 rfl) ?_
                refine lv_icmp_le (tgt := 130) hx hb dX11_span_123 (by decide) (fun c_17 => ?_) (fun c_17 => ?_)
                · have hf := (if_pos c_17).symm.trans hf
                  exact R130 _ _ _ _ hw (lv_sub hl [2, 3, 4, 5, 6, 7] rfl) hf
                · have hf := (if_neg c_17).symm.trans hf
                  exact R126 _ _ _ hw (lv_sub hl [2, 3, 4, 5, 7, 0] rfl) hf
              · have hf := (if_pos c_19).symm.trans hf
                refine lv_iload hx hb dX11_span_109 (lv_at hl 0 rfl) ?_
                refine lv_iload hx hb dX11_span_111 (lv_at hl 6 rfl) ?_
                refine lv_icmp_ge (tgt := 130) hx hb dX11_span_113 (by decide) (fun c_18 => ?_) (fun c_18 => ?_)
                · have hf := (if_pos c_18).symm.trans hf
                  exact R130 _ _ _ _ hw (lv_sub hl [2, 3, 4, 5, 6, 7] rfl) hf
                · have hf := (if_neg c_18).symm.trans hf
                  refine lv_goto (tgt := 126) hx hb dX11_span_116 (by decide) ?_
                  exact R126 _ _ _ hw (lv_sub hl [2, 3, 4, 5, 7, 0] rfl) hf
      clear eb
      obtain ⟨z, hz, hf⟩ := bB_e hf
      obtain ⟨n, hz⟩ := bP_e hz
      exact RL39 n z hf _ _ _ _ _ _ hw (lv_sub hl [3, 4, 5, 2, 1, 0] rfl) hz
    · have hf := (if_pos c_22).symm.trans hf
      refine lv_iconst hx hb dX11_span_20 ki_m1 ?_
      obtain ⟨e1, e2⟩ := Prod.mk.inj (Option.some.inj hf)
      exact hret _ _ _ _ _ dX11_span_21 e1 (by rw [← e2]; exact hw)
noncomputable def F11_would (S : pS) (a1 : Int32) : Option (Int32 × pS) :=
  bB (F10_one S 1 a1) fun r_1 =>
  bO r_1 (
    some (((-1) : Int32), S)) fun o_2 =>
  bL (S o_2 1) fun l3_3 =>
  bL (S o_2 2) fun l4_4 =>
  bL (S o_2 3) fun l5_5 =>
  bL (S o_2 5) fun l6_6 =>
  bL (fun (t_7 : Int32) =>
    bL (fun (l4_8 : Int32) (S_9 : pS) =>
      some (l4_8, S_9)) fun g257_74 =>
    bL (u6 fun (l3_10 : Int32) (l4_11 : Int32) (l5_12 : Int32) (l6_13 : Int32) (l8_14 : Int32) (S_15 : pS) =>
      if 6 ≤ l8_14 then
        some (.inr (l4_11, S_15))
      else
        bB (F8_wouldThrow S_15 o_2 l6_13 l4_11 l3_10) fun r_17 =>
        bL (fun (l3_18 : Int32) (l4_19 : Int32) (l5_20 : Int32) (S_21 : pS) =>
          bL (jmin (S_21 o_2 4) (l6_13 + 1)) fun l6_22 =>
          bL (l8_14 + 1) fun l8_23 =>
          some (.inl (l3_18, l4_19, l5_20, l6_22, l8_23, S_21))) fun j238 =>
        if r_17 = 0 then
          j238 l3_10 l4_11 l5_12 S_15
        else
          bB (F8_order S_15 o_2 l6_13 0) fun r_24 =>
          bB (F8_order S_15 o_2 l6_13 3) fun r_25 =>
          bL (jmin (r_24 + r_25) (S_15 o_2 0)) fun l9_26 =>
          bB (F8_order S_15 o_2 l6_13 1) fun r_27 =>
          bL (F0_ask S_15 63 o_2 l8_14) fun S_28 =>
          bB (F8_order S_28 o_2 l6_13 3) fun r_29 =>
          bL (F0_askThrow S_28 63 l9_26 r_29 r_27) fun S_30 =>
          bL (F0_askState S_30 63 l3_10 l5_12) fun S_31 =>
          bL (F0_askBest S_31 63 l4_11) fun S_32 =>
          bB2 (F0_tell S_32 63 15 1) fun r_33 S_34 =>
          bL (jmin 1000 (l3_10 + r_33)) fun l3_35 =>
          bL (l5_12 + 1) fun l5_36 =>
          bB (F8_order S_34 o_2 l6_13 2) fun r_37 =>
          bB2 (F7_goodFar S_34 59 1 l9_26 r_27 r_37 (S_34 2 0)) fun r_38 S_39 =>
          bL (jmax l4_11 r_38) fun l4_40 =>
          j238 l3_35 l4_40 l5_36 S_39) fun b74 =>
    bB (bP b74 (l3_3, l4_4, l5_5, l6_6, t_7, S)) (u2 g257_74)) fun j68 =>
  if (S 1 3) ≤ a1 then
    j68 (S 1 2)
  else
    j68 ((S 1 2) + 1)
set_option maxRecDepth 100000 in
set_option maxHeartbeats 4000000 in
theorem wX11_would {l : Launch} {Z : pZ}  (hZ : CC Z) (S : pS) (a1 : Int32) (r : Int32) (S2 : pS) (h0 : isA Z K_PF 0) (hf : F11_would S a1 = some (r, S2)) : CI l Z yX11_would cX11_would 11 .int 9 205 [.ref (za Z 0), .int a1] S r S2 := by
  unfold F11_would at hf
  refine eI (own := RX11) (by decide) rfl (Nat.le_of_ble_eq_true rfl) (fun p e s m args below meth c Q ls G hl hw hret => ?_)
  obtain ⟨hx, hb, hml, hown, hts⟩ := G.1
  have hl : lv_has ls 11 [(0, .ref (za Z 0)), (1, .int a1)] := hl
  refine lv_aload_n hx hb dX11_would_0 rfl (lv_at hl 0 rfl) ?_
  refine gF G hw h0 KX11 0 (k2 := 1) rfl (by decide) rfl fl_X11_10 dX11_would_1 ?_
  refine lv_iload_n hx hb dX11_would_4 rfl (lv_at hl 1 rfl) ?_
  obtain ⟨r_1, hr_1, hf⟩ := bB_e hf
  refine kVq (rest := []) G hw (wX10_one hZ S 1 a1 r_1 (sub_PF_now hZ h0) hr_1) cw_X11_80 (sub_PF_now hZ h0) KX10 ⟨Nat.le_of_ble_eq_true rfl, Nat.le_of_ble_eq_true rfl⟩ rfl hl.1 rfl (Nat.le_of_ble_eq_true rfl) ⟨Nat.le_refl _, Nat.le_refl _⟩ dX11_would_5 (fun H locs hw => ?_)
  refine astQn (lv' := [(2, va_rf (Option.map (za Z) r_1)), (0, .ref (za Z 0)), (1, .int a1)]) hx hb dX11_would_8 rfl hl (by decide) rfl (fun ls hl => ?_)
  refine aldQn hx hb dX11_would_9 rfl (lv_at hl 0 rfl) ?_
  refine ifnnQ (tgt := 15) hx hb dX11_would_10 (by decide) (fun e_44 => ?_) (fun o_2 e_44 => ?_)
  · subst e_44
    have hf := bO_n rfl hf
    refine lv_iconst hx hb dX11_would_13 ki_m1 ?_
    obtain ⟨e1, e2⟩ := Prod.mk.inj (Option.some.inj hf)
    exact hret _ _ _ _ _ dX11_would_14 e1 (by rw [← e2]; exact hw)
  · subst e_44
    have hf := bO_s rfl hf
    have ho_2 := ret_X10_one hZ S 1 a1 (sub_PF_now hZ h0) (hr_1.trans (congrArg some rfl))
    refine lv_aload_n hx hb dX11_would_15 rfl (lv_at hl 0 rfl) ?_
    refine gI G hw ho_2 KX8 1 (by decide) rfl fl_X11_89 dX11_would_16 ?_
    obtain ⟨l3_3, el3_3, hf⟩ := bL_e hf
    refine top_i el3_3 ?_
    refine lv_istore_n (lv' := [(3, .int l3_3), (2, .ref (za Z o_2)), (0, .ref (za Z 0)), (1, .int a1)]) hx hb dX11_would_19 rfl hl (by decide) rfl (fun ls hl => ?_)
    refine lv_aload_n hx hb dX11_would_20 rfl (lv_at hl 1 rfl) ?_
    refine gI G hw ho_2 KX8 2 (by decide) rfl fl_X11_250 dX11_would_21 ?_
    obtain ⟨l4_4, el4_4, hf⟩ := bL_e hf
    refine top_i el4_4 ?_
    refine lv_istore (lv' := [(4, .int l4_4), (3, .int l3_3), (2, .ref (za Z o_2)), (0, .ref (za Z 0)), (1, .int a1)]) hx hb dX11_would_24 hl (by decide) rfl (fun ls hl => ?_)
    refine lv_aload_n hx hb dX11_would_26 rfl (lv_at hl 2 rfl) ?_
    refine gI G hw ho_2 KX8 3 (by decide) rfl fl_X11_247 dX11_would_27 ?_
    obtain ⟨l5_5, el5_5, hf⟩ := bL_e hf
    refine top_i el5_5 ?_
    refine lv_istore (lv' := [(5, .int l5_5), (4, .int l4_4), (3, .int l3_3), (2, .ref (za Z o_2)), (0, .ref (za Z 0)), (1, .int a1)]) hx hb dX11_would_30 hl (by decide) rfl (fun ls hl => ?_)
    refine lv_aload_n hx hb dX11_would_32 rfl (lv_at hl 3 rfl) ?_
    refine gI G hw ho_2 KX8 5 (by decide) rfl fl_X11_167 dX11_would_33 ?_
    obtain ⟨l6_6, el6_6, hf⟩ := bL_e hf
    refine top_i el6_6 ?_
    refine lv_istore (lv' := [(6, .int l6_6), (5, .int l5_5), (4, .int l4_4), (3, .int l3_3), (2, .ref (za Z o_2)), (0, .ref (za Z 0)), (1, .int a1)]) hx hb dX11_would_36 hl (by decide) rfl (fun ls hl => ?_)
    refine lv_iload_n hx hb dX11_would_38 rfl (lv_at hl 6 rfl) ?_
    refine lv_aload_n hx hb dX11_would_39 rfl (lv_at hl 5 rfl) ?_
    refine gF G hw h0 KX11 0 (k2 := 1) rfl (by decide) rfl fl_X11_10 dX11_would_40 ?_
    refine gI G hw (sub_PF_now hZ h0) KX10 3 (by decide) rfl fl_X11_323 dX11_would_43 ?_
    obtain ⟨j68, ej, hf⟩ := bL_e hf
    have R68 : ∀ (t_7 : Int32) (H : Heap) (locs : List Loc) (ls : Array Slot), Wd Z s S H locs → lv_has ls 11 [(0, .ref (za Z 0)), (2, .ref (za Z o_2)), (3, .int l3_3), (4, .int l4_4), (5, .int l5_5), (6, .int l6_6)] → j68 t_7 = some (r, S2) → W p l e { frames := 9, cells := 0, slots := 0, locals := 205 } s m args below meth c H locs 0 0 Q (F0 m 68 ls [.int t_7]) := by
      intro t_7 H locs ls hw hl hf
      have hf := (congrFun ej t_7).symm.trans hf
      refine lv_istore (lv' := [(7, .int t_7), (0, .ref (za Z 0)), (2, .ref (za Z o_2)), (3, .int l3_3), (4, .int l4_4), (5, .int l5_5), (6, .int l6_6)]) hx hb dX11_would_68 hl (by decide) rfl (fun ls hl => ?_)
      refine lv_iload hx hb dX11_would_70 (lv_at hl 0 rfl) ?_
      refine lv_istore (lv' := [(8, .int t_7), (7, .int t_7), (0, .ref (za Z 0)), (2, .ref (za Z o_2)), (3, .int l3_3), (4, .int l4_4), (5, .int l5_5), (6, .int l6_6)]) hx hb dX11_would_72 hl (by decide) rfl (fun ls hl => ?_)
      obtain ⟨g257_74, ej, hf⟩ := bL_e hf
      have R257_74 : ∀ (l4_8 : Int32) (S_9 : pS) (H : Heap) (locs : List Loc) (ls : Array Slot), Wd Z s S_9 H locs → lv_has ls 11 [(4, .int l4_8)] → g257_74 l4_8 S_9 = some (r, S2) → W p l e { frames := 9, cells := 0, slots := 0, locals := 205 } s m args below meth c H locs 0 0 Q (F0 m 257 ls []) := by
        intro l4_8 S_9 H locs ls hw hl hf
        have hf := (congrFun (congrFun ej l4_8) S_9).symm.trans hf
        refine lv_iload hx hb dX11_would_257 (lv_at hl 0 rfl) ?_
        obtain ⟨e1, e2⟩ := Prod.mk.inj (Option.some.inj hf)
        exact hret _ _ _ _ _ dX11_would_259 e1 (by rw [← e2]; exact hw)
      clear ej
      obtain ⟨b74, eb, hf⟩ := bL_e hf
      have RL74 : ∀ (n : Nat) z, (u2 g257_74) z = some (r, S2) → ∀ (l3_10 : Int32) (l4_11 : Int32) (l5_12 : Int32) (l6_13 : Int32) (l8_14 : Int32) (S_15 : pS) (H : Heap) (locs : List Loc) (ls : Array Slot), Wd Z s S_15 H locs → lv_has ls 11 [(0, .ref (za Z 0)), (2, .ref (za Z o_2)), (3, .int l3_10), (4, .int l4_11), (5, .int l5_12), (6, .int l6_13), (8, .int l8_14)] → bPn b74 n (l3_10, l4_11, l5_12, l6_13, l8_14, S_15) = some z → W p l e { frames := 9, cells := 0, slots := 0, locals := 205 } s m args below meth c H locs 0 0 Q (F0 m 74 ls []) := by
        intro n
        induction n with
        | zero =>
          intro z hg l3_10 l4_11 l5_12 l6_13 l8_14 S_15 H locs ls hw hl hz
          exact bPn_0 hz
        | succ n ih =>
          intro z hg l3_10 l4_11 l5_12 l6_13 l8_14 S_15 H locs ls hw hl hz
          obtain ⟨q_16, hf, hz⟩ := bPn_e hz
          have hf := u6_e ((congrFun eb _).symm.trans hf)
          refine lv_iload hx hb dX11_would_74 (lv_at hl 6 rfl) ?_
          refine lv_bipush hx hb dX11_would_76 kb_6 ?_
          refine lv_icmp_ge (tgt := 257) hx hb dX11_would_78 (by decide) (fun c_42 => ?_) (fun c_42 => ?_)
          · have hf := (if_pos c_42).symm.trans hf
            obtain rfl := Option.some.inj hf
            obtain rfl := Option.some.inj (hz : some _ = some _)
            exact R257_74 _ _ _ _ _ hw (lv_sub hl [3] rfl) hg
          · have hf := (if_neg c_42).symm.trans hf
            refine lv_aload_n hx hb dX11_would_81 rfl (lv_at hl 1 rfl) ?_
            refine lv_iload hx hb dX11_would_82 (lv_at hl 5 rfl) ?_
            refine lv_iload hx hb dX11_would_84 (lv_at hl 3 rfl) ?_
            refine lv_iload_n hx hb dX11_would_86 rfl (lv_at hl 2 rfl) ?_
            obtain ⟨r_17, hr_17, hf⟩ := bB_e hf
            refine kVi (rest := []) G hw (wX8_wouldThrow hZ S_15 o_2 l6_13 l4_11 l3_10 r_17 ho_2 hr_17) cw_X11_420 ho_2 KX8 ⟨Nat.le_of_ble_eq_true rfl, Nat.le_of_ble_eq_true rfl⟩ rfl hl.1 rfl (Nat.le_of_ble_eq_true rfl) ⟨Nat.le_refl _, Nat.le_refl _⟩ dX11_would_87 (fun H locs hw => ?_)
            obtain ⟨j238, ej, hf⟩ := bL_e hf
            have R238 : ∀ (l3_18 : Int32) (l4_19 : Int32) (l5_20 : Int32) (S_21 : pS) (H : Heap) (locs : List Loc) (ls : Array Slot), Wd Z s S_21 H locs → lv_has ls 11 [(0, .ref (za Z 0)), (2, .ref (za Z o_2)), (3, .int l3_18), (4, .int l4_19), (5, .int l5_20), (6, .int l6_13), (8, .int l8_14)] → j238 l3_18 l4_19 l5_20 S_21 = some q_16 → W p l e { frames := 9, cells := 0, slots := 0, locals := 205 } s m args below meth c H locs 0 0 Q (F0 m 238 ls []) := by
              intro l3_18 l4_19 l5_20 S_21 H locs ls hw hl hf
              have hf := (congrFun (congrFun (congrFun (congrFun ej l3_18) l4_19) l5_20) S_21).symm.trans hf
              refine lv_aload_n hx hb dX11_would_238 rfl (lv_at hl 1 rfl) ?_
              refine gI G hw ho_2 KX8 4 (by decide) rfl fl_X11_165 dX11_would_239 ?_
              refine lv_iload hx hb dX11_would_242 (lv_at hl 5 rfl) ?_
              refine lv_iconst hx hb dX11_would_244 ki_1 ?_
              refine lv_iadd hx hb dX11_would_245 ?_
              refine xmin G hl.1 ml_X11_200 (Nat.le_of_ble_eq_true rfl) (Nat.le_of_ble_eq_true rfl) ⟨Nat.le_refl _, Nat.le_refl _⟩ dX11_would_246 ?_
              obtain ⟨l6_22, el6_22, hf⟩ := bL_e hf
              refine top_i el6_22 ?_
              refine lv_istore (lv' := [(6, .int l6_22), (0, .ref (za Z 0)), (2, .ref (za Z o_2)), (3, .int l3_18), (4, .int l4_19), (5, .int l5_20), (8, .int l8_14)]) hx hb dX11_would_249 hl (by decide) rfl (fun ls hl => ?_)
              obtain ⟨l8_23, el8_23, hf⟩ := bL_e hf
              refine lv_iinc (v := l8_23) (lv' := [(8, .int l8_23), (6, .int l6_22), (0, .ref (za Z 0)), (2, .ref (za Z o_2)), (3, .int l3_18), (4, .int l4_19), (5, .int l5_20)]) hx hb dX11_would_251 hl (k := 6) rfl (by rw [el8_23]; rfl) (by decide) rfl (fun ls hl => ?_)
              refine lv_goto (tgt := 74) hx hb dX11_would_254 (by decide) ?_
              obtain rfl := Option.some.inj hf
              exact ih _ hg _ _ _ _ _ _ _ _ _ hw (lv_sub hl [2, 3, 4, 5, 6, 1, 0] rfl) hz
            clear ej
            refine lv_if_eq (tgt := 238) hx hb dX11_would_90 (by decide) (fun c_41 => ?_) (fun c_41 => ?_)
            · have hf := (if_pos c_41).symm.trans hf
              exact R238 _ _ _ _ _ _ _ hw (lv_sub hl [0, 1, 2, 3, 4, 5, 6] rfl) hf
            · have hf := (if_neg c_41).symm.trans hf
              refine lv_aload_n hx hb dX11_would_93 rfl (lv_at hl 1 rfl) ?_
              refine lv_iload hx hb dX11_would_94 (lv_at hl 5 rfl) ?_
              refine lv_iconst hx hb dX11_would_96 ki_0 ?_
              obtain ⟨r_24, hr_24, hf⟩ := bB_e hf
              refine kVi (rest := []) G hw (wX8_order hZ S_15 o_2 l6_13 0 r_24 ho_2 hr_24) cw_X11_273 ho_2 KX8 ⟨Nat.le_of_ble_eq_true rfl, Nat.le_of_ble_eq_true rfl⟩ rfl hl.1 rfl (Nat.le_of_ble_eq_true rfl) ⟨Nat.le_refl _, Nat.le_refl _⟩ dX11_would_97 (fun H locs hw => ?_)
              refine lv_aload_n hx hb dX11_would_100 rfl (lv_at hl 1 rfl) ?_
              refine lv_iload hx hb dX11_would_101 (lv_at hl 5 rfl) ?_
              refine lv_iconst hx hb dX11_would_103 ki_3 ?_
              obtain ⟨r_25, hr_25, hf⟩ := bB_e hf
              refine kVi (rest := [.int r_24]) G hw (wX8_order hZ S_15 o_2 l6_13 3 r_25 ho_2 hr_25) cw_X11_273 ho_2 KX8 ⟨Nat.le_of_ble_eq_true rfl, Nat.le_of_ble_eq_true rfl⟩ rfl hl.1 rfl (Nat.le_of_ble_eq_true rfl) ⟨Nat.le_refl _, Nat.le_refl _⟩ dX11_would_104 (fun H locs hw => ?_)
              refine lv_iadd hx hb dX11_would_107 ?_
              refine lv_aload_n hx hb dX11_would_108 rfl (lv_at hl 1 rfl) ?_
              refine gI G hw ho_2 KX8 0 (by decide) rfl fl_X11_84 dX11_would_109 ?_
              refine xmin G hl.1 ml_X11_200 (Nat.le_of_ble_eq_true rfl) (Nat.le_of_ble_eq_true rfl) ⟨Nat.le_refl _, Nat.le_refl _⟩ dX11_would_112 ?_
              obtain ⟨l9_26, el9_26, hf⟩ := bL_e hf
              refine top_i el9_26 ?_
              refine lv_istore (lv' := [(9, .int l9_26), (0, .ref (za Z 0)), (2, .ref (za Z o_2)), (3, .int l3_10), (4, .int l4_11), (5, .int l5_12), (6, .int l6_13), (8, .int l8_14)]) hx hb dX11_would_115 hl (by decide) rfl (fun ls hl => ?_)
              refine lv_aload_n hx hb dX11_would_117 rfl (lv_at hl 2 rfl) ?_
              refine lv_iload hx hb dX11_would_118 (lv_at hl 6 rfl) ?_
              refine lv_iconst hx hb dX11_would_120 ki_1 ?_
              obtain ⟨r_27, hr_27, hf⟩ := bB_e hf
              refine kVi (rest := []) G hw (wX8_order hZ S_15 o_2 l6_13 1 r_27 ho_2 hr_27) cw_X11_273 ho_2 KX8 ⟨Nat.le_of_ble_eq_true rfl, Nat.le_of_ble_eq_true rfl⟩ rfl hl.1 rfl (Nat.le_of_ble_eq_true rfl) ⟨Nat.le_refl _, Nat.le_refl _⟩ dX11_would_121 (fun H locs hw => ?_)
              refine lv_istore (lv' := [(10, .int r_27), (9, .int l9_26), (0, .ref (za Z 0)), (2, .ref (za Z o_2)), (3, .int l3_10), (4, .int l4_11), (5, .int l5_12), (6, .int l6_13), (8, .int l8_14)]) hx hb dX11_would_124 hl (by decide) rfl (fun ls hl => ?_)
              refine lv_aload_n hx hb dX11_would_126 rfl (lv_at hl 2 rfl) ?_
              refine gF G hw h0 KX11 3 (k2 := 63) rfl (by decide) rfl fl_X11_33 dX11_would_127 ?_
              refine lv_aload_n hx hb dX11_would_130 rfl (lv_at hl 3 rfl) ?_
              refine lv_iload hx hb dX11_would_131 (lv_at hl 8 rfl) ?_
              obtain ⟨S_28, hS_28, hf⟩ := bL_e hf
              refine kVv (rest := []) G hw (wX0_ask hZ S_15 63 o_2 l8_14 S_28 (sub_PF_arms hZ h0) ho_2 hS_28.symm) cw_X11_208 (sub_PF_arms hZ h0) KX0 ⟨Nat.le_of_ble_eq_true rfl, Nat.le_of_ble_eq_true rfl⟩ rfl hl.1 rfl (Nat.le_of_ble_eq_true rfl) ⟨Nat.le_refl _, Nat.le_refl _⟩ dX11_would_133 (fun H locs hw => ?_)
              refine lv_aload_n hx hb dX11_would_136 rfl (lv_at hl 2 rfl) ?_
              refine gF G hw h0 KX11 3 (k2 := 63) rfl (by decide) rfl fl_X11_33 dX11_would_137 ?_
              refine lv_iload hx hb dX11_would_140 (lv_at hl 1 rfl) ?_
              refine lv_aload_n hx hb dX11_would_142 rfl (lv_at hl 3 rfl) ?_
              refine lv_iload hx hb dX11_would_143 (lv_at hl 7 rfl) ?_
              refine lv_iconst hx hb dX11_would_145 ki_3 ?_
              obtain ⟨r_29, hr_29, hf⟩ := bB_e hf
              refine kVi (rest := [.int l9_26, .ref (za Z 63)]) G hw (wX8_order hZ S_28 o_2 l6_13 3 r_29 ho_2 hr_29) cw_X11_273 ho_2 KX8 ⟨Nat.le_of_ble_eq_true rfl, Nat.le_of_ble_eq_true rfl⟩ rfl hl.1 rfl (Nat.le_of_ble_eq_true rfl) ⟨Nat.le_refl _, Nat.le_refl _⟩ dX11_would_146 (fun H locs hw => ?_)
              refine lv_iload hx hb dX11_would_149 (lv_at hl 0 rfl) ?_
              obtain ⟨S_30, hS_30, hf⟩ := bL_e hf
              refine kVv (rest := []) G hw (wX0_askThrow hZ S_28 63 l9_26 r_29 r_27 S_30 (sub_PF_arms hZ h0) hS_30.symm) cw_X11_212 (sub_PF_arms hZ h0) KX0 ⟨Nat.le_of_ble_eq_true rfl, Nat.le_of_ble_eq_true rfl⟩ rfl hl.1 rfl (Nat.le_of_ble_eq_true rfl) ⟨Nat.le_refl _, Nat.le_refl _⟩ dX11_would_151 (fun H locs hw => ?_)
              refine lv_aload_n hx hb dX11_would_154 rfl (lv_at hl 2 rfl) ?_
              refine gF G hw h0 KX11 3 (k2 := 63) rfl (by decide) rfl fl_X11_33 dX11_would_155 ?_
              refine lv_iload_n hx hb dX11_would_158 rfl (lv_at hl 4 rfl) ?_
              refine lv_iload hx hb dX11_would_159 (lv_at hl 6 rfl) ?_
              obtain ⟨S_31, hS_31, hf⟩ := bL_e hf
              refine kVv (rest := []) G hw (wX0_askState hZ S_30 63 l3_10 l5_12 S_31 (sub_PF_arms hZ h0) hS_31.symm) cw_X11_367 (sub_PF_arms hZ h0) KX0 ⟨Nat.le_of_ble_eq_true rfl, Nat.le_of_ble_eq_true rfl⟩ rfl hl.1 rfl (Nat.le_of_ble_eq_true rfl) ⟨Nat.le_refl _, Nat.le_refl _⟩ dX11_would_161 (fun H locs hw => ?_)
              refine lv_aload_n hx hb dX11_would_164 rfl (lv_at hl 2 rfl) ?_
              refine gF G hw h0 KX11 3 (k2 := 63) rfl (by decide) rfl fl_X11_33 dX11_would_165 ?_
              refine lv_iload hx hb dX11_would_168 (lv_at hl 5 rfl) ?_
              obtain ⟨S_32, hS_32, hf⟩ := bL_e hf
              refine kVv (rest := []) G hw (wX0_askBest hZ S_31 63 l4_11 S_32 (sub_PF_arms hZ h0) hS_32.symm) cw_X11_423 (sub_PF_arms hZ h0) KX0 ⟨Nat.le_of_ble_eq_true rfl, Nat.le_of_ble_eq_true rfl⟩ rfl hl.1 rfl (Nat.le_of_ble_eq_true rfl) ⟨Nat.le_refl _, Nat.le_refl _⟩ dX11_would_170 (fun H locs hw => ?_)
              refine lv_sipush hx hb dX11_would_173 ks_1000 ?_
              refine lv_iload_n hx hb dX11_would_176 rfl (lv_at hl 4 rfl) ?_
              refine lv_aload_n hx hb dX11_would_177 rfl (lv_at hl 2 rfl) ?_
              refine gF G hw h0 KX11 3 (k2 := 63) rfl (by decide) rfl fl_X11_33 dX11_would_178 ?_
              refine lv_aload_n hx hb dX11_would_181 rfl (lv_at hl 2 rfl) ?_
              refine gF G hw h0 KX11 0 (k2 := 1) rfl (by decide) rfl fl_X11_10 dX11_would_182 ?_
              refine gF G hw (sub_PF_now hZ h0) KX10 15 (k2 := 15) rfl (by decide) rfl fl_X11_124 dX11_would_185 ?_
              refine lv_iconst hx hb dX11_would_188 ki_1 ?_
              obtain ⟨r_33, S_34, hr_33, hf⟩ := bB2_e hf
              refine kVi (rest := [.int l3_10, .int 1000]) G hw (wX0_tell hZ S_32 63 15 1 r_33 S_34 (sub_PF_arms hZ h0) (sub_World_arms hZ (sub_PF_now hZ h0)) hr_33) cw_X11_216 (sub_PF_arms hZ h0) KX0 ⟨Nat.le_of_ble_eq_true rfl, Nat.le_of_ble_eq_true rfl⟩ rfl hl.1 rfl (Nat.le_of_ble_eq_true rfl) ⟨Nat.le_refl _, Nat.le_refl _⟩ dX11_would_189 (fun H locs hw => ?_)
              refine lv_iadd hx hb dX11_would_192 ?_
              refine xmin G hl.1 ml_X11_200 (Nat.le_of_ble_eq_true rfl) (Nat.le_of_ble_eq_true rfl) ⟨Nat.le_refl _, Nat.le_refl _⟩ dX11_would_193 ?_
              obtain ⟨l3_35, el3_35, hf⟩ := bL_e hf
              refine top_i el3_35 ?_
              refine lv_istore_n (lv' := [(3, .int l3_35), (10, .int r_27), (9, .int l9_26), (0, .ref (za Z 0)), (2, .ref (za Z o_2)), (4, .int l4_11), (5, .int l5_12), (6, .int l6_13), (8, .int l8_14)]) hx hb dX11_would_196 rfl hl (by decide) rfl (fun ls hl => ?_)
              obtain ⟨l5_36, el5_36, hf⟩ := bL_e hf
              refine lv_iinc (v := l5_36) (lv' := [(5, .int l5_36), (3, .int l3_35), (10, .int r_27), (9, .int l9_26), (0, .ref (za Z 0)), (2, .ref (za Z o_2)), (4, .int l4_11), (6, .int l6_13), (8, .int l8_14)]) hx hb dX11_would_197 hl (k := 6) rfl (by rw [el5_36]; rfl) (by decide) rfl (fun ls hl => ?_)
              refine lv_iload hx hb dX11_would_200 (lv_at hl 6 rfl) ?_
              refine lv_aload_n hx hb dX11_would_202 rfl (lv_at hl 4 rfl) ?_
              refine gF G hw h0 KX11 2 (k2 := 59) rfl (by decide) rfl fl_X11_26 dX11_would_203 ?_
              refine lv_aload_n hx hb dX11_would_206 rfl (lv_at hl 4 rfl) ?_
              refine gF G hw h0 KX11 0 (k2 := 1) rfl (by decide) rfl fl_X11_10 dX11_would_207 ?_
              refine lv_iload hx hb dX11_would_210 (lv_at hl 3 rfl) ?_
              refine lv_iload hx hb dX11_would_212 (lv_at hl 2 rfl) ?_
              refine lv_aload_n hx hb dX11_would_214 rfl (lv_at hl 5 rfl) ?_
              refine lv_iload hx hb dX11_would_215 (lv_at hl 7 rfl) ?_
              refine lv_iconst hx hb dX11_would_217 ki_2 ?_
              obtain ⟨r_37, hr_37, hf⟩ := bB_e hf
              refine kVi (rest := [.int r_27, .int l9_26, .ref (za Z 1), .ref (za Z 59), .int l4_11]) G hw (wX8_order hZ S_34 o_2 l6_13 2 r_37 ho_2 hr_37) cw_X11_273 ho_2 KX8 ⟨Nat.le_of_ble_eq_true rfl, Nat.le_of_ble_eq_true rfl⟩ rfl hl.1 rfl (Nat.le_of_ble_eq_true rfl) ⟨Nat.le_refl _, Nat.le_refl _⟩ dX11_would_218 (fun H locs hw => ?_)
              refine lv_aload_n hx hb dX11_would_221 rfl (lv_at hl 4 rfl) ?_
              refine gF G hw h0 KX11 0 (k2 := 1) rfl (by decide) rfl fl_X11_10 dX11_would_222 ?_
              refine gF G hw (sub_PF_now hZ h0) KX10 8 (k2 := 2) rfl (by decide) rfl fl_X11_222 dX11_would_225 ?_
              refine lv_iconst hx hb dX11_would_228 ki_0 ?_
              refine aI G hw (sub_World_told hZ (sub_PF_now hZ h0)) (vin_e (by decide)) (j := 0) (by decide) dX11_would_229 ?_
              obtain ⟨r_38, S_39, hr_38, hf⟩ := bB2_e hf
              refine kVi (rest := [.int l4_11]) G hw (wX7_goodFar hZ S_34 59 1 l9_26 r_27 r_37 (S_34 2 0) r_38 S_39 (sub_PF_thought hZ h0) (sub_PF_now hZ h0) hr_38) cw_X11_381 (sub_PF_thought hZ h0) KX7 ⟨Nat.le_of_ble_eq_true rfl, Nat.le_of_ble_eq_true rfl⟩ rfl hl.1 rfl (Nat.le_of_ble_eq_true rfl) ⟨Nat.le_refl _, Nat.le_refl _⟩ dX11_would_230 (fun H locs hw => ?_)
              refine xmax G hl.1 ml_X11_256 (Nat.le_of_ble_eq_true rfl) (Nat.le_of_ble_eq_true rfl) ⟨Nat.le_refl _, Nat.le_refl _⟩ dX11_would_233 ?_
              obtain ⟨l4_40, el4_40, hf⟩ := bL_e hf
              refine top_i el4_40 ?_
              refine lv_istore (lv' := [(4, .int l4_40), (5, .int l5_36), (3, .int l3_35), (10, .int r_27), (9, .int l9_26), (0, .ref (za Z 0)), (2, .ref (za Z o_2)), (6, .int l6_13), (8, .int l8_14)]) hx hb dX11_would_236 hl (by decide) rfl (fun ls hl => ?_)
              exact R238 _ _ _ _ _ _ _ hw (lv_sub hl [5, 6, 2, 0, 1, 7, 8] rfl) hf
      clear eb
      obtain ⟨z, hz, hf⟩ := bB_e hf
      obtain ⟨n, hz⟩ := bP_e hz
      exact RL74 n z hf _ _ _ _ _ _ _ _ _ hw (lv_sub hl [2, 3, 4, 5, 6, 7, 0] rfl) hz
    clear ej
    refine lv_icmp_ge (tgt := 61) hx hb dX11_would_46 (by decide) (fun c_43 => ?_) (fun c_43 => ?_)
    · have hf := (if_pos c_43).symm.trans hf
      refine lv_aload_n hx hb dX11_would_61 rfl (lv_at hl 5 rfl) ?_
      refine gF G hw h0 KX11 0 (k2 := 1) rfl (by decide) rfl fl_X11_10 dX11_would_62 ?_
      refine gI G hw (sub_PF_now hZ h0) KX10 2 (by decide) rfl fl_X11_205 dX11_would_65 ?_
      exact R68 _ _ _ _ hw (lv_sub hl [5, 4, 3, 2, 1, 0] rfl) hf
    · have hf := (if_neg c_43).symm.trans hf
      refine lv_aload_n hx hb dX11_would_49 rfl (lv_at hl 5 rfl) ?_
      refine gF G hw h0 KX11 0 (k2 := 1) rfl (by decide) rfl fl_X11_10 dX11_would_50 ?_
      refine gI G hw (sub_PF_now hZ h0) KX10 2 (by decide) rfl fl_X11_205 dX11_would_53 ?_
      refine lv_iconst hx hb dX11_would_56 ki_1 ?_
      refine lv_iadd hx hb dX11_would_57 ?_
      refine lv_goto (tgt := 68) hx hb dX11_would_58 (by decide) ?_
      exact R68 _ _ _ _ hw (lv_sub hl [5, 4, 3, 2, 1, 0] rfl) hf
noncomputable def F11_verdict (S : pS) (a1 : Int32) : Int64 :=
  if (F11_within a1 0 1000) = 0 then
    ((-1) : Int64)
  else
    bL (1000 - ((a1 : Int32).toInt64)) fun l2_1 =>
    (l2_1 * l2_1) * (l2_1 + (3 * ((a1 : Int32).toInt64)))
set_option maxRecDepth 100000 in
set_option maxHeartbeats 4000000 in
theorem wX11_verdict {l : Launch} {Z : pZ}  (hZ : CC Z) (S : pS) (a1 : Int32) (r : Int64) (h0 : isA Z K_PF 0) (hf : F11_verdict S a1 = r) : CL l Z yX11_verdict cX11_verdict 4 4 82 [.ref (za Z 0), .int a1] S r S := by
  unfold F11_verdict at hf
  refine eL (own := RX11) (by decide) rfl (Nat.le_of_ble_eq_true rfl) (fun p e s m args below meth c Q ls G hl hw hret => ?_)
  obtain ⟨hx, hb, hml, hown, hts⟩ := G.1
  have hl : lv_has ls 4 [(0, .ref (za Z 0)), (1, .int a1)] := hl
  refine lv_iload_n hx hb dX11_verdict_0 rfl (lv_at hl 1 rfl) ?_
  refine lv_iconst hx hb dX11_verdict_1 ki_0 ?_
  refine lv_sipush hx hb dX11_verdict_2 ks_1000 ?_
  refine kSi (rest := []) G hw (wX11_within hZ S a1 0 1000 (F11_within a1 0 1000) rfl) cw_X11_51 ⟨Nat.le_of_ble_eq_true rfl, Nat.le_of_ble_eq_true rfl⟩ rfl hl.1 rfl (Nat.le_of_ble_eq_true rfl) ⟨Nat.le_refl _, Nat.le_refl _⟩ dX11_verdict_5 (fun H locs hw => ?_)
  refine lv_if_ne (tgt := 15) hx hb dX11_verdict_8 (by decide) (fun c_2 => ?_) (fun c_2 => ?_)
  · have hf := (if_neg c_2).symm.trans hf
    refine lv_ldc2 hx hb hown (hts _ cl_X11_426) dX11_verdict_15 ?_
    refine lv_iload_n hx hb dX11_verdict_18 rfl (lv_at hl 1 rfl) ?_
    refine lv_i2l hx hb dX11_verdict_19 rfl ?_
    refine lv_lsub hx hb dX11_verdict_20 ?_
    obtain ⟨l2_1, el2_1, hf⟩ := bL_e hf
    refine top_l el2_1 ?_
    refine lv_lstore_n (lv' := [(2, .long l2_1), (0, .ref (za Z 0)), (1, .int a1)]) hx hb dX11_verdict_21 rfl hl (by decide) rfl (fun ls hl => ?_)
    refine lv_lload_n hx hb dX11_verdict_22 rfl (lv_at hl 0 rfl) ?_
    refine lv_lload_n hx hb dX11_verdict_23 rfl (lv_at hl 0 rfl) ?_
    refine lv_lmul hx hb dX11_verdict_24 ?_
    refine lv_lload_n hx hb dX11_verdict_25 rfl (lv_at hl 0 rfl) ?_
    refine lv_ldc2 hx hb hown (hts _ cl_X11_428) dX11_verdict_26 ?_
    refine lv_iload_n hx hb dX11_verdict_29 rfl (lv_at hl 2 rfl) ?_
    refine lv_i2l hx hb dX11_verdict_30 rfl ?_
    refine lv_lmul hx hb dX11_verdict_31 ?_
    refine lv_ladd hx hb dX11_verdict_32 ?_
    refine lv_lmul hx hb dX11_verdict_33 ?_
    exact hret _ _ _ _ _ dX11_verdict_34 hf hw
  · have hf := (if_pos c_2).symm.trans hf
    refine lv_ldc2 hx hb hown (hts _ cl_X11_358) dX11_verdict_11 ?_
    exact hret _ _ _ _ _ dX11_verdict_14 hf hw
noncomputable def F11_path (S : pS) (a1 : Int32) (a2 : Int32) (a3 : Int32) : Option (Int32 × pS) :=
  if (F10_hasLine S 1 a1) = 0 then
    some (((-10000) : Int32), S)
  else
    if (F11_within a2 0 400) = 0 then
      some (((-10000) : Int32), S)
    else
      if (F11_within a3 0 3) = 0 then
        some (((-10000) : Int32), S)
      else
        bB (F10_column S 1 a1 4) fun r_1 =>
        bB (F10_column S 1 a1 5) fun r_2 =>
        bB (F10_column S 1 a1 3) fun r_3 =>
        bB (F10_column S 1 a1 6) fun r_4 =>
        bB (F2_begin S 60 1 r_1 r_2 0 r_3 r_4 (S 2 1)) fun S_5 =>
        bB (F2_go S_5 60 8 a2) fun S_6 =>
        if a3 = 0 then
          some (S_6 60 1, S_6)
        else if a3 = 1 then
          some (S_6 61 2, S_6)
        else if a3 = 2 then
          some (S_6 60 2, S_6)
        else 
          some (S_6 61 3, S_6)
set_option maxRecDepth 100000 in
set_option maxHeartbeats 4000000 in
theorem wX11_path {l : Launch} {Z : pZ}  (hZ : CC Z) (S : pS) (a1 : Int32) (a2 : Int32) (a3 : Int32) (r : Int32) (S2 : pS) (h0 : isA Z K_PF 0) (hf : F11_path S a1 a2 a3 = some (r, S2)) : CI l Z yX11_path cX11_path 5 .int 8 180 [.ref (za Z 0), .int a1, .int a2, .int a3] S r S2 := by
  unfold F11_path at hf
  refine eI (own := RX11) (by decide) rfl (Nat.le_of_ble_eq_true rfl) (fun p e s m args below meth c Q ls G hl hw hret => ?_)
  obtain ⟨hx, hb, hml, hown, hts⟩ := G.1
  have hl : lv_has ls 5 [(0, .ref (za Z 0)), (1, .int a1), (2, .int a2), (3, .int a3)] := hl
  refine lv_aload_n hx hb dX11_path_0 rfl (lv_at hl 0 rfl) ?_
  refine gF G hw h0 KX11 0 (k2 := 1) rfl (by decide) rfl fl_X11_10 dX11_path_1 ?_
  refine lv_iload_n hx hb dX11_path_4 rfl (lv_at hl 1 rfl) ?_
  refine kVi (rest := []) G hw (wX10_hasLine hZ S 1 a1 (F10_hasLine S 1 a1) (sub_PF_now hZ h0) rfl) cw_X11_310 (sub_PF_now hZ h0) KX10 ⟨Nat.le_of_ble_eq_true rfl, Nat.le_of_ble_eq_true rfl⟩ rfl hl.1 rfl (Nat.le_of_ble_eq_true rfl) ⟨Nat.le_refl _, Nat.le_refl _⟩ dX11_path_5 (fun H locs hw => ?_)
  refine lv_if_eq (tgt := 31) hx hb dX11_path_8 (by decide) (fun c_12 => ?_) (fun c_12 => ?_)
  · have hf := (if_pos c_12).symm.trans hf
    refine lv_sipush hx hb dX11_path_31 ks_m10000 ?_
    obtain ⟨e1, e2⟩ := Prod.mk.inj (Option.some.inj hf)
    exact hret _ _ _ _ _ dX11_path_34 e1 (by rw [← e2]; exact hw)
  · have hf := (if_neg c_12).symm.trans hf
    refine lv_iload_n hx hb dX11_path_11 rfl (lv_at hl 2 rfl) ?_
    refine lv_iconst hx hb dX11_path_12 ki_0 ?_
    refine lv_sipush hx hb dX11_path_13 ks_400 ?_
    refine kSi (rest := []) G hw (wX11_within hZ S a2 0 400 (F11_within a2 0 400) rfl) cw_X11_51 ⟨Nat.le_of_ble_eq_true rfl, Nat.le_of_ble_eq_true rfl⟩ rfl hl.1 rfl (Nat.le_of_ble_eq_true rfl) ⟨Nat.le_refl _, Nat.le_refl _⟩ dX11_path_16 (fun H locs hw => ?_)
    refine lv_if_eq (tgt := 31) hx hb dX11_path_19 (by decide) (fun c_11 => ?_) (fun c_11 => ?_)
    · have hf := (if_pos c_11).symm.trans hf
      refine lv_sipush hx hb dX11_path_31 ks_m10000 ?_
      obtain ⟨e1, e2⟩ := Prod.mk.inj (Option.some.inj hf)
      exact hret _ _ _ _ _ dX11_path_34 e1 (by rw [← e2]; exact hw)
    · have hf := (if_neg c_11).symm.trans hf
      refine lv_iload_n hx hb dX11_path_22 rfl (lv_at hl 3 rfl) ?_
      refine lv_iconst hx hb dX11_path_23 ki_0 ?_
      refine lv_iconst hx hb dX11_path_24 ki_3 ?_
      refine kSi (rest := []) G hw (wX11_within hZ S a3 0 3 (F11_within a3 0 3) rfl) cw_X11_51 ⟨Nat.le_of_ble_eq_true rfl, Nat.le_of_ble_eq_true rfl⟩ rfl hl.1 rfl (Nat.le_of_ble_eq_true rfl) ⟨Nat.le_refl _, Nat.le_refl _⟩ dX11_path_25 (fun H locs hw => ?_)
      refine lv_if_ne (tgt := 35) hx hb dX11_path_28 (by decide) (fun c_10 => ?_) (fun c_10 => ?_)
      · have hf := (if_neg c_10).symm.trans hf
        refine lv_aload_n hx hb dX11_path_35 rfl (lv_at hl 0 rfl) ?_
        refine gF G hw h0 KX11 2 (k2 := 59) rfl (by decide) rfl fl_X11_26 dX11_path_36 ?_
        refine gF G hw (sub_PF_thought hZ h0) KX7 0 (k2 := 60) rfl (by decide) rfl fl_X11_232 dX11_path_39 ?_
        refine lv_astore (lv' := [(4, .ref (za Z 60)), (0, .ref (za Z 0)), (1, .int a1), (2, .int a2), (3, .int a3)]) hx hb dX11_path_42 hl (by decide) rfl (fun ls hl => ?_)
        refine lv_aload hx hb dX11_path_44 (lv_at hl 0 rfl) ?_
        refine lv_aload_n hx hb dX11_path_46 rfl (lv_at hl 1 rfl) ?_
        refine gF G hw h0 KX11 0 (k2 := 1) rfl (by decide) rfl fl_X11_10 dX11_path_47 ?_
        refine lv_aload_n hx hb dX11_path_50 rfl (lv_at hl 1 rfl) ?_
        refine gF G hw h0 KX11 0 (k2 := 1) rfl (by decide) rfl fl_X11_10 dX11_path_51 ?_
        refine lv_iload_n hx hb dX11_path_54 rfl (lv_at hl 2 rfl) ?_
        refine lv_iconst hx hb dX11_path_55 ki_4 ?_
        obtain ⟨r_1, hr_1, hf⟩ := bB_e hf
        refine kVi (rest := [.ref (za Z 1), .ref (za Z 60)]) G hw (wX10_column hZ S 1 a1 4 r_1 (sub_PF_now hZ h0) hr_1) cw_X11_313 (sub_PF_now hZ h0) KX10 ⟨Nat.le_of_ble_eq_true rfl, Nat.le_of_ble_eq_true rfl⟩ rfl hl.1 rfl (Nat.le_of_ble_eq_true rfl) ⟨Nat.le_refl _, Nat.le_refl _⟩ dX11_path_56 (fun H locs hw => ?_)
        refine lv_aload_n hx hb dX11_path_59 rfl (lv_at hl 1 rfl) ?_
        refine gF G hw h0 KX11 0 (k2 := 1) rfl (by decide) rfl fl_X11_10 dX11_path_60 ?_
        refine lv_iload_n hx hb dX11_path_63 rfl (lv_at hl 2 rfl) ?_
        refine lv_iconst hx hb dX11_path_64 ki_5 ?_
        obtain ⟨r_2, hr_2, hf⟩ := bB_e hf
        refine kVi (rest := [.int r_1, .ref (za Z 1), .ref (za Z 60)]) G hw (wX10_column hZ S 1 a1 5 r_2 (sub_PF_now hZ h0) hr_2) cw_X11_313 (sub_PF_now hZ h0) KX10 ⟨Nat.le_of_ble_eq_true rfl, Nat.le_of_ble_eq_true rfl⟩ rfl hl.1 rfl (Nat.le_of_ble_eq_true rfl) ⟨Nat.le_refl _, Nat.le_refl _⟩ dX11_path_65 (fun H locs hw => ?_)
        refine lv_iconst hx hb dX11_path_68 ki_0 ?_
        refine lv_aload_n hx hb dX11_path_69 rfl (lv_at hl 1 rfl) ?_
        refine gF G hw h0 KX11 0 (k2 := 1) rfl (by decide) rfl fl_X11_10 dX11_path_70 ?_
        refine lv_iload_n hx hb dX11_path_73 rfl (lv_at hl 2 rfl) ?_
        refine lv_iconst hx hb dX11_path_74 ki_3 ?_
        obtain ⟨r_3, hr_3, hf⟩ := bB_e hf
        refine kVi (rest := [.int 0, .int r_2, .int r_1, .ref (za Z 1), .ref (za Z 60)]) G hw (wX10_column hZ S 1 a1 3 r_3 (sub_PF_now hZ h0) hr_3) cw_X11_313 (sub_PF_now hZ h0) KX10 ⟨Nat.le_of_ble_eq_true rfl, Nat.le_of_ble_eq_true rfl⟩ rfl hl.1 rfl (Nat.le_of_ble_eq_true rfl) ⟨Nat.le_refl _, Nat.le_refl _⟩ dX11_path_75 (fun H locs hw => ?_)
        refine lv_aload_n hx hb dX11_path_78 rfl (lv_at hl 1 rfl) ?_
        refine gF G hw h0 KX11 0 (k2 := 1) rfl (by decide) rfl fl_X11_10 dX11_path_79 ?_
        refine lv_iload_n hx hb dX11_path_82 rfl (lv_at hl 2 rfl) ?_
        refine lv_bipush hx hb dX11_path_83 kb_6 ?_
        obtain ⟨r_4, hr_4, hf⟩ := bB_e hf
        refine kVi (rest := [.int r_3, .int 0, .int r_2, .int r_1, .ref (za Z 1), .ref (za Z 60)]) G hw (wX10_column hZ S 1 a1 6 r_4 (sub_PF_now hZ h0) hr_4) cw_X11_313 (sub_PF_now hZ h0) KX10 ⟨Nat.le_of_ble_eq_true rfl, Nat.le_of_ble_eq_true rfl⟩ rfl hl.1 rfl (Nat.le_of_ble_eq_true rfl) ⟨Nat.le_refl _, Nat.le_refl _⟩ dX11_path_85 (fun H locs hw => ?_)
        refine lv_aload_n hx hb dX11_path_88 rfl (lv_at hl 1 rfl) ?_
        refine gF G hw h0 KX11 0 (k2 := 1) rfl (by decide) rfl fl_X11_10 dX11_path_89 ?_
        refine gF G hw (sub_PF_now hZ h0) KX10 8 (k2 := 2) rfl (by decide) rfl fl_X11_222 dX11_path_92 ?_
        refine lv_iconst hx hb dX11_path_95 ki_1 ?_
        refine aI G hw (sub_World_told hZ (sub_PF_now hZ h0)) (vin_e (by decide)) (j := 1) (by decide) dX11_path_96 ?_
        obtain ⟨S_5, hS_5, hf⟩ := bB_e hf
        refine kVv (rest := []) G hw (wX2_begin hZ S 60 1 r_1 r_2 0 r_3 r_4 (S 2 1) S_5 (sub_Thought_flight hZ (sub_PF_thought hZ h0)) (sub_PF_now hZ h0) hS_5) cw_X11_235 (sub_Thought_flight hZ (sub_PF_thought hZ h0)) KX2 ⟨Nat.le_of_ble_eq_true rfl, Nat.le_of_ble_eq_true rfl⟩ rfl hl.1 rfl (Nat.le_of_ble_eq_true rfl) ⟨Nat.le_refl _, Nat.le_refl _⟩ dX11_path_97 (fun H locs hw => ?_)
        refine lv_aload hx hb dX11_path_100 (lv_at hl 0 rfl) ?_
        refine lv_aload_n hx hb dX11_path_102 rfl (lv_at hl 1 rfl) ?_
        refine gF G hw h0 KX11 0 (k2 := 1) rfl (by decide) rfl fl_X11_10 dX11_path_103 ?_
        refine gF G hw (sub_PF_now hZ h0) KX10 14 (k2 := 8) rfl (by decide) rfl fl_X11_114 dX11_path_106 ?_
        refine lv_iload_n hx hb dX11_path_109 rfl (lv_at hl 3 rfl) ?_
        obtain ⟨S_6, hS_6, hf⟩ := bB_e hf
        refine kVv (rest := []) G hw (wX2_go hZ S_5 60 8 a2 S_6 (sub_Thought_flight hZ (sub_PF_thought hZ h0)) (sub_World_flight hZ (sub_PF_now hZ h0)) hS_6) cw_X11_240 (sub_Thought_flight hZ (sub_PF_thought hZ h0)) KX2 ⟨Nat.le_of_ble_eq_true rfl, Nat.le_of_ble_eq_true rfl⟩ rfl hl.1 rfl (Nat.le_of_ble_eq_true rfl) ⟨Nat.le_refl _, Nat.le_refl _⟩ dX11_path_110 (fun H locs hw => ?_)
        refine lv_iload_n hx hb dX11_path_113 rfl (lv_at hl 4 rfl) ?_
        by_cases c_7 : a3 = 0
        · have hf := (if_pos c_7).symm.trans hf
          refine lv_tableIn (tgt := 140) hx hb dX11_path_114 (by rw [c_7]; decide) (by rw [c_7]; decide) (off := 26) (by rw [c_7]; decide) (by decide) ?_
          refine lv_aload hx hb dX11_path_140 (lv_at hl 0 rfl) ?_
          refine gI G hw (sub_Thought_flight hZ (sub_PF_thought hZ h0)) KX2 1 (by decide) rfl fl_X11_253 dX11_path_142 ?_
          obtain ⟨e1, e2⟩ := Prod.mk.inj (Option.some.inj hf)
          exact hret _ _ _ _ _ dX11_path_145 e1 (by rw [← e2]; exact hw)
        have hf := (if_neg c_7).symm.trans hf
        by_cases c_8 : a3 = 1
        · have hf := (if_pos c_8).symm.trans hf
          refine lv_tableIn (tgt := 146) hx hb dX11_path_114 (by rw [c_8]; decide) (by rw [c_8]; decide) (off := 32) (by rw [c_8]; decide) (by decide) ?_
          refine lv_aload hx hb dX11_path_146 (lv_at hl 0 rfl) ?_
          refine gF G hw (sub_Thought_flight hZ (sub_PF_thought hZ h0)) KX2 0 (k2 := 61) rfl (by decide) rfl fl_X11_339 dX11_path_148 ?_
          refine lv_iconst hx hb dX11_path_151 ki_2 ?_
          refine aI G hw (sub_Flight_is hZ (sub_Thought_flight hZ (sub_PF_thought hZ h0))) (vin_e (by decide)) (j := 2) (by decide) dX11_path_152 ?_
          obtain ⟨e1, e2⟩ := Prod.mk.inj (Option.some.inj hf)
          exact hret _ _ _ _ _ dX11_path_153 e1 (by rw [← e2]; exact hw)
        have hf := (if_neg c_8).symm.trans hf
        by_cases c_9 : a3 = 2
        · have hf := (if_pos c_9).symm.trans hf
          refine lv_tableIn (tgt := 154) hx hb dX11_path_114 (by rw [c_9]; decide) (by rw [c_9]; decide) (off := 40) (by rw [c_9]; decide) (by decide) ?_
          refine lv_aload hx hb dX11_path_154 (lv_at hl 0 rfl) ?_
          refine gI G hw (sub_Thought_flight hZ (sub_PF_thought hZ h0)) KX2 2 (by decide) rfl fl_X11_336 dX11_path_156 ?_
          obtain ⟨e1, e2⟩ := Prod.mk.inj (Option.some.inj hf)
          exact hret _ _ _ _ _ dX11_path_159 e1 (by rw [← e2]; exact hw)
        have hf := (if_neg c_9).symm.trans hf
        refine lv_tableOut (tgt := 160) hx hb dX11_path_114 (sw_out [0, 1, 2] (by decide +kernel) (List.forall_mem_cons.mpr ⟨c_7, (List.forall_mem_cons.mpr ⟨c_8, (List.forall_mem_cons.mpr ⟨c_9, (fun _ h => absurd h List.not_mem_nil)⟩)⟩)⟩)) (by decide) ?_
        refine lv_aload hx hb dX11_path_160 (lv_at hl 0 rfl) ?_
        refine gF G hw (sub_Thought_flight hZ (sub_PF_thought hZ h0)) KX2 0 (k2 := 61) rfl (by decide) rfl fl_X11_339 dX11_path_162 ?_
        refine lv_iconst hx hb dX11_path_165 ki_3 ?_
        refine aI G hw (sub_Flight_is hZ (sub_Thought_flight hZ (sub_PF_thought hZ h0))) (vin_e (by decide)) (j := 3) (by decide) dX11_path_166 ?_
        obtain ⟨e1, e2⟩ := Prod.mk.inj (Option.some.inj hf)
        exact hret _ _ _ _ _ dX11_path_167 e1 (by rw [← e2]; exact hw)
      · have hf := (if_pos c_10).symm.trans hf
        refine lv_sipush hx hb dX11_path_31 ks_m10000 ?_
        obtain ⟨e1, e2⟩ := Prod.mk.inj (Option.some.inj hf)
        exact hret _ _ _ _ _ dX11_path_34 e1 (by rw [← e2]; exact hw)
noncomputable def F11_needed (S : pS) (a1 : Int32) (a2 : Int32) (a3 : Int32) (a4 : Int32) : Option (Int32 × pS) :=
  if (F11_canThrow S 0 a1 a2) = 0 then
    some (((-1) : Int32), S)
  else
    if (F11_canBlow a3) = 0 then
      some (((-1) : Int32), S)
    else
      bL (fun (S_1 : pS) =>
        some (((-1) : Int32), S_1)) fun g69_22 =>
      bL (fun (l5_2 : Int32) (S_3 : pS) =>
        some (l5_2, S_3)) fun g60_22 =>
      bL (u2 fun (l5_4 : Int32) (S_5 : pS) =>
        if 99 < l5_4 then
          some (.inr (.inl S_5))
        else
          bB2 (F7_goodFar S_5 59 1 l5_4 a1 a2 a3) fun r_7 S_8 =>
          bL (fun (_ : Unit) =>
            bL (l5_4 + 1) fun l5_9 =>
            some (.inl (l5_9, S_8))) fun j63 =>
          if r_7 = (-1) then
            j63 ()
          else
            if r_7 < a4 then
              j63 ()
            else
              some (.inr (.inr (l5_4, S_8)))) fun b22 =>
      bB (bP b22 ((0 : Int32), S)) (Sum.elim (u1 g69_22) (u2 g60_22))
set_option maxRecDepth 100000 in
set_option maxHeartbeats 4000000 in
theorem wX11_needed {l : Launch} {Z : pZ}  (hZ : CC Z) (S : pS) (a1 : Int32) (a2 : Int32) (a3 : Int32) (a4 : Int32) (r : Int32) (S2 : pS) (h0 : isA Z K_PF 0) (hf : F11_needed S a1 a2 a3 a4 = some (r, S2)) : CI l Z yX11_needed cX11_needed 7 .int 9 205 [.ref (za Z 0), .int a1, .int a2, .int a3, .int a4] S r S2 := by
  unfold F11_needed at hf
  refine eI (own := RX11) (by decide) rfl (Nat.le_of_ble_eq_true rfl) (fun p e s m args below meth c Q ls G hl hw hret => ?_)
  obtain ⟨hx, hb, hml, hown, hts⟩ := G.1
  have hl : lv_has ls 7 [(0, .ref (za Z 0)), (1, .int a1), (2, .int a2), (3, .int a3), (4, .int a4)] := hl
  refine lv_aload_n hx hb dX11_needed_0 rfl (lv_at hl 0 rfl) ?_
  refine lv_iconst hx hb dX11_needed_1 ki_0 ?_
  refine lv_iload_n hx hb dX11_needed_2 rfl (lv_at hl 1 rfl) ?_
  refine lv_iload_n hx hb dX11_needed_3 rfl (lv_at hl 2 rfl) ?_
  refine kVi (rest := []) G hw (wX11_canThrow hZ S 0 a1 a2 (F11_canThrow S 0 a1 a2) h0 rfl) cw_X11_186 h0 KX11 ⟨Nat.le_of_ble_eq_true rfl, Nat.le_of_ble_eq_true rfl⟩ rfl hl.1 rfl (Nat.le_of_ble_eq_true rfl) ⟨Nat.le_refl _, Nat.le_refl _⟩ dX11_needed_4 (fun H locs hw => ?_)
  refine lv_if_eq (tgt := 17) hx hb dX11_needed_7 (by decide) (fun c_14 => ?_) (fun c_14 => ?_)
  · have hf := (if_pos c_14).symm.trans hf
    refine lv_iconst hx hb dX11_needed_17 ki_m1 ?_
    obtain ⟨e1, e2⟩ := Prod.mk.inj (Option.some.inj hf)
    exact hret _ _ _ _ _ dX11_needed_18 e1 (by rw [← e2]; exact hw)
  · have hf := (if_neg c_14).symm.trans hf
    refine lv_iload_n hx hb dX11_needed_10 rfl (lv_at hl 3 rfl) ?_
    refine kSi (rest := []) G hw (wX11_canBlow hZ S a3 (F11_canBlow a3) rfl) cw_X11_329 ⟨Nat.le_of_ble_eq_true rfl, Nat.le_of_ble_eq_true rfl⟩ rfl hl.1 rfl (Nat.le_of_ble_eq_true rfl) ⟨Nat.le_refl _, Nat.le_refl _⟩ dX11_needed_11 (fun H locs hw => ?_)
    refine lv_if_ne (tgt := 19) hx hb dX11_needed_14 (by decide) (fun c_13 => ?_) (fun c_13 => ?_)
    · have hf := (if_neg c_13).symm.trans hf
      refine lv_iconst hx hb dX11_needed_19 ki_0 ?_
      refine lv_istore (lv' := [(5, .int 0), (0, .ref (za Z 0)), (1, .int a1), (2, .int a2), (3, .int a3), (4, .int a4)]) hx hb dX11_needed_20 hl (by decide) rfl (fun ls hl => ?_)
      obtain ⟨g69_22, ej, hf⟩ := bL_e hf
      have R69_22 : ∀ (S_1 : pS) (H : Heap) (locs : List Loc) (ls : Array Slot), Wd Z s S_1 H locs → lv_has ls 7 [] → g69_22 S_1 = some (r, S2) → W p l e { frames := 9, cells := 0, slots := 0, locals := 205 } s m args below meth c H locs 0 0 Q (F0 m 69 ls []) := by
        intro S_1 H locs ls hw hl hf
        have hf := (congrFun ej S_1).symm.trans hf
        refine lv_iconst hx hb dX11_needed_69 ki_m1 ?_
        obtain ⟨e1, e2⟩ := Prod.mk.inj (Option.some.inj hf)
        exact hret _ _ _ _ _ dX11_needed_70 e1 (by rw [← e2]; exact hw)
      clear ej
      obtain ⟨g60_22, ej, hf⟩ := bL_e hf
      have R60_22 : ∀ (l5_2 : Int32) (S_3 : pS) (H : Heap) (locs : List Loc) (ls : Array Slot), Wd Z s S_3 H locs → lv_has ls 7 [(5, .int l5_2)] → g60_22 l5_2 S_3 = some (r, S2) → W p l e { frames := 9, cells := 0, slots := 0, locals := 205 } s m args below meth c H locs 0 0 Q (F0 m 60 ls []) := by
        intro l5_2 S_3 H locs ls hw hl hf
        have hf := (congrFun (congrFun ej l5_2) S_3).symm.trans hf
        refine lv_iload hx hb dX11_needed_60 (lv_at hl 0 rfl) ?_
        obtain ⟨e1, e2⟩ := Prod.mk.inj (Option.some.inj hf)
        exact hret _ _ _ _ _ dX11_needed_62 e1 (by rw [← e2]; exact hw)
      clear ej
      obtain ⟨b22, eb, hf⟩ := bL_e hf
      have RL22 : ∀ (n : Nat) z, (Sum.elim (u1 g69_22) (u2 g60_22)) z = some (r, S2) → ∀ (l5_4 : Int32) (S_5 : pS) (H : Heap) (locs : List Loc) (ls : Array Slot), Wd Z s S_5 H locs → lv_has ls 7 [(0, .ref (za Z 0)), (1, .int a1), (2, .int a2), (3, .int a3), (4, .int a4), (5, .int l5_4)] → bPn b22 n (l5_4, S_5) = some z → W p l e { frames := 9, cells := 0, slots := 0, locals := 205 } s m args below meth c H locs 0 0 Q (F0 m 22 ls []) := by
        intro n
        induction n with
        | zero =>
          intro z hg l5_4 S_5 H locs ls hw hl hz
          exact bPn_0 hz
        | succ n ih =>
          intro z hg l5_4 S_5 H locs ls hw hl hz
          obtain ⟨q_6, hf, hz⟩ := bPn_e hz
          have hf := u2_e ((congrFun eb _).symm.trans hf)
          refine lv_iload hx hb dX11_needed_22 (lv_at hl 5 rfl) ?_
          refine lv_bipush hx hb dX11_needed_24 kb_99 ?_
          refine lv_icmp_gt (tgt := 69) hx hb dX11_needed_26 (by decide) (fun c_12 => ?_) (fun c_12 => ?_)
          · have hf := (if_pos c_12).symm.trans hf
            obtain rfl := Option.some.inj hf
            obtain rfl := Option.some.inj (hz : some _ = some _)
            exact R69_22 _ _ _ _ hw (lv_sub hl [] rfl) hg
          · have hf := (if_neg c_12).symm.trans hf
            refine lv_aload_n hx hb dX11_needed_29 rfl (lv_at hl 0 rfl) ?_
            refine gF G hw h0 KX11 2 (k2 := 59) rfl (by decide) rfl fl_X11_26 dX11_needed_30 ?_
            refine lv_aload_n hx hb dX11_needed_33 rfl (lv_at hl 0 rfl) ?_
            refine gF G hw h0 KX11 0 (k2 := 1) rfl (by decide) rfl fl_X11_10 dX11_needed_34 ?_
            refine lv_iload hx hb dX11_needed_37 (lv_at hl 5 rfl) ?_
            refine lv_iload_n hx hb dX11_needed_39 rfl (lv_at hl 1 rfl) ?_
            refine lv_iload_n hx hb dX11_needed_40 rfl (lv_at hl 2 rfl) ?_
            refine lv_iload_n hx hb dX11_needed_41 rfl (lv_at hl 3 rfl) ?_
            obtain ⟨r_7, S_8, hr_7, hf⟩ := bB2_e hf
            refine kVi (rest := []) G hw (wX7_goodFar hZ S_5 59 1 l5_4 a1 a2 a3 r_7 S_8 (sub_PF_thought hZ h0) (sub_PF_now hZ h0) hr_7) cw_X11_381 (sub_PF_thought hZ h0) KX7 ⟨Nat.le_of_ble_eq_true rfl, Nat.le_of_ble_eq_true rfl⟩ rfl hl.1 rfl (Nat.le_of_ble_eq_true rfl) ⟨Nat.le_refl _, Nat.le_refl _⟩ dX11_needed_42 (fun H locs hw => ?_)
            refine lv_istore (lv' := [(6, .int r_7), (0, .ref (za Z 0)), (1, .int a1), (2, .int a2), (3, .int a3), (4, .int a4), (5, .int l5_4)]) hx hb dX11_needed_45 hl (by decide) rfl (fun ls hl => ?_)
            refine lv_iload hx hb dX11_needed_47 (lv_at hl 0 rfl) ?_
            refine lv_iconst hx hb dX11_needed_49 ki_m1 ?_
            obtain ⟨j63, ej, hf⟩ := bL_e hf
            have R63 : ∀ (H : Heap) (locs : List Loc) (ls : Array Slot), Wd Z s S_8 H locs → lv_has ls 7 [(0, .ref (za Z 0)), (1, .int a1), (2, .int a2), (3, .int a3), (4, .int a4), (5, .int l5_4)] → j63 () = some q_6 → W p l e { frames := 9, cells := 0, slots := 0, locals := 205 } s m args below meth c H locs 0 0 Q (F0 m 63 ls []) := by
              intro  H locs ls hw hl hf
              have hf := (congrFun ej ()).symm.trans hf
              obtain ⟨l5_9, el5_9, hf⟩ := bL_e hf
              refine lv_iinc (v := l5_9) (lv' := [(5, .int l5_9), (0, .ref (za Z 0)), (1, .int a1), (2, .int a2), (3, .int a3), (4, .int a4)]) hx hb dX11_needed_63 hl (k := 5) rfl (by rw [el5_9]; rfl) (by decide) rfl (fun ls hl => ?_)
              refine lv_goto (tgt := 22) hx hb dX11_needed_66 (by decide) ?_
              obtain rfl := Option.some.inj hf
              exact ih _ hg _ _ _ _ _ hw (lv_sub hl [1, 2, 3, 4, 5, 0] rfl) hz
            clear ej
            refine lv_icmp_eq (tgt := 63) hx hb dX11_needed_50 (by decide) (fun c_11 => ?_) (fun c_11 => ?_)
            · have hf := (if_pos c_11).symm.trans hf
              exact R63 _ _ _ hw (lv_sub hl [1, 2, 3, 4, 5, 6] rfl) hf
            · have hf := (if_neg c_11).symm.trans hf
              refine lv_iload hx hb dX11_needed_53 (lv_at hl 0 rfl) ?_
              refine lv_iload hx hb dX11_needed_55 (lv_at hl 5 rfl) ?_
              refine lv_icmp_lt (tgt := 63) hx hb dX11_needed_57 (by decide) (fun c_10 => ?_) (fun c_10 => ?_)
              · have hf := (if_pos c_10).symm.trans hf
                exact R63 _ _ _ hw (lv_sub hl [1, 2, 3, 4, 5, 6] rfl) hf
              · have hf := (if_neg c_10).symm.trans hf
                obtain rfl := Option.some.inj hf
                obtain rfl := Option.some.inj (hz : some _ = some _)
                exact R60_22 _ _ _ _ _ hw (lv_sub hl [6] rfl) hg
      clear eb
      obtain ⟨z, hz, hf⟩ := bB_e hf
      obtain ⟨n, hz⟩ := bP_e hz
      exact RL22 n z hf _ _ _ _ _ hw (lv_sub hl [1, 2, 3, 4, 5, 0] rfl) hz
    · have hf := (if_pos c_13).symm.trans hf
      refine lv_iconst hx hb dX11_needed_17 ki_m1 ?_
      obtain ⟨e1, e2⟩ := Prod.mk.inj (Option.some.inj hf)
      exact hret _ _ _ _ _ dX11_needed_18 e1 (by rw [← e2]; exact hw)
noncomputable def F11_rests (S : pS) (a1 : Int32) (a2 : Int32) : Option (Int32 × pS) :=
  bB (F10_one S 1 a1) fun r_1 =>
  bO r_1 (
    some (((-1) : Int32), S)) fun o_2 =>
  if (F11_within a2 0 1000) = 0 then
    some (((-1) : Int32), S)
  else
    bL (F0_ask S 63 o_2 (S 1 2)) fun S_3 =>
    bL (S_3 o_2 1) fun l4_4 =>
    bL (fun (S_5 : pS) =>
      some (((-1) : Int32), S_5)) fun g110_50 =>
    bL (fun (l5_6 : Int32) (S_7 : pS) =>
      some (l5_6, S_7)) fun g64_50 =>
    bL (u3 fun (l4_8 : Int32) (l5_9 : Int32) (S_10 : pS) =>
      if 400 < l5_9 then
        some (.inr (.inl S_10))
      else
        if a2 < l4_8 then
          bL (F0_askState S_10 63 l4_8 (S_10 o_2 3)) fun S_12 =>
          bB2 (F0_tell S_12 63 15 2) fun r_13 S_14 =>
          bL (jmax 0 (l4_8 - r_13)) fun l4_15 =>
          bL (l5_9 + 1) fun l5_16 =>
          some (.inl (l4_15, l5_16, S_14))
        else
          some (.inr (.inr (l5_9, S_10)))) fun b50 =>
    bB (bP b50 (l4_4, (0 : Int32), S_3)) (Sum.elim (u1 g110_50) (u2 g64_50))
set_option maxRecDepth 100000 in
set_option maxHeartbeats 4000000 in
theorem wX11_rests {l : Launch} {Z : pZ}  (hZ : CC Z) (S : pS) (a1 : Int32) (a2 : Int32) (r : Int32) (S2 : pS) (h0 : isA Z K_PF 0) (hf : F11_rests S a1 a2 = some (r, S2)) : CI l Z yX11_rests cX11_rests 6 .int 7 154 [.ref (za Z 0), .int a1, .int a2] S r S2 := by
  unfold F11_rests at hf
  refine eI (own := RX11) (by decide) rfl (Nat.le_of_ble_eq_true rfl) (fun p e s m args below meth c Q ls G hl hw hret => ?_)
  obtain ⟨hx, hb, hml, hown, hts⟩ := G.1
  have hl : lv_has ls 6 [(0, .ref (za Z 0)), (1, .int a1), (2, .int a2)] := hl
  refine lv_aload_n hx hb dX11_rests_0 rfl (lv_at hl 0 rfl) ?_
  refine gF G hw h0 KX11 0 (k2 := 1) rfl (by decide) rfl fl_X11_10 dX11_rests_1 ?_
  refine lv_iload_n hx hb dX11_rests_4 rfl (lv_at hl 1 rfl) ?_
  obtain ⟨r_1, hr_1, hf⟩ := bB_e hf
  refine kVq (rest := []) G hw (wX10_one hZ S 1 a1 r_1 (sub_PF_now hZ h0) hr_1) cw_X11_80 (sub_PF_now hZ h0) KX10 ⟨Nat.le_of_ble_eq_true rfl, Nat.le_of_ble_eq_true rfl⟩ rfl hl.1 rfl (Nat.le_of_ble_eq_true rfl) ⟨Nat.le_refl _, Nat.le_refl _⟩ dX11_rests_5 (fun H locs hw => ?_)
  refine astQn (lv' := [(3, va_rf (Option.map (za Z) r_1)), (0, .ref (za Z 0)), (1, .int a1), (2, .int a2)]) hx hb dX11_rests_8 rfl hl (by decide) rfl (fun ls hl => ?_)
  refine aldQn hx hb dX11_rests_9 rfl (lv_at hl 0 rfl) ?_
  refine ifnQ (tgt := 24) hx hb dX11_rests_10 (by decide) (fun e_20 => ?_) (fun o_2 e_20 => ?_)
  · subst e_20
    have hf := bO_n rfl hf
    refine lv_iconst hx hb dX11_rests_24 ki_m1 ?_
    obtain ⟨e1, e2⟩ := Prod.mk.inj (Option.some.inj hf)
    exact hret _ _ _ _ _ dX11_rests_25 e1 (by rw [← e2]; exact hw)
  · subst e_20
    have hf := bO_s rfl hf
    have ho_2 := ret_X10_one hZ S 1 a1 (sub_PF_now hZ h0) (hr_1.trans (congrArg some rfl))
    refine lv_iload_n hx hb dX11_rests_13 rfl (lv_at hl 3 rfl) ?_
    refine lv_iconst hx hb dX11_rests_14 ki_0 ?_
    refine lv_sipush hx hb dX11_rests_15 ks_1000 ?_
    refine kSi (rest := []) G hw (wX11_within hZ S a2 0 1000 (F11_within a2 0 1000) rfl) cw_X11_51 ⟨Nat.le_of_ble_eq_true rfl, Nat.le_of_ble_eq_true rfl⟩ rfl hl.1 rfl (Nat.le_of_ble_eq_true rfl) ⟨Nat.le_refl _, Nat.le_refl _⟩ dX11_rests_18 (fun H locs hw => ?_)
    refine lv_if_ne (tgt := 26) hx hb dX11_rests_21 (by decide) (fun c_19 => ?_) (fun c_19 => ?_)
    · have hf := (if_neg c_19).symm.trans hf
      refine lv_aload_n hx hb dX11_rests_26 rfl (lv_at hl 1 rfl) ?_
      refine gF G hw h0 KX11 3 (k2 := 63) rfl (by decide) rfl fl_X11_33 dX11_rests_27 ?_
      refine lv_aload_n hx hb dX11_rests_30 rfl (lv_at hl 0 rfl) ?_
      refine lv_aload_n hx hb dX11_rests_31 rfl (lv_at hl 1 rfl) ?_
      refine gF G hw h0 KX11 0 (k2 := 1) rfl (by decide) rfl fl_X11_10 dX11_rests_32 ?_
      refine gI G hw (sub_PF_now hZ h0) KX10 2 (by decide) rfl fl_X11_205 dX11_rests_35 ?_
      obtain ⟨S_3, hS_3, hf⟩ := bL_e hf
      refine kVv (rest := []) G hw (wX0_ask hZ S 63 o_2 (S 1 2) S_3 (sub_PF_arms hZ h0) ho_2 hS_3.symm) cw_X11_208 (sub_PF_arms hZ h0) KX0 ⟨Nat.le_of_ble_eq_true rfl, Nat.le_of_ble_eq_true rfl⟩ rfl hl.1 rfl (Nat.le_of_ble_eq_true rfl) ⟨Nat.le_refl _, Nat.le_refl _⟩ dX11_rests_38 (fun H locs hw => ?_)
      refine lv_aload_n hx hb dX11_rests_41 rfl (lv_at hl 0 rfl) ?_
      refine gI G hw ho_2 KX8 1 (by decide) rfl fl_X11_89 dX11_rests_42 ?_
      obtain ⟨l4_4, el4_4, hf⟩ := bL_e hf
      refine top_i el4_4 ?_
      refine lv_istore (lv' := [(4, .int l4_4), (3, .ref (za Z o_2)), (0, .ref (za Z 0)), (1, .int a1), (2, .int a2)]) hx hb dX11_rests_45 hl (by decide) rfl (fun ls hl => ?_)
      refine lv_iconst hx hb dX11_rests_47 ki_0 ?_
      refine lv_istore (lv' := [(5, .int 0), (4, .int l4_4), (3, .ref (za Z o_2)), (0, .ref (za Z 0)), (1, .int a1), (2, .int a2)]) hx hb dX11_rests_48 hl (by decide) rfl (fun ls hl => ?_)
      obtain ⟨g110_50, ej, hf⟩ := bL_e hf
      have R110_50 : ∀ (S_5 : pS) (H : Heap) (locs : List Loc) (ls : Array Slot), Wd Z s S_5 H locs → lv_has ls 6 [] → g110_50 S_5 = some (r, S2) → W p l e { frames := 7, cells := 0, slots := 0, locals := 154 } s m args below meth c H locs 0 0 Q (F0 m 110 ls []) := by
        intro S_5 H locs ls hw hl hf
        have hf := (congrFun ej S_5).symm.trans hf
        refine lv_iconst hx hb dX11_rests_110 ki_m1 ?_
        obtain ⟨e1, e2⟩ := Prod.mk.inj (Option.some.inj hf)
        exact hret _ _ _ _ _ dX11_rests_111 e1 (by rw [← e2]; exact hw)
      clear ej
      obtain ⟨g64_50, ej, hf⟩ := bL_e hf
      have R64_50 : ∀ (l5_6 : Int32) (S_7 : pS) (H : Heap) (locs : List Loc) (ls : Array Slot), Wd Z s S_7 H locs → lv_has ls 6 [(5, .int l5_6)] → g64_50 l5_6 S_7 = some (r, S2) → W p l e { frames := 7, cells := 0, slots := 0, locals := 154 } s m args below meth c H locs 0 0 Q (F0 m 64 ls []) := by
        intro l5_6 S_7 H locs ls hw hl hf
        have hf := (congrFun (congrFun ej l5_6) S_7).symm.trans hf
        refine lv_iload hx hb dX11_rests_64 (lv_at hl 0 rfl) ?_
        obtain ⟨e1, e2⟩ := Prod.mk.inj (Option.some.inj hf)
        exact hret _ _ _ _ _ dX11_rests_66 e1 (by rw [← e2]; exact hw)
      clear ej
      obtain ⟨b50, eb, hf⟩ := bL_e hf
      have RL50 : ∀ (n : Nat) z, (Sum.elim (u1 g110_50) (u2 g64_50)) z = some (r, S2) → ∀ (l4_8 : Int32) (l5_9 : Int32) (S_10 : pS) (H : Heap) (locs : List Loc) (ls : Array Slot), Wd Z s S_10 H locs → lv_has ls 6 [(0, .ref (za Z 0)), (2, .int a2), (3, .ref (za Z o_2)), (4, .int l4_8), (5, .int l5_9)] → bPn b50 n (l4_8, l5_9, S_10) = some z → W p l e { frames := 7, cells := 0, slots := 0, locals := 154 } s m args below meth c H locs 0 0 Q (F0 m 50 ls []) := by
        intro n
        induction n with
        | zero =>
          intro z hg l4_8 l5_9 S_10 H locs ls hw hl hz
          exact bPn_0 hz
        | succ n ih =>
          intro z hg l4_8 l5_9 S_10 H locs ls hw hl hz
          obtain ⟨q_11, hf, hz⟩ := bPn_e hz
          have hf := u3_e ((congrFun eb _).symm.trans hf)
          refine lv_iload hx hb dX11_rests_50 (lv_at hl 4 rfl) ?_
          refine lv_sipush hx hb dX11_rests_52 ks_400 ?_
          refine lv_icmp_gt (tgt := 110) hx hb dX11_rests_55 (by decide) (fun c_18 => ?_) (fun c_18 => ?_)
          · have hf := (if_pos c_18).symm.trans hf
            obtain rfl := Option.some.inj hf
            obtain rfl := Option.some.inj (hz : some _ = some _)
            exact R110_50 _ _ _ _ hw (lv_sub hl [] rfl) hg
          · have hf := (if_neg c_18).symm.trans hf
            refine lv_iload hx hb dX11_rests_58 (lv_at hl 3 rfl) ?_
            refine lv_iload_n hx hb dX11_rests_60 rfl (lv_at hl 1 rfl) ?_
            refine lv_icmp_gt (tgt := 67) hx hb dX11_rests_61 (by decide) (fun c_17 => ?_) (fun c_17 => ?_)
            · have hf := (if_pos c_17).symm.trans hf
              refine lv_aload_n hx hb dX11_rests_67 rfl (lv_at hl 0 rfl) ?_
              refine gF G hw h0 KX11 3 (k2 := 63) rfl (by decide) rfl fl_X11_33 dX11_rests_68 ?_
              refine lv_iload hx hb dX11_rests_71 (lv_at hl 3 rfl) ?_
              refine lv_aload_n hx hb dX11_rests_73 rfl (lv_at hl 2 rfl) ?_
              refine gI G hw ho_2 KX8 3 (by decide) rfl fl_X11_247 dX11_rests_74 ?_
              obtain ⟨S_12, hS_12, hf⟩ := bL_e hf
              refine kVv (rest := []) G hw (wX0_askState hZ S_10 63 l4_8 (S_10 o_2 3) S_12 (sub_PF_arms hZ h0) hS_12.symm) cw_X11_367 (sub_PF_arms hZ h0) KX0 ⟨Nat.le_of_ble_eq_true rfl, Nat.le_of_ble_eq_true rfl⟩ rfl hl.1 rfl (Nat.le_of_ble_eq_true rfl) ⟨Nat.le_refl _, Nat.le_refl _⟩ dX11_rests_77 (fun H locs hw => ?_)
              refine lv_iconst hx hb dX11_rests_80 ki_0 ?_
              refine lv_iload hx hb dX11_rests_81 (lv_at hl 3 rfl) ?_
              refine lv_aload_n hx hb dX11_rests_83 rfl (lv_at hl 0 rfl) ?_
              refine gF G hw h0 KX11 3 (k2 := 63) rfl (by decide) rfl fl_X11_33 dX11_rests_84 ?_
              refine lv_aload_n hx hb dX11_rests_87 rfl (lv_at hl 0 rfl) ?_
              refine gF G hw h0 KX11 0 (k2 := 1) rfl (by decide) rfl fl_X11_10 dX11_rests_88 ?_
              refine gF G hw (sub_PF_now hZ h0) KX10 15 (k2 := 15) rfl (by decide) rfl fl_X11_124 dX11_rests_91 ?_
              refine lv_iconst hx hb dX11_rests_94 ki_2 ?_
              obtain ⟨r_13, S_14, hr_13, hf⟩ := bB2_e hf
              refine kVi (rest := [.int l4_8, .int 0]) G hw (wX0_tell hZ S_12 63 15 2 r_13 S_14 (sub_PF_arms hZ h0) (sub_World_arms hZ (sub_PF_now hZ h0)) hr_13) cw_X11_216 (sub_PF_arms hZ h0) KX0 ⟨Nat.le_of_ble_eq_true rfl, Nat.le_of_ble_eq_true rfl⟩ rfl hl.1 rfl (Nat.le_of_ble_eq_true rfl) ⟨Nat.le_refl _, Nat.le_refl _⟩ dX11_rests_95 (fun H locs hw => ?_)
              refine lv_isub hx hb dX11_rests_98 ?_
              refine xmax G hl.1 ml_X11_256 (Nat.le_of_ble_eq_true rfl) (Nat.le_of_ble_eq_true rfl) ⟨Nat.le_refl _, Nat.le_refl _⟩ dX11_rests_99 ?_
              obtain ⟨l4_15, el4_15, hf⟩ := bL_e hf
              refine top_i el4_15 ?_
              refine lv_istore (lv' := [(4, .int l4_15), (0, .ref (za Z 0)), (2, .int a2), (3, .ref (za Z o_2)), (5, .int l5_9)]) hx hb dX11_rests_102 hl (by decide) rfl (fun ls hl => ?_)
              obtain ⟨l5_16, el5_16, hf⟩ := bL_e hf
              refine lv_iinc (v := l5_16) (lv' := [(5, .int l5_16), (4, .int l4_15), (0, .ref (za Z 0)), (2, .int a2), (3, .ref (za Z o_2))]) hx hb dX11_rests_104 hl (k := 4) rfl (by rw [el5_16]; rfl) (by decide) rfl (fun ls hl => ?_)
              refine lv_goto (tgt := 50) hx hb dX11_rests_107 (by decide) ?_
              obtain rfl := Option.some.inj hf
              exact ih _ hg _ _ _ _ _ _ hw (lv_sub hl [2, 3, 4, 1, 0] rfl) hz
            · have hf := (if_neg c_17).symm.trans hf
              obtain rfl := Option.some.inj hf
              obtain rfl := Option.some.inj (hz : some _ = some _)
              exact R64_50 _ _ _ _ _ hw (lv_sub hl [4] rfl) hg
      clear eb
      obtain ⟨z, hz, hf⟩ := bB_e hf
      obtain ⟨n, hz⟩ := bP_e hz
      exact RL50 n z hf _ _ _ _ _ _ hw (lv_sub hl [3, 5, 2, 1, 0] rfl) hz
    · have hf := (if_pos c_19).symm.trans hf
      refine lv_iconst hx hb dX11_rests_24 ki_m1 ?_
      obtain ⟨e1, e2⟩ := Prod.mk.inj (Option.some.inj hf)
      exact hret _ _ _ _ _ dX11_rests_25 e1 (by rw [← e2]; exact hw)

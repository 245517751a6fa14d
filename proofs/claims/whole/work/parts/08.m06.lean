noncomputable def F12_winds (S : pS) (a1 : Int32) (a2 : Int32) (a3 : Int32) (a4 : Int32) (a5 : Int32) : Option (Int64 × pS) :=
  if (F12_isForce a1) = 0 then
    some (((-1) : Int64), S)
  else
    if (F12_isIn a2 0 60) = 0 then
      some (((-1) : Int64), S)
    else
      if (F12_isSpear S a3) = 0 then
        some (((-1) : Int64), S)
      else
        if (F12_isIn a5 0 999) = 0 then
          some (((-1) : Int64), S)
        else
          bL (fun (l6_1 : Int64) (S_2 : pS) =>
            some (l6_1, S_2)) fun g118_48 =>
          bL (u3 fun (l6_3 : Int64) (l8_4 : Int32) (S_5 : pS) =>
            if 20 < l8_4 then
              some (.inr (l6_3, S_5))
            else
              bB (F12_weather S_5 1) fun r_7 =>
              bB (F12_flies S_5 a1 a2 0 a3 l8_4 r_7) fun S_8 =>
              bL (((S_8 0 30 : Int32).toInt64) - ((a4 : Int32).toInt64)) fun l9_9 =>
              bL (fun (l6_10 : Int64) =>
                bL (l8_4 + 1) fun l8_11 =>
                some (.inl (l6_10, l8_11, S_8))) fun j112 =>
              if ((a5 : Int32).toInt64) < l9_9 then
                j112 l6_3
              else
                if ((a5 : Int32).toInt64) < (-l9_9) then
                  j112 l6_3
                else
                  bL (l6_3 ||| ((1 : Int64) <<< ((l8_4 + 20 : Int32).toInt64 &&& 63))) fun l6_12 =>
                  j112 l6_12) fun b48 =>
          bB (bP b48 ((0 : Int64), ((-20) : Int32), S)) (u2 g118_48)
set_option maxRecDepth 100000 in
set_option maxHeartbeats 4000000 in
theorem wX12_winds {l : Launch} {Z : pZ}  (hZ : CM Z) (S : pS) (a1 : Int32) (a2 : Int32) (a3 : Int32) (a4 : Int32) (a5 : Int32) (r : Int64) (S2 : pS)  (hf : F12_winds S a1 a2 a3 a4 a5 = some (r, S2)) : CL l Z yX12_winds cX12_winds 11 8 183 [.ref (za Z 0), .int a1, .int a2, .int a3, .int a4, .int a5] S r S2 := by
  unfold F12_winds at hf
  refine eL (own := RX12) (by decide) rfl (Nat.le_of_ble_eq_true rfl) (fun p e s m args below meth c Q ls G hl hw hret => ?_)
  obtain ⟨hx, hb, hml, hown, hts⟩ := G.1
  have hl : lv_has ls 11 [(0, .ref (za Z 0)), (1, .int a1), (2, .int a2), (3, .int a3), (4, .int a4), (5, .int a5)] := hl
  refine lv_iload_n hx hb dX12_winds_0 rfl (lv_at hl 1 rfl) ?_
  refine kSi (rest := []) G hw (wX12_isForce hZ S a1 (F12_isForce a1) rfl) cw_X12_440 ⟨Nat.le_of_ble_eq_true rfl, Nat.le_of_ble_eq_true rfl⟩ rfl hl.1 rfl (Nat.le_of_ble_eq_true rfl) ⟨Nat.le_refl _, Nat.le_refl _⟩ dX12_winds_1 (fun H locs hw => ?_)
  refine lv_if_eq (tgt := 37) hx hb dX12_winds_4 (by decide) (fun c_19 => ?_) (fun c_19 => ?_)
  · have hf := (if_pos c_19).symm.trans hf
    refine lv_ldc2 hx hb hown (hts _ cl_X12_452) dX12_winds_37 ?_
    obtain ⟨e1, e2⟩ := Prod.mk.inj (Option.some.inj hf)
    exact hret _ _ _ _ _ dX12_winds_40 e1 (by rw [← e2]; exact hw)
  · have hf := (if_neg c_19).symm.trans hf
    refine lv_iload_n hx hb dX12_winds_7 rfl (lv_at hl 2 rfl) ?_
    refine lv_iconst hx hb dX12_winds_8 ki_0 ?_
    refine lv_bipush hx hb dX12_winds_9 kb_60 ?_
    refine kSi (rest := []) G hw (wX12_isIn hZ S a2 0 60 (F12_isIn a2 0 60) rfl) cw_X12_71 ⟨Nat.le_of_ble_eq_true rfl, Nat.le_of_ble_eq_true rfl⟩ rfl hl.1 rfl (Nat.le_of_ble_eq_true rfl) ⟨Nat.le_refl _, Nat.le_refl _⟩ dX12_winds_11 (fun H locs hw => ?_)
    refine lv_if_eq (tgt := 37) hx hb dX12_winds_14 (by decide) (fun c_18 => ?_) (fun c_18 => ?_)
    · have hf := (if_pos c_18).symm.trans hf
      refine lv_ldc2 hx hb hown (hts _ cl_X12_452) dX12_winds_37 ?_
      obtain ⟨e1, e2⟩ := Prod.mk.inj (Option.some.inj hf)
      exact hret _ _ _ _ _ dX12_winds_40 e1 (by rw [← e2]; exact hw)
    · have hf := (if_neg c_18).symm.trans hf
      refine lv_aload_n hx hb dX12_winds_17 rfl (lv_at hl 0 rfl) ?_
      refine lv_iload_n hx hb dX12_winds_18 rfl (lv_at hl 3 rfl) ?_
      refine kVi (rest := []) G hw (wX12_isSpear hZ S a3 (F12_isSpear S a3) rfl) cw_X12_401 (m_this hZ) KX12 ⟨Nat.le_of_ble_eq_true rfl, Nat.le_of_ble_eq_true rfl⟩ rfl hl.1 rfl (Nat.le_of_ble_eq_true rfl) ⟨Nat.le_refl _, Nat.le_refl _⟩ dX12_winds_19 (fun H locs hw => ?_)
      refine lv_if_eq (tgt := 37) hx hb dX12_winds_22 (by decide) (fun c_17 => ?_) (fun c_17 => ?_)
      · have hf := (if_pos c_17).symm.trans hf
        refine lv_ldc2 hx hb hown (hts _ cl_X12_452) dX12_winds_37 ?_
        obtain ⟨e1, e2⟩ := Prod.mk.inj (Option.some.inj hf)
        exact hret _ _ _ _ _ dX12_winds_40 e1 (by rw [← e2]; exact hw)
      · have hf := (if_neg c_17).symm.trans hf
        refine lv_iload hx hb dX12_winds_25 (lv_at hl 5 rfl) ?_
        refine lv_iconst hx hb dX12_winds_27 ki_0 ?_
        refine lv_sipush hx hb dX12_winds_28 ks_999 ?_
        refine kSi (rest := []) G hw (wX12_isIn hZ S a5 0 999 (F12_isIn a5 0 999) rfl) cw_X12_71 ⟨Nat.le_of_ble_eq_true rfl, Nat.le_of_ble_eq_true rfl⟩ rfl hl.1 rfl (Nat.le_of_ble_eq_true rfl) ⟨Nat.le_refl _, Nat.le_refl _⟩ dX12_winds_31 (fun H locs hw => ?_)
        refine lv_if_ne (tgt := 41) hx hb dX12_winds_34 (by decide) (fun c_16 => ?_) (fun c_16 => ?_)
        · have hf := (if_neg c_16).symm.trans hf
          refine lv_lconst (v := 0) hx hb dX12_winds_41 (by decide) ?_
          refine lv_lstore (lv' := [(6, .long 0), (0, .ref (za Z 0)), (1, .int a1), (2, .int a2), (3, .int a3), (4, .int a4), (5, .int a5)]) hx hb dX12_winds_42 hl (by decide) rfl (fun ls hl => ?_)
          refine lv_bipush hx hb dX12_winds_44 kb_m20 ?_
          refine lv_istore (lv' := [(8, .int (-20)), (6, .long 0), (0, .ref (za Z 0)), (1, .int a1), (2, .int a2), (3, .int a3), (4, .int a4), (5, .int a5)]) hx hb dX12_winds_46 hl (by decide) rfl (fun ls hl => ?_)
          obtain ⟨g118_48, ej, hf⟩ := bL_e hf
          have R118_48 : ∀ (l6_1 : Int64) (S_2 : pS) (H : Heap) (locs : List Loc) (ls : Array Slot), Wd Z s S_2 H locs → lv_has ls 11 [(6, .long l6_1)] → g118_48 l6_1 S_2 = some (r, S2) → W p l e { frames := 8, cells := 0, slots := 0, locals := 183 } s m args below meth c H locs 0 0 Q (F0 m 118 ls []) := by
            intro l6_1 S_2 H locs ls hw hl hf
            have hf := (congrFun (congrFun ej l6_1) S_2).symm.trans hf
            refine lv_lload hx hb dX12_winds_118 (lv_at hl 0 rfl) ?_
            obtain ⟨e1, e2⟩ := Prod.mk.inj (Option.some.inj hf)
            exact hret _ _ _ _ _ dX12_winds_120 e1 (by rw [← e2]; exact hw)
          clear ej
          obtain ⟨b48, eb, hf⟩ := bL_e hf
          have RL48 : ∀ (n : Nat) z, (u2 g118_48) z = some (r, S2) → ∀ (l6_3 : Int64) (l8_4 : Int32) (S_5 : pS) (H : Heap) (locs : List Loc) (ls : Array Slot), Wd Z s S_5 H locs → lv_has ls 11 [(0, .ref (za Z 0)), (1, .int a1), (2, .int a2), (3, .int a3), (4, .int a4), (5, .int a5), (6, .long l6_3), (8, .int l8_4)] → bPn b48 n (l6_3, l8_4, S_5) = some z → W p l e { frames := 8, cells := 0, slots := 0, locals := 183 } s m args below meth c H locs 0 0 Q (F0 m 48 ls []) := by
            intro n
            induction n with
            | zero =>
              intro z hg l6_3 l8_4 S_5 H locs ls hw hl hz
              exact bPn_0 hz
            | succ n ih =>
              intro z hg l6_3 l8_4 S_5 H locs ls hw hl hz
              obtain ⟨q_6, hf, hz⟩ := bPn_e hz
              have hf := u3_e ((congrFun eb _).symm.trans hf)
              refine lv_iload hx hb dX12_winds_48 (lv_at hl 7 rfl) ?_
              refine lv_bipush hx hb dX12_winds_50 kb_20 ?_
              refine lv_icmp_gt (tgt := 118) hx hb dX12_winds_52 (by decide) (fun c_15 => ?_) (fun c_15 => ?_)
              · have hf := (if_pos c_15).symm.trans hf
                obtain rfl := Option.some.inj hf
                obtain rfl := Option.some.inj (hz : some _ = some _)
                exact R118_48 _ _ _ _ _ hw (lv_sub hl [6] rfl) hg
              · have hf := (if_neg c_15).symm.trans hf
                refine lv_aload_n hx hb dX12_winds_55 rfl (lv_at hl 0 rfl) ?_
                refine lv_iload_n hx hb dX12_winds_56 rfl (lv_at hl 1 rfl) ?_
                refine lv_iload_n hx hb dX12_winds_57 rfl (lv_at hl 2 rfl) ?_
                refine lv_iconst hx hb dX12_winds_58 ki_0 ?_
                refine lv_iload_n hx hb dX12_winds_59 rfl (lv_at hl 3 rfl) ?_
                refine lv_iload hx hb dX12_winds_60 (lv_at hl 7 rfl) ?_
                refine lv_aload_n hx hb dX12_winds_62 rfl (lv_at hl 0 rfl) ?_
                refine lv_iconst hx hb dX12_winds_63 ki_1 ?_
                obtain ⟨r_7, hr_7, hf⟩ := bB_e hf
                refine kVi (rest := [.int l8_4, .int a3, .int 0, .int a2, .int a1, .ref (za Z 0)]) G hw (wX12_weather hZ S_5 1 r_7 hr_7) cw_X12_364 (m_this hZ) KX12 ⟨Nat.le_of_ble_eq_true rfl, Nat.le_of_ble_eq_true rfl⟩ rfl hl.1 rfl (Nat.le_of_ble_eq_true rfl) ⟨Nat.le_refl _, Nat.le_refl _⟩ dX12_winds_64 (fun H locs hw => ?_)
                obtain ⟨S_8, hS_8, hf⟩ := bB_e hf
                refine kVv (rest := []) G hw (wX12_flies hZ S_5 a1 a2 0 a3 l8_4 r_7 S_8 hS_8) cw_X12_389 (m_this hZ) KX12 ⟨Nat.le_of_ble_eq_true rfl, Nat.le_of_ble_eq_true rfl⟩ rfl hl.1 rfl (Nat.le_of_ble_eq_true rfl) ⟨Nat.le_refl _, Nat.le_refl _⟩ dX12_winds_67 (fun H locs hw => ?_)
                refine lv_aload_n hx hb dX12_winds_70 rfl (lv_at hl 0 rfl) ?_
                refine gI G hw (m_this hZ) KX12 30 (by decide) rfl fl_X12_341 dX12_winds_71 ?_
                refine lv_i2l hx hb dX12_winds_74 rfl ?_
                refine lv_iload hx hb dX12_winds_75 (lv_at hl 4 rfl) ?_
                refine lv_i2l hx hb dX12_winds_77 rfl ?_
                refine lv_lsub hx hb dX12_winds_78 ?_
                obtain ⟨l9_9, el9_9, hf⟩ := bL_e hf
                refine top_l el9_9 ?_
                refine lv_lstore (lv' := [(9, .long l9_9), (0, .ref (za Z 0)), (1, .int a1), (2, .int a2), (3, .int a3), (4, .int a4), (5, .int a5), (6, .long l6_3), (8, .int l8_4)]) hx hb dX12_winds_79 hl (by decide) rfl (fun ls hl => ?_)
                refine lv_lload hx hb dX12_winds_81 (lv_at hl 0 rfl) ?_
                refine lv_iload hx hb dX12_winds_83 (lv_at hl 6 rfl) ?_
                refine lv_i2l hx hb dX12_winds_85 rfl ?_
                refine W.lcmp hx hb dX12_winds_86 ?_
                obtain ⟨j112, ej, hf⟩ := bL_e hf
                have R112 : ∀ (l6_10 : Int64) (H : Heap) (locs : List Loc) (ls : Array Slot), Wd Z s S_8 H locs → lv_has ls 11 [(0, .ref (za Z 0)), (1, .int a1), (2, .int a2), (3, .int a3), (4, .int a4), (5, .int a5), (6, .long l6_10), (8, .int l8_4)] → j112 l6_10 = some q_6 → W p l e { frames := 8, cells := 0, slots := 0, locals := 183 } s m args below meth c H locs 0 0 Q (F0 m 112 ls []) := by
                  intro l6_10 H locs ls hw hl hf
                  have hf := (congrFun ej l6_10).symm.trans hf
                  obtain ⟨l8_11, el8_11, hf⟩ := bL_e hf
                  refine lv_iinc (v := l8_11) (lv' := [(8, .int l8_11), (0, .ref (za Z 0)), (1, .int a1), (2, .int a2), (3, .int a3), (4, .int a4), (5, .int a5), (6, .long l6_10)]) hx hb dX12_winds_112 hl (k := 7) rfl (by rw [el8_11]; rfl) (by decide) rfl (fun ls hl => ?_)
                  refine lv_goto (tgt := 48) hx hb dX12_winds_115 (by decide) ?_
                  obtain rfl := Option.some.inj hf
                  exact ih _ hg _ _ _ _ _ _ hw (lv_sub hl [1, 2, 3, 4, 5, 6, 7, 0] rfl) hz
                clear ej
                refine lv_if_gt (tgt := 112) hx hb dX12_winds_87 (by decide) (fun c_14 => ?_) (fun c_14 => ?_)
                · have hf := (if_pos ((lg_cmp_gt _ _).mp c_14)).symm.trans hf
                  exact R112 _ _ _ _ hw (lv_sub hl [1, 2, 3, 4, 5, 6, 7, 8] rfl) hf
                · have hf := (if_neg (fun q => c_14 ((lg_cmp_gt _ _).mpr q))).symm.trans hf
                  refine lv_lload hx hb dX12_winds_90 (lv_at hl 0 rfl) ?_
                  refine lv_lneg hx hb dX12_winds_92 ?_
                  refine lv_iload hx hb dX12_winds_93 (lv_at hl 6 rfl) ?_
                  refine lv_i2l hx hb dX12_winds_95 rfl ?_
                  refine W.lcmp hx hb dX12_winds_96 ?_
                  refine lv_if_gt (tgt := 112) hx hb dX12_winds_97 (by decide) (fun c_13 => ?_) (fun c_13 => ?_)
                  · have hf := (if_pos ((lg_cmp_gt _ _).mp c_13)).symm.trans hf
                    exact R112 _ _ _ _ hw (lv_sub hl [1, 2, 3, 4, 5, 6, 7, 8] rfl) hf
                  · have hf := (if_neg (fun q => c_13 ((lg_cmp_gt _ _).mpr q))).symm.trans hf
                    refine lv_lload hx hb dX12_winds_100 (lv_at hl 7 rfl) ?_
                    refine lv_lconst (v := 1) hx hb dX12_winds_102 (by decide) ?_
                    refine lv_iload hx hb dX12_winds_103 (lv_at hl 8 rfl) ?_
                    refine lv_bipush hx hb dX12_winds_105 kb_20 ?_
                    refine lv_iadd hx hb dX12_winds_107 ?_
                    refine lv_lshl hx hb dX12_winds_108 rfl ?_
                    refine lv_lor hx hb dX12_winds_109 ?_
                    obtain ⟨l6_12, el6_12, hf⟩ := bL_e hf
                    refine top_l el6_12 ?_
                    refine lv_lstore (lv' := [(6, .long l6_12), (9, .long l9_9), (0, .ref (za Z 0)), (1, .int a1), (2, .int a2), (3, .int a3), (4, .int a4), (5, .int a5), (8, .int l8_4)]) hx hb dX12_winds_110 hl (by decide) rfl (fun ls hl => ?_)
                    exact R112 _ _ _ _ hw (lv_sub hl [2, 3, 4, 5, 6, 7, 0, 8] rfl) hf
          clear eb
          obtain ⟨z, hz, hf⟩ := bB_e hf
          obtain ⟨n, hz⟩ := bP_e hz
          exact RL48 n z hf _ _ _ _ _ _ hw (lv_sub hl [2, 3, 4, 5, 6, 7, 1, 0] rfl) hz
        · have hf := (if_pos c_16).symm.trans hf
          refine lv_ldc2 hx hb hown (hts _ cl_X12_452) dX12_winds_37 ?_
          obtain ⟨e1, e2⟩ := Prod.mk.inj (Option.some.inj hf)
          exact hret _ _ _ _ _ dX12_winds_40 e1 (by rw [← e2]; exact hw)
noncomputable def F12_still (S : pS) (a1 : Int32) : Option (Int32 × pS) :=
  if (F12_isIn a1 0 ((S 1 2) - 1)) = 0 then
    some (((-1) : Int32), S)
  else
    bL (3296 + (10 * a1)) fun l2_1 =>
    bG (vp_in (l2_1 + 4) 4296) <|
    bG (vp_in (l2_1 + 5) 4296) <|
    bG (vp_in (l2_1 + 3) 4296) <|
    bB (F12_weather S 1) fun r_2 =>
    bB (F12_flies S (S 1 ((l2_1 + 4).toNatClampNeg)) (S 1 ((l2_1 + 5).toNatClampNeg)) 0 (S 1 ((l2_1 + 3).toNatClampNeg)) 0 r_2) fun S_3 =>
    some (S_3 0 30, S_3)
set_option maxRecDepth 100000 in
set_option maxHeartbeats 4000000 in
theorem wX12_still {l : Launch} {Z : pZ}  (hZ : CM Z) (S : pS) (a1 : Int32) (r : Int32) (S2 : pS)  (hf : F12_still S a1 = some (r, S2)) : CI l Z yX12_still cX12_still 3 .int 8 183 [.ref (za Z 0), .int a1] S r S2 := by
  unfold F12_still at hf
  refine eI (own := RX12) (by decide) rfl (Nat.le_of_ble_eq_true rfl) (fun p e s m args below meth c Q ls G hl hw hret => ?_)
  obtain ⟨hx, hb, hml, hown, hts⟩ := G.1
  have hl : lv_has ls 3 [(0, .ref (za Z 0)), (1, .int a1)] := hl
  refine lv_iload_n hx hb dX12_still_0 rfl (lv_at hl 1 rfl) ?_
  refine lv_iconst hx hb dX12_still_1 ki_0 ?_
  refine lv_aload_n hx hb dX12_still_2 rfl (lv_at hl 0 rfl) ?_
  refine gF G hw (m_this hZ) KX12 0 (k2 := 1) rfl (by decide) rfl fl_X12_7 dX12_still_3 ?_
  refine lv_iconst hx hb dX12_still_6 ki_2 ?_
  refine aI G hw (m_w hZ) (vin_e (by decide)) (j := 2) (by decide) dX12_still_7 ?_
  refine lv_iconst hx hb dX12_still_8 ki_1 ?_
  refine lv_isub hx hb dX12_still_9 ?_
  refine kSi (rest := []) G hw (wX12_isIn hZ S a1 0 ((S 1 2) - 1) (F12_isIn a1 0 ((S 1 2) - 1)) rfl) cw_X12_71 ⟨Nat.le_of_ble_eq_true rfl, Nat.le_of_ble_eq_true rfl⟩ rfl hl.1 rfl (Nat.le_of_ble_eq_true rfl) ⟨Nat.le_refl _, Nat.le_refl _⟩ dX12_still_10 (fun H locs hw => ?_)
  refine lv_if_ne (tgt := 18) hx hb dX12_still_13 (by decide) (fun c_4 => ?_) (fun c_4 => ?_)
  · have hf := (if_neg c_4).symm.trans hf
    refine lv_sipush hx hb dX12_still_18 ks_3296 ?_
    refine lv_bipush hx hb dX12_still_21 kb_10 ?_
    refine lv_iload_n hx hb dX12_still_23 rfl (lv_at hl 1 rfl) ?_
    refine lv_imul hx hb dX12_still_24 ?_
    refine lv_iadd hx hb dX12_still_25 ?_
    obtain ⟨l2_1, el2_1, hf⟩ := bL_e hf
    refine top_i el2_1 ?_
    refine lv_istore_n (lv' := [(2, .int l2_1), (0, .ref (za Z 0)), (1, .int a1)]) hx hb dX12_still_26 rfl hl (by decide) rfl (fun ls hl => ?_)
    refine lv_aload_n hx hb dX12_still_27 rfl (lv_at hl 1 rfl) ?_
    refine lv_aload_n hx hb dX12_still_28 rfl (lv_at hl 1 rfl) ?_
    refine gF G hw (m_this hZ) KX12 0 (k2 := 1) rfl (by decide) rfl fl_X12_7 dX12_still_29 ?_
    refine lv_iload_n hx hb dX12_still_32 rfl (lv_at hl 0 rfl) ?_
    refine lv_iconst hx hb dX12_still_33 ki_4 ?_
    refine lv_iadd hx hb dX12_still_34 ?_
    obtain ⟨hg1, hf⟩ := bG_e hf
    refine aI G hw (m_w hZ) hg1 (j := (l2_1 + 4).toNatClampNeg) rfl dX12_still_35 ?_
    refine lv_aload_n hx hb dX12_still_36 rfl (lv_at hl 1 rfl) ?_
    refine gF G hw (m_this hZ) KX12 0 (k2 := 1) rfl (by decide) rfl fl_X12_7 dX12_still_37 ?_
    refine lv_iload_n hx hb dX12_still_40 rfl (lv_at hl 0 rfl) ?_
    refine lv_iconst hx hb dX12_still_41 ki_5 ?_
    refine lv_iadd hx hb dX12_still_42 ?_
    obtain ⟨hg1, hf⟩ := bG_e hf
    refine aI G hw (m_w hZ) hg1 (j := (l2_1 + 5).toNatClampNeg) rfl dX12_still_43 ?_
    refine lv_iconst hx hb dX12_still_44 ki_0 ?_
    refine lv_aload_n hx hb dX12_still_45 rfl (lv_at hl 1 rfl) ?_
    refine gF G hw (m_this hZ) KX12 0 (k2 := 1) rfl (by decide) rfl fl_X12_7 dX12_still_46 ?_
    refine lv_iload_n hx hb dX12_still_49 rfl (lv_at hl 0 rfl) ?_
    refine lv_iconst hx hb dX12_still_50 ki_3 ?_
    refine lv_iadd hx hb dX12_still_51 ?_
    obtain ⟨hg1, hf⟩ := bG_e hf
    refine aI G hw (m_w hZ) hg1 (j := (l2_1 + 3).toNatClampNeg) rfl dX12_still_52 ?_
    refine lv_iconst hx hb dX12_still_53 ki_0 ?_
    refine lv_aload_n hx hb dX12_still_54 rfl (lv_at hl 1 rfl) ?_
    refine lv_iconst hx hb dX12_still_55 ki_1 ?_
    obtain ⟨r_2, hr_2, hf⟩ := bB_e hf
    refine kVi (rest := [.int 0, .int (S 1 ((l2_1 + 3).toNatClampNeg)), .int 0, .int (S 1 ((l2_1 + 5).toNatClampNeg)), .int (S 1 ((l2_1 + 4).toNatClampNeg)), .ref (za Z 0)]) G hw (wX12_weather hZ S 1 r_2 hr_2) cw_X12_364 (m_this hZ) KX12 ⟨Nat.le_of_ble_eq_true rfl, Nat.le_of_ble_eq_true rfl⟩ rfl hl.1 rfl (Nat.le_of_ble_eq_true rfl) ⟨Nat.le_refl _, Nat.le_refl _⟩ dX12_still_56 (fun H locs hw => ?_)
    obtain ⟨S_3, hS_3, hf⟩ := bB_e hf
    refine kVv (rest := []) G hw (wX12_flies hZ S (S 1 ((l2_1 + 4).toNatClampNeg)) (S 1 ((l2_1 + 5).toNatClampNeg)) 0 (S 1 ((l2_1 + 3).toNatClampNeg)) 0 r_2 S_3 hS_3) cw_X12_389 (m_this hZ) KX12 ⟨Nat.le_of_ble_eq_true rfl, Nat.le_of_ble_eq_true rfl⟩ rfl hl.1 rfl (Nat.le_of_ble_eq_true rfl) ⟨Nat.le_refl _, Nat.le_refl _⟩ dX12_still_59 (fun H locs hw => ?_)
    refine lv_aload_n hx hb dX12_still_62 rfl (lv_at hl 1 rfl) ?_
    refine gI G hw (m_this hZ) KX12 30 (by decide) rfl fl_X12_341 dX12_still_63 ?_
    obtain ⟨e1, e2⟩ := Prod.mk.inj (Option.some.inj hf)
    exact hret _ _ _ _ _ dX12_still_66 e1 (by rw [← e2]; exact hw)
  · have hf := (if_pos c_4).symm.trans hf
    refine lv_iconst hx hb dX12_still_16 ki_m1 ?_
    obtain ⟨e1, e2⟩ := Prod.mk.inj (Option.some.inj hf)
    exact hret _ _ _ _ _ dX12_still_17 e1 (by rw [← e2]; exact hw)
noncomputable def F12_laysMark (S : pS) (a1 : Int32) (a2 : Int32) (a3 : Int32) : Option (pS) :=
  bL (sU S 0 38 (-1)) fun S_1 =>
  bL (sU S_1 0 39 (-1)) fun S_2 =>
  bL (fun (S_3 : pS) =>
    some S_3) fun g97_13 =>
  bL (u2 fun (l4_4 : Int32) (S_5 : pS) =>
    if 100 ≤ l4_4 then
      some (.inr S_5)
    else
      if (S_5 0 38) = (-1) then
        bL (fun (S_7 : pS) =>
          bL (l4_4 + 1) fun l4_8 =>
          some (.inl (l4_8, S_7))) fun g91_31 =>
        bL (u2 fun (l5_9 : Int32) (S_10 : pS) =>
          if 60 < l5_9 then
            some (.inr S_10)
          else
            if (S_10 0 38) = (-1) then
              bB2 (F12_goodFar S_10 l4_4 l5_9 a1 a2) fun r_12 S_13 =>
              bL (fun (S_14 : pS) =>
                bL (l5_9 + 1) fun l5_15 =>
                some (.inl (l5_15, S_14))) fun j85 =>
              if r_12 = (-1) then
                j85 S_13
              else
                if a3 ≤ r_12 then
                  bL (sU S_13 0 38 l4_4) fun S_16 =>
                  bL (sU S_16 0 39 l5_9) fun S_17 =>
                  j85 S_17
                else
                  j85 S_13
            else
              some (.inr S_10)) fun b31 =>
        bB (bP b31 ((0 : Int32), S_5)) (u1 g91_31)
      else
        some (.inr S_5)) fun b13 =>
  bB (bP b13 ((0 : Int32), S_2)) (u1 g97_13)
set_option maxRecDepth 100000 in
set_option maxHeartbeats 4000000 in
theorem wX12_laysMark {l : Launch} {Z : pZ}  (hZ : CM Z) (S : pS) (a1 : Int32) (a2 : Int32) (a3 : Int32) (S2 : pS)  (hf : F12_laysMark S a1 a2 a3 = some S2) : CV l Z yX12_laysMark cX12_laysMark 7 9 207 [.ref (za Z 0), .int a1, .int a2, .int a3] S S2 := by
  unfold F12_laysMark at hf
  refine eV (own := RX12) (by decide) rfl (Nat.le_of_ble_eq_true rfl) (fun p e s m args below meth c Q ls G hl hw hret => ?_)
  obtain ⟨hx, hb, hml, hown, hts⟩ := G.1
  have hl : lv_has ls 7 [(0, .ref (za Z 0)), (1, .int a1), (2, .int a2), (3, .int a3)] := hl
  refine lv_aload_n hx hb dX12_laysMark_0 rfl (lv_at hl 0 rfl) ?_
  refine lv_iconst hx hb dX12_laysMark_1 ki_m1 ?_
  obtain ⟨S_1, eS_1, hf⟩ := bL_e hf
  refine pI G hw (m_this hZ) KX12 38 (by decide) rfl rfl rfl eS_1 fl_X12_454 dX12_laysMark_2 (fun H locs hw => ?_)
  refine lv_aload_n hx hb dX12_laysMark_5 rfl (lv_at hl 0 rfl) ?_
  refine lv_iconst hx hb dX12_laysMark_6 ki_m1 ?_
  obtain ⟨S_2, eS_2, hf⟩ := bL_e hf
  refine pI G hw (m_this hZ) KX12 39 (by decide) rfl rfl rfl eS_2 fl_X12_457 dX12_laysMark_7 (fun H locs hw => ?_)
  refine lv_iconst hx hb dX12_laysMark_10 ki_0 ?_
  refine lv_istore (lv' := [(4, .int 0), (0, .ref (za Z 0)), (1, .int a1), (2, .int a2), (3, .int a3)]) hx hb dX12_laysMark_11 hl (by decide) rfl (fun ls hl => ?_)
  obtain ⟨g97_13, ej, hf⟩ := bL_e hf
  have R97_13 : ∀ (S_3 : pS) (H : Heap) (locs : List Loc) (ls : Array Slot), Wd Z s S_3 H locs → lv_has ls 7 [] → g97_13 S_3 = some S2 → W p l e { frames := 9, cells := 0, slots := 0, locals := 207 } s m args below meth c H locs 0 0 Q (F0 m 97 ls []) := by
    intro S_3 H locs ls hw hl hf
    have hf := (congrFun ej S_3).symm.trans hf
    exact hret _ _ _ _ dX12_laysMark_97 (by rw [← (Option.some.inj hf)]; exact hw)
  clear ej
  obtain ⟨b13, eb, hf⟩ := bL_e hf
  have RL13 : ∀ (n : Nat) z, (u1 g97_13) z = some S2 → ∀ (l4_4 : Int32) (S_5 : pS) (H : Heap) (locs : List Loc) (ls : Array Slot), Wd Z s S_5 H locs → lv_has ls 7 [(0, .ref (za Z 0)), (1, .int a1), (2, .int a2), (3, .int a3), (4, .int l4_4)] → bPn b13 n (l4_4, S_5) = some z → W p l e { frames := 9, cells := 0, slots := 0, locals := 207 } s m args below meth c H locs 0 0 Q (F0 m 13 ls []) := by
    intro n
    induction n with
    | zero =>
      intro z hg l4_4 S_5 H locs ls hw hl hz
      exact bPn_0 hz
    | succ n ih =>
      intro z hg l4_4 S_5 H locs ls hw hl hz
      obtain ⟨q_6, hf, hz⟩ := bPn_e hz
      have hf := u2_e ((congrFun eb _).symm.trans hf)
      refine lv_iload hx hb dX12_laysMark_13 (lv_at hl 4 rfl) ?_
      refine lv_bipush hx hb dX12_laysMark_15 kb_100 ?_
      refine lv_icmp_ge (tgt := 97) hx hb dX12_laysMark_17 (by decide) (fun c_23 => ?_) (fun c_23 => ?_)
      · have hf := (if_pos c_23).symm.trans hf
        obtain rfl := Option.some.inj hf
        obtain rfl := Option.some.inj (hz : some _ = some _)
        exact R97_13 _ _ _ _ hw (lv_sub hl [] rfl) hg
      · have hf := (if_neg c_23).symm.trans hf
        refine lv_aload_n hx hb dX12_laysMark_20 rfl (lv_at hl 0 rfl) ?_
        refine gI G hw (m_this hZ) KX12 38 (by decide) rfl fl_X12_454 dX12_laysMark_21 ?_
        refine lv_iconst hx hb dX12_laysMark_24 ki_m1 ?_
        refine lv_icmp_ne (tgt := 97) hx hb dX12_laysMark_25 (by decide) (fun c_22 => ?_) (fun c_22 => ?_)
        · have hf := (if_neg c_22).symm.trans hf
          obtain rfl := Option.some.inj hf
          obtain rfl := Option.some.inj (hz : some _ = some _)
          exact R97_13 _ _ _ _ hw (lv_sub hl [] rfl) hg
        · have hf := (if_pos c_22).symm.trans hf
          refine lv_iconst hx hb dX12_laysMark_28 ki_0 ?_
          refine lv_istore (lv' := [(5, .int 0), (0, .ref (za Z 0)), (1, .int a1), (2, .int a2), (3, .int a3), (4, .int l4_4)]) hx hb dX12_laysMark_29 hl (by decide) rfl (fun ls hl => ?_)
          obtain ⟨g91_31, ej, hf⟩ := bL_e hf
          have R91_31 : ∀ (S_7 : pS) (H : Heap) (locs : List Loc) (ls : Array Slot), Wd Z s S_7 H locs → lv_has ls 7 [(0, .ref (za Z 0)), (1, .int a1), (2, .int a2), (3, .int a3), (4, .int l4_4)] → g91_31 S_7 = some q_6 → W p l e { frames := 9, cells := 0, slots := 0, locals := 207 } s m args below meth c H locs 0 0 Q (F0 m 91 ls []) := by
            intro S_7 H locs ls hw hl hf
            have hf := (congrFun ej S_7).symm.trans hf
            obtain ⟨l4_8, el4_8, hf⟩ := bL_e hf
            refine lv_iinc (v := l4_8) (lv' := [(4, .int l4_8), (0, .ref (za Z 0)), (1, .int a1), (2, .int a2), (3, .int a3)]) hx hb dX12_laysMark_91 hl (k := 4) rfl (by rw [el4_8]; rfl) (by decide) rfl (fun ls hl => ?_)
            refine lv_goto (tgt := 13) hx hb dX12_laysMark_94 (by decide) ?_
            obtain rfl := Option.some.inj hf
            exact ih _ hg _ _ _ _ _ hw (lv_sub hl [1, 2, 3, 4, 0] rfl) hz
          clear ej
          obtain ⟨b31, eb, hf⟩ := bL_e hf
          have RL31 : ∀ (n : Nat) z, (u1 g91_31) z = some q_6 → ∀ (l5_9 : Int32) (S_10 : pS) (H : Heap) (locs : List Loc) (ls : Array Slot), Wd Z s S_10 H locs → lv_has ls 7 [(0, .ref (za Z 0)), (1, .int a1), (2, .int a2), (3, .int a3), (4, .int l4_4), (5, .int l5_9)] → bPn b31 n (l5_9, S_10) = some z → W p l e { frames := 9, cells := 0, slots := 0, locals := 207 } s m args below meth c H locs 0 0 Q (F0 m 31 ls []) := by
            intro n
            induction n with
            | zero =>
              intro z hg l5_9 S_10 H locs ls hw hl hz
              exact bPn_0 hz
            | succ n ih =>
              intro z hg l5_9 S_10 H locs ls hw hl hz
              obtain ⟨q_11, hf, hz⟩ := bPn_e hz
              have hf := u2_e ((congrFun eb _).symm.trans hf)
              refine lv_iload hx hb dX12_laysMark_31 (lv_at hl 5 rfl) ?_
              refine lv_bipush hx hb dX12_laysMark_33 kb_60 ?_
              refine lv_icmp_gt (tgt := 91) hx hb dX12_laysMark_35 (by decide) (fun c_21 => ?_) (fun c_21 => ?_)
              · have hf := (if_pos c_21).symm.trans hf
                obtain rfl := Option.some.inj hf
                obtain rfl := Option.some.inj (hz : some _ = some _)
                exact R91_31 _ _ _ _ hw (lv_sub hl [0, 1, 2, 3, 4] rfl) hg
              · have hf := (if_neg c_21).symm.trans hf
                refine lv_aload_n hx hb dX12_laysMark_38 rfl (lv_at hl 0 rfl) ?_
                refine gI G hw (m_this hZ) KX12 38 (by decide) rfl fl_X12_454 dX12_laysMark_39 ?_
                refine lv_iconst hx hb dX12_laysMark_42 ki_m1 ?_
                refine lv_icmp_ne (tgt := 91) hx hb dX12_laysMark_43 (by decide) (fun c_20 => ?_) (fun c_20 => ?_)
                · have hf := (if_neg c_20).symm.trans hf
                  obtain rfl := Option.some.inj hf
                  obtain rfl := Option.some.inj (hz : some _ = some _)
                  exact R91_31 _ _ _ _ hw (lv_sub hl [0, 1, 2, 3, 4] rfl) hg
                · have hf := (if_pos c_20).symm.trans hf
                  refine lv_aload_n hx hb dX12_laysMark_46 rfl (lv_at hl 0 rfl) ?_
                  refine lv_iload hx hb dX12_laysMark_47 (lv_at hl 4 rfl) ?_
                  refine lv_iload hx hb dX12_laysMark_49 (lv_at hl 5 rfl) ?_
                  refine lv_iload_n hx hb dX12_laysMark_51 rfl (lv_at hl 1 rfl) ?_
                  refine lv_iload_n hx hb dX12_laysMark_52 rfl (lv_at hl 2 rfl) ?_
                  obtain ⟨r_12, S_13, hr_12, hf⟩ := bB2_e hf
                  refine kVi (rest := []) G hw (wX12_goodFar hZ S_10 l4_4 l5_9 a1 a2 r_12 S_13 hr_12) cw_X12_434 (m_this hZ) KX12 ⟨Nat.le_of_ble_eq_true rfl, Nat.le_of_ble_eq_true rfl⟩ rfl hl.1 rfl (Nat.le_of_ble_eq_true rfl) ⟨Nat.le_refl _, Nat.le_refl _⟩ dX12_laysMark_53 (fun H locs hw => ?_)
                  refine lv_istore (lv' := [(6, .int r_12), (0, .ref (za Z 0)), (1, .int a1), (2, .int a2), (3, .int a3), (4, .int l4_4), (5, .int l5_9)]) hx hb dX12_laysMark_56 hl (by decide) rfl (fun ls hl => ?_)
                  refine lv_iload hx hb dX12_laysMark_58 (lv_at hl 0 rfl) ?_
                  refine lv_iconst hx hb dX12_laysMark_60 ki_m1 ?_
                  obtain ⟨j85, ej, hf⟩ := bL_e hf
                  have R85 : ∀ (S_14 : pS) (H : Heap) (locs : List Loc) (ls : Array Slot), Wd Z s S_14 H locs → lv_has ls 7 [(0, .ref (za Z 0)), (1, .int a1), (2, .int a2), (3, .int a3), (4, .int l4_4), (5, .int l5_9)] → j85 S_14 = some q_11 → W p l e { frames := 9, cells := 0, slots := 0, locals := 207 } s m args below meth c H locs 0 0 Q (F0 m 85 ls []) := by
                    intro S_14 H locs ls hw hl hf
                    have hf := (congrFun ej S_14).symm.trans hf
                    obtain ⟨l5_15, el5_15, hf⟩ := bL_e hf
                    refine lv_iinc (v := l5_15) (lv' := [(5, .int l5_15), (0, .ref (za Z 0)), (1, .int a1), (2, .int a2), (3, .int a3), (4, .int l4_4)]) hx hb dX12_laysMark_85 hl (k := 5) rfl (by rw [el5_15]; rfl) (by decide) rfl (fun ls hl => ?_)
                    refine lv_goto (tgt := 31) hx hb dX12_laysMark_88 (by decide) ?_
                    obtain rfl := Option.some.inj hf
                    exact ih _ hg _ _ _ _ _ hw (lv_sub hl [1, 2, 3, 4, 5, 0] rfl) hz
                  clear ej
                  refine lv_icmp_eq (tgt := 85) hx hb dX12_laysMark_61 (by decide) (fun c_19 => ?_) (fun c_19 => ?_)
                  · have hf := (if_pos c_19).symm.trans hf
                    exact R85 _ _ _ _ hw (lv_sub hl [1, 2, 3, 4, 5, 6] rfl) hf
                  · have hf := (if_neg c_19).symm.trans hf
                    refine lv_iload hx hb dX12_laysMark_64 (lv_at hl 0 rfl) ?_
                    refine lv_iload_n hx hb dX12_laysMark_66 rfl (lv_at hl 4 rfl) ?_
                    refine lv_icmp_ge (tgt := 73) hx hb dX12_laysMark_67 (by decide) (fun c_18 => ?_) (fun c_18 => ?_)
                    · have hf := (if_pos c_18).symm.trans hf
                      refine lv_aload_n hx hb dX12_laysMark_73 rfl (lv_at hl 1 rfl) ?_
                      refine lv_iload hx hb dX12_laysMark_74 (lv_at hl 5 rfl) ?_
                      obtain ⟨S_16, eS_16, hf⟩ := bL_e hf
                      refine pI G hw (m_this hZ) KX12 38 (by decide) rfl rfl rfl eS_16 fl_X12_454 dX12_laysMark_76 (fun H locs hw => ?_)
                      refine lv_aload_n hx hb dX12_laysMark_79 rfl (lv_at hl 1 rfl) ?_
                      refine lv_iload hx hb dX12_laysMark_80 (lv_at hl 6 rfl) ?_
                      obtain ⟨S_17, eS_17, hf⟩ := bL_e hf
                      refine pI G hw (m_this hZ) KX12 39 (by decide) rfl rfl rfl eS_17 fl_X12_457 dX12_laysMark_82 (fun H locs hw => ?_)
                      exact R85 _ _ _ _ hw (lv_sub hl [1, 2, 3, 4, 5, 6] rfl) hf
                    · have hf := (if_neg c_18).symm.trans hf
                      refine lv_goto (tgt := 85) hx hb dX12_laysMark_70 (by decide) ?_
                      exact R85 _ _ _ _ hw (lv_sub hl [1, 2, 3, 4, 5, 6] rfl) hf
          clear eb
          obtain ⟨z, hz, hf⟩ := bB_e hf
          obtain ⟨n, hz⟩ := bP_e hz
          exact RL31 n z hf _ _ _ _ _ hw (lv_sub hl [1, 2, 3, 4, 5, 0] rfl) hz
  clear eb
  obtain ⟨z, hz, hf⟩ := bB_e hf
  obtain ⟨n, hz⟩ := bP_e hz
  exact RL13 n z hf _ _ _ _ _ hw (lv_sub hl [1, 2, 3, 4, 0] rfl) hz
noncomputable def F12_leastForce (S : pS) (a1 : Int32) (a2 : Int32) (a3 : Int32) (a4 : Int32) : Option (Int32 × pS) :=
  if (F12_isSpear S a1) = 0 then
    some (((-1) : Int32), S)
  else
    if (F12_isWind a2) = 0 then
      some (((-1) : Int32), S)
    else
      if (F12_isIn a4 0 1) = 0 then
        some (((-1) : Int32), S)
      else
        bB (F12_laysMark S a1 a2 a3) fun S_1 =>
        if a4 = 0 then
          some (S_1 0 38, S_1)
        else
          some (S_1 0 39, S_1)
set_option maxRecDepth 100000 in
set_option maxHeartbeats 4000000 in
theorem wX12_leastForce {l : Launch} {Z : pZ}  (hZ : CM Z) (S : pS) (a1 : Int32) (a2 : Int32) (a3 : Int32) (a4 : Int32) (r : Int32) (S2 : pS)  (hf : F12_leastForce S a1 a2 a3 a4 = some (r, S2)) : CI l Z yX12_leastForce cX12_leastForce 5 .int 10 233 [.ref (za Z 0), .int a1, .int a2, .int a3, .int a4] S r S2 := by
  unfold F12_leastForce at hf
  refine eI (own := RX12) (by decide) rfl (Nat.le_of_ble_eq_true rfl) (fun p e s m args below meth c Q ls G hl hw hret => ?_)
  obtain ⟨hx, hb, hml, hown, hts⟩ := G.1
  have hl : lv_has ls 5 [(0, .ref (za Z 0)), (1, .int a1), (2, .int a2), (3, .int a3), (4, .int a4)] := hl
  refine lv_aload_n hx hb dX12_leastForce_0 rfl (lv_at hl 0 rfl) ?_
  refine lv_iload_n hx hb dX12_leastForce_1 rfl (lv_at hl 1 rfl) ?_
  refine kVi (rest := []) G hw (wX12_isSpear hZ S a1 (F12_isSpear S a1) rfl) cw_X12_401 (m_this hZ) KX12 ⟨Nat.le_of_ble_eq_true rfl, Nat.le_of_ble_eq_true rfl⟩ rfl hl.1 rfl (Nat.le_of_ble_eq_true rfl) ⟨Nat.le_refl _, Nat.le_refl _⟩ dX12_leastForce_2 (fun H locs hw => ?_)
  refine lv_if_eq (tgt := 25) hx hb dX12_leastForce_5 (by decide) (fun c_5 => ?_) (fun c_5 => ?_)
  · have hf := (if_pos c_5).symm.trans hf
    refine lv_iconst hx hb dX12_leastForce_25 ki_m1 ?_
    obtain ⟨e1, e2⟩ := Prod.mk.inj (Option.some.inj hf)
    exact hret _ _ _ _ _ dX12_leastForce_26 e1 (by rw [← e2]; exact hw)
  · have hf := (if_neg c_5).symm.trans hf
    refine lv_iload_n hx hb dX12_leastForce_8 rfl (lv_at hl 2 rfl) ?_
    refine kSi (rest := []) G hw (wX12_isWind hZ S a2 (F12_isWind a2) rfl) cw_X12_443 ⟨Nat.le_of_ble_eq_true rfl, Nat.le_of_ble_eq_true rfl⟩ rfl hl.1 rfl (Nat.le_of_ble_eq_true rfl) ⟨Nat.le_refl _, Nat.le_refl _⟩ dX12_leastForce_9 (fun H locs hw => ?_)
    refine lv_if_eq (tgt := 25) hx hb dX12_leastForce_12 (by decide) (fun c_4 => ?_) (fun c_4 => ?_)
    · have hf := (if_pos c_4).symm.trans hf
      refine lv_iconst hx hb dX12_leastForce_25 ki_m1 ?_
      obtain ⟨e1, e2⟩ := Prod.mk.inj (Option.some.inj hf)
      exact hret _ _ _ _ _ dX12_leastForce_26 e1 (by rw [← e2]; exact hw)
    · have hf := (if_neg c_4).symm.trans hf
      refine lv_iload hx hb dX12_leastForce_15 (lv_at hl 4 rfl) ?_
      refine lv_iconst hx hb dX12_leastForce_17 ki_0 ?_
      refine lv_iconst hx hb dX12_leastForce_18 ki_1 ?_
      refine kSi (rest := []) G hw (wX12_isIn hZ S a4 0 1 (F12_isIn a4 0 1) rfl) cw_X12_71 ⟨Nat.le_of_ble_eq_true rfl, Nat.le_of_ble_eq_true rfl⟩ rfl hl.1 rfl (Nat.le_of_ble_eq_true rfl) ⟨Nat.le_refl _, Nat.le_refl _⟩ dX12_leastForce_19 (fun H locs hw => ?_)
      refine lv_if_ne (tgt := 27) hx hb dX12_leastForce_22 (by decide) (fun c_3 => ?_) (fun c_3 => ?_)
      · have hf := (if_neg c_3).symm.trans hf
        refine lv_aload_n hx hb dX12_leastForce_27 rfl (lv_at hl 0 rfl) ?_
        refine lv_iload_n hx hb dX12_leastForce_28 rfl (lv_at hl 1 rfl) ?_
        refine lv_iload_n hx hb dX12_leastForce_29 rfl (lv_at hl 2 rfl) ?_
        refine lv_iload_n hx hb dX12_leastForce_30 rfl (lv_at hl 3 rfl) ?_
        obtain ⟨S_1, hS_1, hf⟩ := bB_e hf
        refine kVv (rest := []) G hw (wX12_laysMark hZ S a1 a2 a3 S_1 hS_1) cw_X12_460 (m_this hZ) KX12 ⟨Nat.le_of_ble_eq_true rfl, Nat.le_of_ble_eq_true rfl⟩ rfl hl.1 rfl (Nat.le_of_ble_eq_true rfl) ⟨Nat.le_refl _, Nat.le_refl _⟩ dX12_leastForce_31 (fun H locs hw => ?_)
        refine lv_iload hx hb dX12_leastForce_34 (lv_at hl 4 rfl) ?_
        refine lv_if_ne (tgt := 46) hx hb dX12_leastForce_36 (by decide) (fun c_2 => ?_) (fun c_2 => ?_)
        · have hf := (if_neg c_2).symm.trans hf
          refine lv_aload_n hx hb dX12_leastForce_46 rfl (lv_at hl 0 rfl) ?_
          refine gI G hw (m_this hZ) KX12 39 (by decide) rfl fl_X12_457 dX12_leastForce_47 ?_
          obtain ⟨e1, e2⟩ := Prod.mk.inj (Option.some.inj hf)
          exact hret _ _ _ _ _ dX12_leastForce_50 e1 (by rw [← e2]; exact hw)
        · have hf := (if_pos c_2).symm.trans hf
          refine lv_aload_n hx hb dX12_leastForce_39 rfl (lv_at hl 0 rfl) ?_
          refine gI G hw (m_this hZ) KX12 38 (by decide) rfl fl_X12_454 dX12_leastForce_40 ?_
          refine lv_goto (tgt := 50) hx hb dX12_leastForce_43 (by decide) ?_
          obtain ⟨e1, e2⟩ := Prod.mk.inj (Option.some.inj hf)
          exact hret _ _ _ _ _ dX12_leastForce_50 e1 (by rw [← e2]; exact hw)
      · have hf := (if_pos c_3).symm.trans hf
        refine lv_iconst hx hb dX12_leastForce_25 ki_m1 ?_
        obtain ⟨e1, e2⟩ := Prod.mk.inj (Option.some.inj hf)
        exact hret _ _ _ _ _ dX12_leastForce_26 e1 (by rw [← e2]; exact hw)
noncomputable def F12_better (S : pS) (a1 : Int32) (a2 : Int32) (a3 : Int32) (a4 : Int32) : Option (Int64 × pS) :=
  if (F12_isForce a1) = 0 then
    some (((-1) : Int64), S)
  else
    if (F12_isIn a2 0 60) = 0 then
      some (((-1) : Int64), S)
    else
      if (F12_isSpear S a3) = 0 then
        some (((-1) : Int64), S)
      else
        if (F12_isSpear S a4) = 0 then
          some (((-1) : Int64), S)
        else
          bL (fun (l5_1 : Int64) (S_2 : pS) =>
            some (l5_1, S_2)) fun g92_45 =>
          bL (u3 fun (l5_3 : Int64) (l7_4 : Int32) (S_5 : pS) =>
            if 20 < l7_4 then
              some (.inr (l5_3, S_5))
            else
              bB2 (F12_goodFar S_5 a1 a2 a3 l7_4) fun r_7 S_8 =>
              bB2 (F12_goodFar S_8 a1 a2 a4 l7_4) fun r_9 S_10 =>
              bL (fun (l5_11 : Int64) =>
                bL (l7_4 + 1) fun l7_12 =>
                some (.inl (l5_11, l7_12, S_10))) fun j86 =>
              if r_7 ≤ r_9 then
                j86 l5_3
              else
                bL (l5_3 ||| ((1 : Int64) <<< ((l7_4 + 20 : Int32).toInt64 &&& 63))) fun l5_13 =>
                j86 l5_13) fun b45 =>
          bB (bP b45 ((0 : Int64), ((-20) : Int32), S)) (u2 g92_45)
set_option maxRecDepth 100000 in
set_option maxHeartbeats 4000000 in
theorem wX12_better {l : Launch} {Z : pZ}  (hZ : CM Z) (S : pS) (a1 : Int32) (a2 : Int32) (a3 : Int32) (a4 : Int32) (r : Int64) (S2 : pS)  (hf : F12_better S a1 a2 a3 a4 = some (r, S2)) : CL l Z yX12_better cX12_better 8 9 207 [.ref (za Z 0), .int a1, .int a2, .int a3, .int a4] S r S2 := by
  unfold F12_better at hf
  refine eL (own := RX12) (by decide) rfl (Nat.le_of_ble_eq_true rfl) (fun p e s m args below meth c Q ls G hl hw hret => ?_)
  obtain ⟨hx, hb, hml, hown, hts⟩ := G.1
  have hl : lv_has ls 8 [(0, .ref (za Z 0)), (1, .int a1), (2, .int a2), (3, .int a3), (4, .int a4)] := hl
  refine lv_iload_n hx hb dX12_better_0 rfl (lv_at hl 1 rfl) ?_
  refine kSi (rest := []) G hw (wX12_isForce hZ S a1 (F12_isForce a1) rfl) cw_X12_440 ⟨Nat.le_of_ble_eq_true rfl, Nat.le_of_ble_eq_true rfl⟩ rfl hl.1 rfl (Nat.le_of_ble_eq_true rfl) ⟨Nat.le_refl _, Nat.le_refl _⟩ dX12_better_1 (fun H locs hw => ?_)
  refine lv_if_eq (tgt := 34) hx hb dX12_better_4 (by decide) (fun c_19 => ?_) (fun c_19 => ?_)
  · have hf := (if_pos c_19).symm.trans hf
    refine lv_ldc2 hx hb hown (hts _ cl_X12_452) dX12_better_34 ?_
    obtain ⟨e1, e2⟩ := Prod.mk.inj (Option.some.inj hf)
    exact hret _ _ _ _ _ dX12_better_37 e1 (by rw [← e2]; exact hw)
  · have hf := (if_neg c_19).symm.trans hf
    refine lv_iload_n hx hb dX12_better_7 rfl (lv_at hl 2 rfl) ?_
    refine lv_iconst hx hb dX12_better_8 ki_0 ?_
    refine lv_bipush hx hb dX12_better_9 kb_60 ?_
    refine kSi (rest := []) G hw (wX12_isIn hZ S a2 0 60 (F12_isIn a2 0 60) rfl) cw_X12_71 ⟨Nat.le_of_ble_eq_true rfl, Nat.le_of_ble_eq_true rfl⟩ rfl hl.1 rfl (Nat.le_of_ble_eq_true rfl) ⟨Nat.le_refl _, Nat.le_refl _⟩ dX12_better_11 (fun H locs hw => ?_)
    refine lv_if_eq (tgt := 34) hx hb dX12_better_14 (by decide) (fun c_18 => ?_) (fun c_18 => ?_)
    · have hf := (if_pos c_18).symm.trans hf
      refine lv_ldc2 hx hb hown (hts _ cl_X12_452) dX12_better_34 ?_
      obtain ⟨e1, e2⟩ := Prod.mk.inj (Option.some.inj hf)
      exact hret _ _ _ _ _ dX12_better_37 e1 (by rw [← e2]; exact hw)
    · have hf := (if_neg c_18).symm.trans hf
      refine lv_aload_n hx hb dX12_better_17 rfl (lv_at hl 0 rfl) ?_
      refine lv_iload_n hx hb dX12_better_18 rfl (lv_at hl 3 rfl) ?_
      refine kVi (rest := []) G hw (wX12_isSpear hZ S a3 (F12_isSpear S a3) rfl) cw_X12_401 (m_this hZ) KX12 ⟨Nat.le_of_ble_eq_true rfl, Nat.le_of_ble_eq_true rfl⟩ rfl hl.1 rfl (Nat.le_of_ble_eq_true rfl) ⟨Nat.le_refl _, Nat.le_refl _⟩ dX12_better_19 (fun H locs hw => ?_)
      refine lv_if_eq (tgt := 34) hx hb dX12_better_22 (by decide) (fun c_17 => ?_) (fun c_17 => ?_)
      · have hf := (if_pos c_17).symm.trans hf
        refine lv_ldc2 hx hb hown (hts _ cl_X12_452) dX12_better_34 ?_
        obtain ⟨e1, e2⟩ := Prod.mk.inj (Option.some.inj hf)
        exact hret _ _ _ _ _ dX12_better_37 e1 (by rw [← e2]; exact hw)
      · have hf := (if_neg c_17).symm.trans hf
        refine lv_aload_n hx hb dX12_better_25 rfl (lv_at hl 0 rfl) ?_
        refine lv_iload hx hb dX12_better_26 (lv_at hl 4 rfl) ?_
        refine kVi (rest := []) G hw (wX12_isSpear hZ S a4 (F12_isSpear S a4) rfl) cw_X12_401 (m_this hZ) KX12 ⟨Nat.le_of_ble_eq_true rfl, Nat.le_of_ble_eq_true rfl⟩ rfl hl.1 rfl (Nat.le_of_ble_eq_true rfl) ⟨Nat.le_refl _, Nat.le_refl _⟩ dX12_better_28 (fun H locs hw => ?_)
        refine lv_if_ne (tgt := 38) hx hb dX12_better_31 (by decide) (fun c_16 => ?_) (fun c_16 => ?_)
        · have hf := (if_neg c_16).symm.trans hf
          refine lv_lconst (v := 0) hx hb dX12_better_38 (by decide) ?_
          refine lv_lstore (lv' := [(5, .long 0), (0, .ref (za Z 0)), (1, .int a1), (2, .int a2), (3, .int a3), (4, .int a4)]) hx hb dX12_better_39 hl (by decide) rfl (fun ls hl => ?_)
          refine lv_bipush hx hb dX12_better_41 kb_m20 ?_
          refine lv_istore (lv' := [(7, .int (-20)), (5, .long 0), (0, .ref (za Z 0)), (1, .int a1), (2, .int a2), (3, .int a3), (4, .int a4)]) hx hb dX12_better_43 hl (by decide) rfl (fun ls hl => ?_)
          obtain ⟨g92_45, ej, hf⟩ := bL_e hf
          have R92_45 : ∀ (l5_1 : Int64) (S_2 : pS) (H : Heap) (locs : List Loc) (ls : Array Slot), Wd Z s S_2 H locs → lv_has ls 8 [(5, .long l5_1)] → g92_45 l5_1 S_2 = some (r, S2) → W p l e { frames := 9, cells := 0, slots := 0, locals := 207 } s m args below meth c H locs 0 0 Q (F0 m 92 ls []) := by
            intro l5_1 S_2 H locs ls hw hl hf
            have hf := (congrFun (congrFun ej l5_1) S_2).symm.trans hf
            refine lv_lload hx hb dX12_better_92 (lv_at hl 0 rfl) ?_
            obtain ⟨e1, e2⟩ := Prod.mk.inj (Option.some.inj hf)
            exact hret _ _ _ _ _ dX12_better_94 e1 (by rw [← e2]; exact hw)
          clear ej
          obtain ⟨b45, eb, hf⟩ := bL_e hf
          have RL45 : ∀ (n : Nat) z, (u2 g92_45) z = some (r, S2) → ∀ (l5_3 : Int64) (l7_4 : Int32) (S_5 : pS) (H : Heap) (locs : List Loc) (ls : Array Slot), Wd Z s S_5 H locs → lv_has ls 8 [(0, .ref (za Z 0)), (1, .int a1), (2, .int a2), (3, .int a3), (4, .int a4), (5, .long l5_3), (7, .int l7_4)] → bPn b45 n (l5_3, l7_4, S_5) = some z → W p l e { frames := 9, cells := 0, slots := 0, locals := 207 } s m args below meth c H locs 0 0 Q (F0 m 45 ls []) := by
            intro n
            induction n with
            | zero =>
              intro z hg l5_3 l7_4 S_5 H locs ls hw hl hz
              exact bPn_0 hz
            | succ n ih =>
              intro z hg l5_3 l7_4 S_5 H locs ls hw hl hz
              obtain ⟨q_6, hf, hz⟩ := bPn_e hz
              have hf := u3_e ((congrFun eb _).symm.trans hf)
              refine lv_iload hx hb dX12_better_45 (lv_at hl 6 rfl) ?_
              refine lv_bipush hx hb dX12_better_47 kb_20 ?_
              refine lv_icmp_gt (tgt := 92) hx hb dX12_better_49 (by decide) (fun c_15 => ?_) (fun c_15 => ?_)
              · have hf := (if_pos c_15).symm.trans hf
                obtain rfl := Option.some.inj hf
                obtain rfl := Option.some.inj (hz : some _ = some _)
                exact R92_45 _ _ _ _ _ hw (lv_sub hl [5] rfl) hg
              · have hf := (if_neg c_15).symm.trans hf
                refine lv_aload_n hx hb dX12_better_52 rfl (lv_at hl 0 rfl) ?_
                refine lv_iload_n hx hb dX12_better_53 rfl (lv_at hl 1 rfl) ?_
                refine lv_iload_n hx hb dX12_better_54 rfl (lv_at hl 2 rfl) ?_
                refine lv_iload_n hx hb dX12_better_55 rfl (lv_at hl 3 rfl) ?_
                refine lv_iload hx hb dX12_better_56 (lv_at hl 6 rfl) ?_
                obtain ⟨r_7, S_8, hr_7, hf⟩ := bB2_e hf
                refine kVi (rest := []) G hw (wX12_goodFar hZ S_5 a1 a2 a3 l7_4 r_7 S_8 hr_7) cw_X12_434 (m_this hZ) KX12 ⟨Nat.le_of_ble_eq_true rfl, Nat.le_of_ble_eq_true rfl⟩ rfl hl.1 rfl (Nat.le_of_ble_eq_true rfl) ⟨Nat.le_refl _, Nat.le_refl _⟩ dX12_better_58 (fun H locs hw => ?_)
                refine lv_aload_n hx hb dX12_better_61 rfl (lv_at hl 0 rfl) ?_
                refine lv_iload_n hx hb dX12_better_62 rfl (lv_at hl 1 rfl) ?_
                refine lv_iload_n hx hb dX12_better_63 rfl (lv_at hl 2 rfl) ?_
                refine lv_iload hx hb dX12_better_64 (lv_at hl 4 rfl) ?_
                refine lv_iload hx hb dX12_better_66 (lv_at hl 6 rfl) ?_
                obtain ⟨r_9, S_10, hr_9, hf⟩ := bB2_e hf
                refine kVi (rest := [.int r_7]) G hw (wX12_goodFar hZ S_8 a1 a2 a4 l7_4 r_9 S_10 hr_9) cw_X12_434 (m_this hZ) KX12 ⟨Nat.le_of_ble_eq_true rfl, Nat.le_of_ble_eq_true rfl⟩ rfl hl.1 rfl (Nat.le_of_ble_eq_true rfl) ⟨Nat.le_refl _, Nat.le_refl _⟩ dX12_better_68 (fun H locs hw => ?_)
                obtain ⟨j86, ej, hf⟩ := bL_e hf
                have R86 : ∀ (l5_11 : Int64) (H : Heap) (locs : List Loc) (ls : Array Slot), Wd Z s S_10 H locs → lv_has ls 8 [(0, .ref (za Z 0)), (1, .int a1), (2, .int a2), (3, .int a3), (4, .int a4), (5, .long l5_11), (7, .int l7_4)] → j86 l5_11 = some q_6 → W p l e { frames := 9, cells := 0, slots := 0, locals := 207 } s m args below meth c H locs 0 0 Q (F0 m 86 ls []) := by
                  intro l5_11 H locs ls hw hl hf
                  have hf := (congrFun ej l5_11).symm.trans hf
                  obtain ⟨l7_12, el7_12, hf⟩ := bL_e hf
                  refine lv_iinc (v := l7_12) (lv' := [(7, .int l7_12), (0, .ref (za Z 0)), (1, .int a1), (2, .int a2), (3, .int a3), (4, .int a4), (5, .long l5_11)]) hx hb dX12_better_86 hl (k := 6) rfl (by rw [el7_12]; rfl) (by decide) rfl (fun ls hl => ?_)
                  refine lv_goto (tgt := 45) hx hb dX12_better_89 (by decide) ?_
                  obtain rfl := Option.some.inj hf
                  exact ih _ hg _ _ _ _ _ _ hw (lv_sub hl [1, 2, 3, 4, 5, 6, 0] rfl) hz
                clear ej
                refine lv_icmp_le (tgt := 86) hx hb dX12_better_71 (by decide) (fun c_14 => ?_) (fun c_14 => ?_)
                · have hf := (if_pos c_14).symm.trans hf
                  exact R86 _ _ _ _ hw (lv_sub hl [0, 1, 2, 3, 4, 5, 6] rfl) hf
                · have hf := (if_neg c_14).symm.trans hf
                  refine lv_lload hx hb dX12_better_74 (lv_at hl 5 rfl) ?_
                  refine lv_lconst (v := 1) hx hb dX12_better_76 (by decide) ?_
                  refine lv_iload hx hb dX12_better_77 (lv_at hl 6 rfl) ?_
                  refine lv_bipush hx hb dX12_better_79 kb_20 ?_
                  refine lv_iadd hx hb dX12_better_81 ?_
                  refine lv_lshl hx hb dX12_better_82 rfl ?_
                  refine lv_lor hx hb dX12_better_83 ?_
                  obtain ⟨l5_13, el5_13, hf⟩ := bL_e hf
                  refine top_l el5_13 ?_
                  refine lv_lstore (lv' := [(5, .long l5_13), (0, .ref (za Z 0)), (1, .int a1), (2, .int a2), (3, .int a3), (4, .int a4), (7, .int l7_4)]) hx hb dX12_better_84 hl (by decide) rfl (fun ls hl => ?_)
                  exact R86 _ _ _ _ hw (lv_sub hl [1, 2, 3, 4, 5, 0, 6] rfl) hf
          clear eb
          obtain ⟨z, hz, hf⟩ := bB_e hf
          obtain ⟨n, hz⟩ := bP_e hz
          exact RL45 n z hf _ _ _ _ _ _ hw (lv_sub hl [2, 3, 4, 5, 6, 1, 0] rfl) hz
        · have hf := (if_pos c_16).symm.trans hf
          refine lv_ldc2 hx hb hown (hts _ cl_X12_452) dX12_better_34 ?_
          obtain ⟨e1, e2⟩ := Prod.mk.inj (Option.some.inj hf)
          exact hret _ _ _ _ _ dX12_better_37 e1 (by rw [← e2]; exact hw)
noncomputable def F12_isLine (S : pS) (a1 : Int32) : Int32 :=
  ((F12_isIn a1 0 ((S 1 2) - 1)) &&& 1)
set_option maxRecDepth 100000 in
set_option maxHeartbeats 4000000 in
theorem wX12_isLine {l : Launch} {Z : pZ}  (hZ : CM Z) (S : pS) (a1 : Int32) (r : Int32)  (hf : F12_isLine S a1 = r) : CI l Z yX12_isLine cX12_isLine 2 .boolean 4 82 [.ref (za Z 0), .int a1] S r S := by
  unfold F12_isLine at hf
  refine eZ (own := RX12) (by decide) rfl (Nat.le_of_ble_eq_true rfl) (fun p e s m args below meth c Q ls G hl hw hret => ?_)
  obtain ⟨hx, hb, hml, hown, hts⟩ := G.1
  have hl : lv_has ls 2 [(0, .ref (za Z 0)), (1, .int a1)] := hl
  refine lv_iload_n hx hb dX12_isLine_0 rfl (lv_at hl 1 rfl) ?_
  refine lv_iconst hx hb dX12_isLine_1 ki_0 ?_
  refine lv_aload_n hx hb dX12_isLine_2 rfl (lv_at hl 0 rfl) ?_
  refine gF G hw (m_this hZ) KX12 0 (k2 := 1) rfl (by decide) rfl fl_X12_7 dX12_isLine_3 ?_
  refine lv_iconst hx hb dX12_isLine_6 ki_2 ?_
  refine aI G hw (m_w hZ) (vin_e (by decide)) (j := 2) (by decide) dX12_isLine_7 ?_
  refine lv_iconst hx hb dX12_isLine_8 ki_1 ?_
  refine lv_isub hx hb dX12_isLine_9 ?_
  refine kSi (rest := []) G hw (wX12_isIn hZ S a1 0 ((S 1 2) - 1) (F12_isIn a1 0 ((S 1 2) - 1)) rfl) cw_X12_71 ⟨Nat.le_of_ble_eq_true rfl, Nat.le_of_ble_eq_true rfl⟩ rfl hl.1 rfl (Nat.le_of_ble_eq_true rfl) ⟨Nat.le_refl _, Nat.le_refl _⟩ dX12_isLine_10 (fun H locs hw => ?_)
  exact hret _ _ _ _ _ dX12_isLine_13 hf hw
noncomputable def F12_span (S : pS) (a1 : Int32) (a2 : Int32) : Option (Int32 × pS) :=
  if (F12_isLine S a1) = 0 then
    some (((-1) : Int32), S)
  else
    if (F12_isIn a2 0 1) = 0 then
      some (((-1) : Int32), S)
    else
      bL (3296 + (10 * a1)) fun l3_1 =>
      bB (F12_weather S 3) fun r_2 =>
      bL (-r_2) fun l5_3 =>
      bL (fun (l4_4 : Int32) (S_5 : pS) =>
        some (l4_4, S_5)) fun g136_39 =>
      bL (u3 fun (l4_6 : Int32) (l5_7 : Int32) (S_8 : pS) =>
        bB (F12_weather S_8 3) fun r_10 =>
        if r_10 < l5_7 then
          some (.inr (l4_6, S_8))
        else
          bG (vp_in (l3_1 + 4) 4296) <|
          bG (vp_in (l3_1 + 5) 4296) <|
          bG (vp_in (l3_1 + 3) 4296) <|
          bB (F12_weather S_8 1) fun r_11 =>
          bB (F12_flies S_8 (S_8 1 ((l3_1 + 4).toNatClampNeg)) (F12_held ((S_8 1 ((l3_1 + 5).toNatClampNeg)) + l5_7) 0 90) 0 (S_8 1 ((l3_1 + 3).toNatClampNeg)) 0 r_11) fun S_12 =>
          bL (fun (l4_13 : Int32) =>
            bL (l5_7 + 1) fun l5_14 =>
            some (.inl (l4_13, l5_14, S_12))) fun j130 =>
          bL (fun (_ : Unit) =>
            bL (S_12 0 30) fun l4_15 =>
            j130 l4_15) fun j124 =>
          if l4_6 = (-1) then
            j124 ()
          else
            if a2 = 0 then
              if l4_6 ≤ (S_12 0 30) then
                j130 l4_6
              else
                j124 ()
            else
              if (S_12 0 30) ≤ l4_6 then
                j130 l4_6
              else
                j124 ()) fun b39 =>
      bB (bP b39 (((-1) : Int32), l5_3, S)) (u2 g136_39)
set_option maxRecDepth 100000 in
set_option maxHeartbeats 4000000 in
theorem wX12_span {l : Launch} {Z : pZ}  (hZ : CM Z) (S : pS) (a1 : Int32) (a2 : Int32) (r : Int32) (S2 : pS)  (hf : F12_span S a1 a2 = some (r, S2)) : CI l Z yX12_span cX12_span 6 .int 8 183 [.ref (za Z 0), .int a1, .int a2] S r S2 := by
  unfold F12_span at hf
  refine eI (own := RX12) (by decide) rfl (Nat.le_of_ble_eq_true rfl) (fun p e s m args below meth c Q ls G hl hw hret => ?_)
  obtain ⟨hx, hb, hml, hown, hts⟩ := G.1
  have hl : lv_has ls 6 [(0, .ref (za Z 0)), (1, .int a1), (2, .int a2)] := hl
  refine lv_aload_n hx hb dX12_span_0 rfl (lv_at hl 0 rfl) ?_
  refine lv_iload_n hx hb dX12_span_1 rfl (lv_at hl 1 rfl) ?_
  refine kVi (rest := []) G hw (wX12_isLine hZ S a1 (F12_isLine S a1) rfl) cw_X12_463 (m_this hZ) KX12 ⟨Nat.le_of_ble_eq_true rfl, Nat.le_of_ble_eq_true rfl⟩ rfl hl.1 rfl (Nat.le_of_ble_eq_true rfl) ⟨Nat.le_refl _, Nat.le_refl _⟩ dX12_span_2 (fun H locs hw => ?_)
  refine lv_if_eq (tgt := 17) hx hb dX12_span_5 (by decide) (fun c_22 => ?_) (fun c_22 => ?_)
  · have hf := (if_pos c_22).symm.trans hf
    refine lv_iconst hx hb dX12_span_17 ki_m1 ?_
    obtain ⟨e1, e2⟩ := Prod.mk.inj (Option.some.inj hf)
    exact hret _ _ _ _ _ dX12_span_18 e1 (by rw [← e2]; exact hw)
  · have hf := (if_neg c_22).symm.trans hf
    refine lv_iload_n hx hb dX12_span_8 rfl (lv_at hl 2 rfl) ?_
    refine lv_iconst hx hb dX12_span_9 ki_0 ?_
    refine lv_iconst hx hb dX12_span_10 ki_1 ?_
    refine kSi (rest := []) G hw (wX12_isIn hZ S a2 0 1 (F12_isIn a2 0 1) rfl) cw_X12_71 ⟨Nat.le_of_ble_eq_true rfl, Nat.le_of_ble_eq_true rfl⟩ rfl hl.1 rfl (Nat.le_of_ble_eq_true rfl) ⟨Nat.le_refl _, Nat.le_refl _⟩ dX12_span_11 (fun H locs hw => ?_)
    refine lv_if_ne (tgt := 19) hx hb dX12_span_14 (by decide) (fun c_21 => ?_) (fun c_21 => ?_)
    · have hf := (if_neg c_21).symm.trans hf
      refine lv_sipush hx hb dX12_span_19 ks_3296 ?_
      refine lv_bipush hx hb dX12_span_22 kb_10 ?_
      refine lv_iload_n hx hb dX12_span_24 rfl (lv_at hl 1 rfl) ?_
      refine lv_imul hx hb dX12_span_25 ?_
      refine lv_iadd hx hb dX12_span_26 ?_
      obtain ⟨l3_1, el3_1, hf⟩ := bL_e hf
      refine top_i el3_1 ?_
      refine lv_istore_n (lv' := [(3, .int l3_1), (0, .ref (za Z 0)), (1, .int a1), (2, .int a2)]) hx hb dX12_span_27 rfl hl (by decide) rfl (fun ls hl => ?_)
      refine lv_iconst hx hb dX12_span_28 ki_m1 ?_
      refine lv_istore (lv' := [(4, .int (-1)), (3, .int l3_1), (0, .ref (za Z 0)), (1, .int a1), (2, .int a2)]) hx hb dX12_span_29 hl (by decide) rfl (fun ls hl => ?_)
      refine lv_aload_n hx hb dX12_span_31 rfl (lv_at hl 2 rfl) ?_
      refine lv_iconst hx hb dX12_span_32 ki_3 ?_
      obtain ⟨r_2, hr_2, hf⟩ := bB_e hf
      refine kVi (rest := []) G hw (wX12_weather hZ S 3 r_2 hr_2) cw_X12_364 (m_this hZ) KX12 ⟨Nat.le_of_ble_eq_true rfl, Nat.le_of_ble_eq_true rfl⟩ rfl hl.1 rfl (Nat.le_of_ble_eq_true rfl) ⟨Nat.le_refl _, Nat.le_refl _⟩ dX12_span_33 (fun H locs hw => ?_)
      refine lv_ineg hx hb dX12_span_36 ?_
      obtain ⟨l5_3, el5_3, hf⟩ := bL_e hf
      refine top_i el5_3 ?_
      refine lv_istore (lv' := [(5, .int l5_3), (4, .int (-1)), (3, .int l3_1), (0, .ref (za Z 0)), (1, .int a1), (2, .int a2)]) hx hb dX12_span_37 hl (by decide) rfl (fun ls hl => ?_)
      obtain ⟨g136_39, ej, hf⟩ := bL_e hf
      have R136_39 : ∀ (l4_4 : Int32) (S_5 : pS) (H : Heap) (locs : List Loc) (ls : Array Slot), Wd Z s S_5 H locs → lv_has ls 6 [(4, .int l4_4)] → g136_39 l4_4 S_5 = some (r, S2) → W p l e { frames := 8, cells := 0, slots := 0, locals := 183 } s m args below meth c H locs 0 0 Q (F0 m 136 ls []) := by
        intro l4_4 S_5 H locs ls hw hl hf
        have hf := (congrFun (congrFun ej l4_4) S_5).symm.trans hf
        refine lv_iload hx hb dX12_span_136 (lv_at hl 0 rfl) ?_
        obtain ⟨e1, e2⟩ := Prod.mk.inj (Option.some.inj hf)
        exact hret _ _ _ _ _ dX12_span_138 e1 (by rw [← e2]; exact hw)
      clear ej
      obtain ⟨b39, eb, hf⟩ := bL_e hf
      have RL39 : ∀ (n : Nat) z, (u2 g136_39) z = some (r, S2) → ∀ (l4_6 : Int32) (l5_7 : Int32) (S_8 : pS) (H : Heap) (locs : List Loc) (ls : Array Slot), Wd Z s S_8 H locs → lv_has ls 6 [(0, .ref (za Z 0)), (2, .int a2), (3, .int l3_1), (4, .int l4_6), (5, .int l5_7)] → bPn b39 n (l4_6, l5_7, S_8) = some z → W p l e { frames := 8, cells := 0, slots := 0, locals := 183 } s m args below meth c H locs 0 0 Q (F0 m 39 ls []) := by
        intro n
        induction n with
        | zero =>
          intro z hg l4_6 l5_7 S_8 H locs ls hw hl hz
          exact bPn_0 hz
        | succ n ih =>
          intro z hg l4_6 l5_7 S_8 H locs ls hw hl hz
          obtain ⟨q_9, hf, hz⟩ := bPn_e hz
          have hf := u3_e ((congrFun eb _).symm.trans hf)
          refine lv_iload hx hb dX12_span_39 (lv_at hl 4 rfl) ?_
          refine lv_aload_n hx hb dX12_span_41 rfl (lv_at hl 0 rfl) ?_
          refine lv_iconst hx hb dX12_span_42 ki_3 ?_
          obtain ⟨r_10, hr_10, hf⟩ := bB_e hf
          refine kVi (rest := [.int l5_7]) G hw (wX12_weather hZ S_8 3 r_10 hr_10) cw_X12_364 (m_this hZ) KX12 ⟨Nat.le_of_ble_eq_true rfl, Nat.le_of_ble_eq_true rfl⟩ rfl hl.1 rfl (Nat.le_of_ble_eq_true rfl) ⟨Nat.le_refl _, Nat.le_refl _⟩ dX12_span_43 (fun H locs hw => ?_)
          refine lv_icmp_gt (tgt := 136) hx hb dX12_span_46 (by decide) (fun c_20 => ?_) (fun c_20 => ?_)
          · have hf := (if_pos c_20).symm.trans hf
            obtain rfl := Option.some.inj hf
            obtain rfl := Option.some.inj (hz : some _ = some _)
            exact R136_39 _ _ _ _ _ hw (lv_sub hl [3] rfl) hg
          · have hf := (if_neg c_20).symm.trans hf
            refine lv_aload_n hx hb dX12_span_49 rfl (lv_at hl 0 rfl) ?_
            refine lv_aload_n hx hb dX12_span_50 rfl (lv_at hl 0 rfl) ?_
            refine gF G hw (m_this hZ) KX12 0 (k2 := 1) rfl (by decide) rfl fl_X12_7 dX12_span_51 ?_
            refine lv_iload_n hx hb dX12_span_54 rfl (lv_at hl 2 rfl) ?_
            refine lv_iconst hx hb dX12_span_55 ki_4 ?_
            refine lv_iadd hx hb dX12_span_56 ?_
            obtain ⟨hg1, hf⟩ := bG_e hf
            refine aI G hw (m_w hZ) hg1 (j := (l3_1 + 4).toNatClampNeg) rfl dX12_span_57 ?_
            refine lv_aload_n hx hb dX12_span_58 rfl (lv_at hl 0 rfl) ?_
            refine gF G hw (m_this hZ) KX12 0 (k2 := 1) rfl (by decide) rfl fl_X12_7 dX12_span_59 ?_
            refine lv_iload_n hx hb dX12_span_62 rfl (lv_at hl 2 rfl) ?_
            refine lv_iconst hx hb dX12_span_63 ki_5 ?_
            refine lv_iadd hx hb dX12_span_64 ?_
            obtain ⟨hg1, hf⟩ := bG_e hf
            refine aI G hw (m_w hZ) hg1 (j := (l3_1 + 5).toNatClampNeg) rfl dX12_span_65 ?_
            refine lv_iload hx hb dX12_span_66 (lv_at hl 4 rfl) ?_
            refine lv_iadd hx hb dX12_span_68 ?_
            refine lv_iconst hx hb dX12_span_69 ki_0 ?_
            refine lv_bipush hx hb dX12_span_70 kb_90 ?_
            refine kSi (rest := [.int (S_8 1 ((l3_1 + 4).toNatClampNeg)), .ref (za Z 0)]) G hw (wX12_held hZ S_8 ((S_8 1 ((l3_1 + 5).toNatClampNeg)) + l5_7) 0 90 (F12_held ((S_8 1 ((l3_1 + 5).toNatClampNeg)) + l5_7) 0 90) rfl) cw_X12_321 ⟨Nat.le_of_ble_eq_true rfl, Nat.le_of_ble_eq_true rfl⟩ rfl hl.1 rfl (Nat.le_of_ble_eq_true rfl) ⟨Nat.le_refl _, Nat.le_refl _⟩ dX12_span_72 (fun H locs hw => ?_)
            refine lv_iconst hx hb dX12_span_75 ki_0 ?_
            refine lv_aload_n hx hb dX12_span_76 rfl (lv_at hl 0 rfl) ?_
            refine gF G hw (m_this hZ) KX12 0 (k2 := 1) rfl (by decide) rfl fl_X12_7 dX12_span_77 ?_
            refine lv_iload_n hx hb dX12_span_80 rfl (lv_at hl 2 rfl) ?_
            refine lv_iconst hx hb dX12_span_81 ki_3 ?_
            refine lv_iadd hx hb dX12_span_82 ?_
            obtain ⟨hg1, hf⟩ := bG_e hf
            refine aI G hw (m_w hZ) hg1 (j := (l3_1 + 3).toNatClampNeg) rfl dX12_span_83 ?_
            refine lv_iconst hx hb dX12_span_84 ki_0 ?_
            refine lv_aload_n hx hb dX12_span_85 rfl (lv_at hl 0 rfl) ?_
            refine lv_iconst hx hb dX12_span_86 ki_1 ?_
            obtain ⟨r_11, hr_11, hf⟩ := bB_e hf
            refine kVi (rest := [.int 0, .int (S_8 1 ((l3_1 + 3).toNatClampNeg)), .int 0, .int (F12_held ((S_8 1 ((l3_1 + 5).toNatClampNeg)) + l5_7) 0 90), .int (S_8 1 ((l3_1 + 4).toNatClampNeg)), .ref (za Z 0)]) G hw (wX12_weather hZ S_8 1 r_11 hr_11) cw_X12_364 (m_this hZ) KX12 ⟨Nat.le_of_ble_eq_true rfl, Nat.le_of_ble_eq_true rfl⟩ rfl hl.1 rfl (Nat.le_of_ble_eq_true rfl) ⟨Nat.le_refl _, Nat.le_refl _⟩ dX12_span_87 (fun H locs hw => ?_)
            obtain ⟨S_12, hS_12, hf⟩ := bB_e hf
            refine kVv (rest := []) G hw (wX12_flies hZ S_8 (S_8 1 ((l3_1 + 4).toNatClampNeg)) (F12_held ((S_8 1 ((l3_1 + 5).toNatClampNeg)) + l5_7) 0 90) 0 (S_8 1 ((l3_1 + 3).toNatClampNeg)) 0 r_11 S_12 hS_12) cw_X12_389 (m_this hZ) KX12 ⟨Nat.le_of_ble_eq_true rfl, Nat.le_of_ble_eq_true rfl⟩ rfl hl.1 rfl (Nat.le_of_ble_eq_true rfl) ⟨Nat.le_refl _, Nat.le_refl _⟩ dX12_span_90 (fun H locs hw => ?_)
            refine lv_iload hx hb dX12_span_93 (lv_at hl 3 rfl) ?_
            refine lv_iconst hx hb dX12_span_95 ki_m1 ?_
            obtain ⟨j130, ej, hf⟩ := bL_e hf
            have R130 : ∀ (l4_13 : Int32) (H : Heap) (locs : List Loc) (ls : Array Slot), Wd Z s S_12 H locs → lv_has ls 6 [(0, .ref (za Z 0)), (2, .int a2), (3, .int l3_1), (4, .int l4_13), (5, .int l5_7)] → j130 l4_13 = some q_9 → W p l e { frames := 8, cells := 0, slots := 0, locals := 183 } s m args below meth c H locs 0 0 Q (F0 m 130 ls []) := by
              intro l4_13 H locs ls hw hl hf
              have hf := (congrFun ej l4_13).symm.trans hf
              obtain ⟨l5_14, el5_14, hf⟩ := bL_e hf
              refine lv_iinc (v := l5_14) (lv' := [(5, .int l5_14), (0, .ref (za Z 0)), (2, .int a2), (3, .int l3_1), (4, .int l4_13)]) hx hb dX12_span_130 hl (k := 4) rfl (by rw [el5_14]; rfl) (by decide) rfl (fun ls hl => ?_)
              refine lv_goto (tgt := 39) hx hb dX12_span_133 (by decide) ?_
              obtain rfl := Option.some.inj hf
              exact ih _ hg _ _ _ _ _ _ hw (lv_sub hl [1, 2, 3, 4, 0] rfl) hz
            clear ej
            obtain ⟨j124, ej, hf⟩ := bL_e hf
            have R124 : ∀ (H : Heap) (locs : List Loc) (ls : Array Slot), Wd Z s S_12 H locs → lv_has ls 6 [(0, .ref (za Z 0)), (2, .int a2), (3, .int l3_1), (5, .int l5_7)] → j124 () = some q_9 → W p l e { frames := 8, cells := 0, slots := 0, locals := 183 } s m args below meth c H locs 0 0 Q (F0 m 124 ls []) := by
              intro  H locs ls hw hl hf
              have hf := (congrFun ej ()).symm.trans hf
              refine lv_aload_n hx hb dX12_span_124 rfl (lv_at hl 0 rfl) ?_
              refine gI G hw (m_this hZ) KX12 30 (by decide) rfl fl_X12_341 dX12_span_125 ?_
              obtain ⟨l4_15, el4_15, hf⟩ := bL_e hf
              refine top_i el4_15 ?_
              refine lv_istore (lv' := [(4, .int l4_15), (0, .ref (za Z 0)), (2, .int a2), (3, .int l3_1), (5, .int l5_7)]) hx hb dX12_span_128 hl (by decide) rfl (fun ls hl => ?_)
              exact R130 _ _ _ _ hw (lv_sub hl [1, 2, 3, 0, 4] rfl) hf
            clear ej
            refine lv_icmp_eq (tgt := 124) hx hb dX12_span_96 (by decide) (fun c_19 => ?_) (fun c_19 => ?_)
            · have hf := (if_pos c_19).symm.trans hf
              exact R124 _ _ _ hw (lv_sub hl [0, 1, 2, 4] rfl) hf
            · have hf := (if_neg c_19).symm.trans hf
              refine lv_iload_n hx hb dX12_span_99 rfl (lv_at hl 1 rfl) ?_
              refine lv_if_ne (tgt := 115) hx hb dX12_span_100 (by decide) (fun c_18 => ?_) (fun c_18 => ?_)
              · have hf := (if_neg c_18).symm.trans hf
                refine lv_aload_n hx hb dX12_span_115 rfl (lv_at hl 0 rfl) ?_
                refine gI G hw (m_this hZ) KX12 30 (by decide) rfl fl_X12_341 dX12_span_116 ?_
                refine lv_iload hx hb dX12_span_119 (lv_at hl 3 rfl) ?_
                refine lv_icmp_le (tgt := 130) hx hb dX12_span_121 (by decide) (fun c_16 => ?_) (fun c_16 => ?_)
                · have hf := (if_pos c_16).symm.trans hf
                  exact R130 _ _ _ _ hw (lv_sub hl [0, 1, 2, 3, 4] rfl) hf
                · have hf := (if_neg c_16).symm.trans hf
                  exact R124 _ _ _ hw (lv_sub hl [0, 1, 2, 4] rfl) hf
              · have hf := (if_pos c_18).symm.trans hf
                refine lv_aload_n hx hb dX12_span_103 rfl (lv_at hl 0 rfl) ?_
                refine gI G hw (m_this hZ) KX12 30 (by decide) rfl fl_X12_341 dX12_span_104 ?_
                refine lv_iload hx hb dX12_span_107 (lv_at hl 3 rfl) ?_
                refine lv_icmp_ge (tgt := 130) hx hb dX12_span_109 (by decide) (fun c_17 => ?_) (fun c_17 => ?_)
                · have hf := (if_pos c_17).symm.trans hf
                  exact R130 _ _ _ _ hw (lv_sub hl [0, 1, 2, 3, 4] rfl) hf
                · have hf := (if_neg c_17).symm.trans hf
                  refine lv_goto (tgt := 124) hx hb dX12_span_112 (by decide) ?_
                  exact R124 _ _ _ hw (lv_sub hl [0, 1, 2, 4] rfl) hf
      clear eb
      obtain ⟨z, hz, hf⟩ := bB_e hf
      obtain ⟨n, hz⟩ := bP_e hz
      exact RL39 n z hf _ _ _ _ _ _ hw (lv_sub hl [3, 5, 2, 1, 0] rfl) hz
    · have hf := (if_pos c_21).symm.trans hf
      refine lv_iconst hx hb dX12_span_17 ki_m1 ?_
      obtain ⟨e1, e2⟩ := Prod.mk.inj (Option.some.inj hf)
      exact hret _ _ _ _ _ dX12_span_18 e1 (by rw [← e2]; exact hw)
noncomputable def F12_path (S : pS) (a1 : Int32) (a2 : Int32) (a3 : Int32) : Option (Int32 × pS) :=
  if (F12_isLine S a1) = 0 then
    some (((-10000) : Int32), S)
  else
    if (F12_isIn a2 0 400) = 0 then
      some (((-10000) : Int32), S)
    else
      if (F12_isIn a3 0 3) = 0 then
        some (((-10000) : Int32), S)
      else
        bL (3296 + (10 * a1)) fun l4_1 =>
        bG (vp_in (l4_1 + 4) 4296) <|
        bG (vp_in (l4_1 + 5) 4296) <|
        bB (F12_begins S (S 1 ((l4_1 + 4).toNatClampNeg)) (S 1 ((l4_1 + 5).toNatClampNeg)) 0) fun S_2 =>
        bL (fun (S_3 : pS) =>
          if a3 = 0 then
            some (S_3 0 30, S_3)
          else
            if a3 = 1 then
              some (S_3 0 29, S_3)
            else
              if a3 = 2 then
                some (S_3 0 31, S_3)
              else
                some (S_3 0 33, S_3)) fun g111_65 =>
        bL (u1 fun (S_7 : pS) =>
          if a2 ≤ (S_7 0 34) then
            some (.inr S_7)
          else
            if (S_7 0 29) ≤ 0 then
              some (.inr S_7)
            else
              bG (vp_in (l4_1 + 3) 4296) <|
              bG (vp_in (l4_1 + 6) 4296) <|
              bB (F12_weather S_7 1) fun r_9 =>
              bB (F12_ticksOn S_7 (S_7 1 ((l4_1 + 3).toNatClampNeg)) (S_7 1 ((l4_1 + 6).toNatClampNeg)) r_9) fun S_10 =>
              some (.inl S_10)) fun b65 =>
        bB (bP b65 S_2) (u1 g111_65)
set_option maxRecDepth 100000 in
set_option maxHeartbeats 4000000 in
theorem wX12_path {l : Launch} {Z : pZ}  (hZ : CM Z) (S : pS) (a1 : Int32) (a2 : Int32) (a3 : Int32) (r : Int32) (S2 : pS)  (hf : F12_path S a1 a2 a3 = some (r, S2)) : CI l Z yX12_path cX12_path 5 .int 7 157 [.ref (za Z 0), .int a1, .int a2, .int a3] S r S2 := by
  unfold F12_path at hf
  refine eI (own := RX12) (by decide) rfl (Nat.le_of_ble_eq_true rfl) (fun p e s m args below meth c Q ls G hl hw hret => ?_)
  obtain ⟨hx, hb, hml, hown, hts⟩ := G.1
  have hl : lv_has ls 5 [(0, .ref (za Z 0)), (1, .int a1), (2, .int a2), (3, .int a3)] := hl
  refine lv_aload_n hx hb dX12_path_0 rfl (lv_at hl 0 rfl) ?_
  refine lv_iload_n hx hb dX12_path_1 rfl (lv_at hl 1 rfl) ?_
  refine kVi (rest := []) G hw (wX12_isLine hZ S a1 (F12_isLine S a1) rfl) cw_X12_463 (m_this hZ) KX12 ⟨Nat.le_of_ble_eq_true rfl, Nat.le_of_ble_eq_true rfl⟩ rfl hl.1 rfl (Nat.le_of_ble_eq_true rfl) ⟨Nat.le_refl _, Nat.le_refl _⟩ dX12_path_2 (fun H locs hw => ?_)
  refine lv_if_eq (tgt := 28) hx hb dX12_path_5 (by decide) (fun c_15 => ?_) (fun c_15 => ?_)
  · have hf := (if_pos c_15).symm.trans hf
    refine lv_sipush hx hb dX12_path_28 ks_m10000 ?_
    obtain ⟨e1, e2⟩ := Prod.mk.inj (Option.some.inj hf)
    exact hret _ _ _ _ _ dX12_path_31 e1 (by rw [← e2]; exact hw)
  · have hf := (if_neg c_15).symm.trans hf
    refine lv_iload_n hx hb dX12_path_8 rfl (lv_at hl 2 rfl) ?_
    refine lv_iconst hx hb dX12_path_9 ki_0 ?_
    refine lv_sipush hx hb dX12_path_10 ks_400 ?_
    refine kSi (rest := []) G hw (wX12_isIn hZ S a2 0 400 (F12_isIn a2 0 400) rfl) cw_X12_71 ⟨Nat.le_of_ble_eq_true rfl, Nat.le_of_ble_eq_true rfl⟩ rfl hl.1 rfl (Nat.le_of_ble_eq_true rfl) ⟨Nat.le_refl _, Nat.le_refl _⟩ dX12_path_13 (fun H locs hw => ?_)
    refine lv_if_eq (tgt := 28) hx hb dX12_path_16 (by decide) (fun c_14 => ?_) (fun c_14 => ?_)
    · have hf := (if_pos c_14).symm.trans hf
      refine lv_sipush hx hb dX12_path_28 ks_m10000 ?_
      obtain ⟨e1, e2⟩ := Prod.mk.inj (Option.some.inj hf)
      exact hret _ _ _ _ _ dX12_path_31 e1 (by rw [← e2]; exact hw)
    · have hf := (if_neg c_14).symm.trans hf
      refine lv_iload_n hx hb dX12_path_19 rfl (lv_at hl 3 rfl) ?_
      refine lv_iconst hx hb dX12_path_20 ki_0 ?_
      refine lv_iconst hx hb dX12_path_21 ki_3 ?_
      refine kSi (rest := []) G hw (wX12_isIn hZ S a3 0 3 (F12_isIn a3 0 3) rfl) cw_X12_71 ⟨Nat.le_of_ble_eq_true rfl, Nat.le_of_ble_eq_true rfl⟩ rfl hl.1 rfl (Nat.le_of_ble_eq_true rfl) ⟨Nat.le_refl _, Nat.le_refl _⟩ dX12_path_22 (fun H locs hw => ?_)
      refine lv_if_ne (tgt := 32) hx hb dX12_path_25 (by decide) (fun c_13 => ?_) (fun c_13 => ?_)
      · have hf := (if_neg c_13).symm.trans hf
        refine lv_sipush hx hb dX12_path_32 ks_3296 ?_
        refine lv_bipush hx hb dX12_path_35 kb_10 ?_
        refine lv_iload_n hx hb dX12_path_37 rfl (lv_at hl 1 rfl) ?_
        refine lv_imul hx hb dX12_path_38 ?_
        refine lv_iadd hx hb dX12_path_39 ?_
        obtain ⟨l4_1, el4_1, hf⟩ := bL_e hf
        refine top_i el4_1 ?_
        refine lv_istore (lv' := [(4, .int l4_1), (0, .ref (za Z 0)), (1, .int a1), (2, .int a2), (3, .int a3)]) hx hb dX12_path_40 hl (by decide) rfl (fun ls hl => ?_)
        refine lv_aload_n hx hb dX12_path_42 rfl (lv_at hl 1 rfl) ?_
        refine lv_aload_n hx hb dX12_path_43 rfl (lv_at hl 1 rfl) ?_
        refine gF G hw (m_this hZ) KX12 0 (k2 := 1) rfl (by decide) rfl fl_X12_7 dX12_path_44 ?_
        refine lv_iload hx hb dX12_path_47 (lv_at hl 0 rfl) ?_
        refine lv_iconst hx hb dX12_path_49 ki_4 ?_
        refine lv_iadd hx hb dX12_path_50 ?_
        obtain ⟨hg1, hf⟩ := bG_e hf
        refine aI G hw (m_w hZ) hg1 (j := (l4_1 + 4).toNatClampNeg) rfl dX12_path_51 ?_
        refine lv_aload_n hx hb dX12_path_52 rfl (lv_at hl 1 rfl) ?_
        refine gF G hw (m_this hZ) KX12 0 (k2 := 1) rfl (by decide) rfl fl_X12_7 dX12_path_53 ?_
        refine lv_iload hx hb dX12_path_56 (lv_at hl 0 rfl) ?_
        refine lv_iconst hx hb dX12_path_58 ki_5 ?_
        refine lv_iadd hx hb dX12_path_59 ?_
        obtain ⟨hg1, hf⟩ := bG_e hf
        refine aI G hw (m_w hZ) hg1 (j := (l4_1 + 5).toNatClampNeg) rfl dX12_path_60 ?_
        refine lv_iconst hx hb dX12_path_61 ki_0 ?_
        obtain ⟨S_2, hS_2, hf⟩ := bB_e hf
        refine kVv (rest := []) G hw (wX12_begins hZ S (S 1 ((l4_1 + 4).toNatClampNeg)) (S 1 ((l4_1 + 5).toNatClampNeg)) 0 S_2 hS_2) cw_X12_358 (m_this hZ) KX12 ⟨Nat.le_of_ble_eq_true rfl, Nat.le_of_ble_eq_true rfl⟩ rfl hl.1 rfl (Nat.le_of_ble_eq_true rfl) ⟨Nat.le_refl _, Nat.le_refl _⟩ dX12_path_62 (fun H locs hw => ?_)
        obtain ⟨g111_65, ej, hf⟩ := bL_e hf
        have R111_65 : ∀ (S_3 : pS) (H : Heap) (locs : List Loc) (ls : Array Slot), Wd Z s S_3 H locs → lv_has ls 5 [(0, .ref (za Z 0)), (3, .int a3)] → g111_65 S_3 = some (r, S2) → W p l e { frames := 7, cells := 0, slots := 0, locals := 157 } s m args below meth c H locs 0 0 Q (F0 m 111 ls []) := by
          intro S_3 H locs ls hw hl hf
          have hf := (congrFun ej S_3).symm.trans hf
          refine lv_iload_n hx hb dX12_path_111 rfl (lv_at hl 1 rfl) ?_
          refine lv_if_ne (tgt := 122) hx hb dX12_path_112 (by decide) (fun c_6 => ?_) (fun c_6 => ?_)
          · have hf := (if_neg c_6).symm.trans hf
            refine lv_iload_n hx hb dX12_path_122 rfl (lv_at hl 1 rfl) ?_
            refine lv_iconst hx hb dX12_path_123 ki_1 ?_
            refine lv_icmp_ne (tgt := 134) hx hb dX12_path_124 (by decide) (fun c_5 => ?_) (fun c_5 => ?_)
            · have hf := (if_neg c_5).symm.trans hf
              refine lv_iload_n hx hb dX12_path_134 rfl (lv_at hl 1 rfl) ?_
              refine lv_iconst hx hb dX12_path_135 ki_2 ?_
              refine lv_icmp_ne (tgt := 146) hx hb dX12_path_136 (by decide) (fun c_4 => ?_) (fun c_4 => ?_)
              · have hf := (if_neg c_4).symm.trans hf
                refine lv_aload_n hx hb dX12_path_146 rfl (lv_at hl 0 rfl) ?_
                refine gI G hw (m_this hZ) KX12 33 (by decide) rfl fl_X12_350 dX12_path_147 ?_
                obtain ⟨e1, e2⟩ := Prod.mk.inj (Option.some.inj hf)
                exact hret _ _ _ _ _ dX12_path_150 e1 (by rw [← e2]; exact hw)
              · have hf := (if_pos c_4).symm.trans hf
                refine lv_aload_n hx hb dX12_path_139 rfl (lv_at hl 0 rfl) ?_
                refine gI G hw (m_this hZ) KX12 31 (by decide) rfl fl_X12_344 dX12_path_140 ?_
                refine lv_goto (tgt := 150) hx hb dX12_path_143 (by decide) ?_
                obtain ⟨e1, e2⟩ := Prod.mk.inj (Option.some.inj hf)
                exact hret _ _ _ _ _ dX12_path_150 e1 (by rw [← e2]; exact hw)
            · have hf := (if_pos c_5).symm.trans hf
              refine lv_aload_n hx hb dX12_path_127 rfl (lv_at hl 0 rfl) ?_
              refine gI G hw (m_this hZ) KX12 29 (by decide) rfl fl_X12_339 dX12_path_128 ?_
              refine lv_goto (tgt := 150) hx hb dX12_path_131 (by decide) ?_
              obtain ⟨e1, e2⟩ := Prod.mk.inj (Option.some.inj hf)
              exact hret _ _ _ _ _ dX12_path_150 e1 (by rw [← e2]; exact hw)
          · have hf := (if_pos c_6).symm.trans hf
            refine lv_aload_n hx hb dX12_path_115 rfl (lv_at hl 0 rfl) ?_
            refine gI G hw (m_this hZ) KX12 30 (by decide) rfl fl_X12_341 dX12_path_116 ?_
            refine lv_goto (tgt := 150) hx hb dX12_path_119 (by decide) ?_
            obtain ⟨e1, e2⟩ := Prod.mk.inj (Option.some.inj hf)
            exact hret _ _ _ _ _ dX12_path_150 e1 (by rw [← e2]; exact hw)
        clear ej
        obtain ⟨b65, eb, hf⟩ := bL_e hf
        have RL65 : ∀ (n : Nat) z, (u1 g111_65) z = some (r, S2) → ∀ (S_7 : pS) (H : Heap) (locs : List Loc) (ls : Array Slot), Wd Z s S_7 H locs → lv_has ls 5 [(0, .ref (za Z 0)), (2, .int a2), (3, .int a3), (4, .int l4_1)] → bPn b65 n S_7 = some z → W p l e { frames := 7, cells := 0, slots := 0, locals := 157 } s m args below meth c H locs 0 0 Q (F0 m 65 ls []) := by
          intro n
          induction n with
          | zero =>
            intro z hg S_7 H locs ls hw hl hz
            exact bPn_0 hz
          | succ n ih =>
            intro z hg S_7 H locs ls hw hl hz
            obtain ⟨q_8, hf, hz⟩ := bPn_e hz
            have hf := u1_e ((congrFun eb _).symm.trans hf)
            refine lv_aload_n hx hb dX12_path_65 rfl (lv_at hl 0 rfl) ?_
            refine gI G hw (m_this hZ) KX12 34 (by decide) rfl fl_X12_352 dX12_path_66 ?_
            refine lv_iload_n hx hb dX12_path_69 rfl (lv_at hl 1 rfl) ?_
            refine lv_icmp_ge (tgt := 111) hx hb dX12_path_70 (by decide) (fun c_12 => ?_) (fun c_12 => ?_)
            · have hf := (if_pos c_12).symm.trans hf
              obtain rfl := Option.some.inj hf
              obtain rfl := Option.some.inj (hz : some _ = some _)
              exact R111_65 _ _ _ _ hw (lv_sub hl [0, 2] rfl) hg
            · have hf := (if_neg c_12).symm.trans hf
              refine lv_aload_n hx hb dX12_path_73 rfl (lv_at hl 0 rfl) ?_
              refine gI G hw (m_this hZ) KX12 29 (by decide) rfl fl_X12_339 dX12_path_74 ?_
              refine lv_if_le (tgt := 111) hx hb dX12_path_77 (by decide) (fun c_11 => ?_) (fun c_11 => ?_)
              · have hf := (if_pos c_11).symm.trans hf
                obtain rfl := Option.some.inj hf
                obtain rfl := Option.some.inj (hz : some _ = some _)
                exact R111_65 _ _ _ _ hw (lv_sub hl [0, 2] rfl) hg
              · have hf := (if_neg c_11).symm.trans hf
                refine lv_aload_n hx hb dX12_path_80 rfl (lv_at hl 0 rfl) ?_
                refine lv_aload_n hx hb dX12_path_81 rfl (lv_at hl 0 rfl) ?_
                refine gF G hw (m_this hZ) KX12 0 (k2 := 1) rfl (by decide) rfl fl_X12_7 dX12_path_82 ?_
                refine lv_iload hx hb dX12_path_85 (lv_at hl 3 rfl) ?_
                refine lv_iconst hx hb dX12_path_87 ki_3 ?_
                refine lv_iadd hx hb dX12_path_88 ?_
                obtain ⟨hg1, hf⟩ := bG_e hf
                refine aI G hw (m_w hZ) hg1 (j := (l4_1 + 3).toNatClampNeg) rfl dX12_path_89 ?_
                refine lv_aload_n hx hb dX12_path_90 rfl (lv_at hl 0 rfl) ?_
                refine gF G hw (m_this hZ) KX12 0 (k2 := 1) rfl (by decide) rfl fl_X12_7 dX12_path_91 ?_
                refine lv_iload hx hb dX12_path_94 (lv_at hl 3 rfl) ?_
                refine lv_bipush hx hb dX12_path_96 kb_6 ?_
                refine lv_iadd hx hb dX12_path_98 ?_
                obtain ⟨hg1, hf⟩ := bG_e hf
                refine aI G hw (m_w hZ) hg1 (j := (l4_1 + 6).toNatClampNeg) rfl dX12_path_99 ?_
                refine lv_aload_n hx hb dX12_path_100 rfl (lv_at hl 0 rfl) ?_
                refine lv_iconst hx hb dX12_path_101 ki_1 ?_
                obtain ⟨r_9, hr_9, hf⟩ := bB_e hf
                refine kVi (rest := [.int (S_7 1 ((l4_1 + 6).toNatClampNeg)), .int (S_7 1 ((l4_1 + 3).toNatClampNeg)), .ref (za Z 0)]) G hw (wX12_weather hZ S_7 1 r_9 hr_9) cw_X12_364 (m_this hZ) KX12 ⟨Nat.le_of_ble_eq_true rfl, Nat.le_of_ble_eq_true rfl⟩ rfl hl.1 rfl (Nat.le_of_ble_eq_true rfl) ⟨Nat.le_refl _, Nat.le_refl _⟩ dX12_path_102 (fun H locs hw => ?_)
                obtain ⟨S_10, hS_10, hf⟩ := bB_e hf
                refine kVv (rest := []) G hw (wX12_ticksOn hZ S_7 (S_7 1 ((l4_1 + 3).toNatClampNeg)) (S_7 1 ((l4_1 + 6).toNatClampNeg)) r_9 S_10 hS_10) cw_X12_361 (m_this hZ) KX12 ⟨Nat.le_of_ble_eq_true rfl, Nat.le_of_ble_eq_true rfl⟩ rfl hl.1 rfl (Nat.le_of_ble_eq_true rfl) ⟨Nat.le_refl _, Nat.le_refl _⟩ dX12_path_105 (fun H locs hw => ?_)
                refine lv_goto (tgt := 65) hx hb dX12_path_108 (by decide) ?_
                obtain rfl := Option.some.inj hf
                exact ih _ hg _ _ _ _ hw (lv_sub hl [0, 1, 2, 3] rfl) hz
        clear eb
        obtain ⟨z, hz, hf⟩ := bB_e hf
        obtain ⟨n, hz⟩ := bP_e hz
        exact RL65 n z hf _ _ _ _ hw (lv_sub hl [1, 3, 4, 0] rfl) hz
      · have hf := (if_pos c_13).symm.trans hf
        refine lv_sipush hx hb dX12_path_28 ks_m10000 ?_
        obtain ⟨e1, e2⟩ := Prod.mk.inj (Option.some.inj hf)
        exact hret _ _ _ _ _ dX12_path_31 e1 (by rw [← e2]; exact hw)
noncomputable def F12_record (S : pS) (a1 : Int32) : Option (Int32) :=
  if (F12_isSpear S a1) = 0 then
    some ((-1) : Int32)
  else
    bL (fun (l2_1 : Int32) =>
      some l2_1) fun g102_14 =>
    bL (u2 fun (l2_2 : Int32) (l3_3 : Int32) =>
      if (S 1 2) ≤ l3_3 then
        some (.inr l2_2)
      else
        bL (3296 + (10 * l3_3)) fun l4_5 =>
        bG (vp_in (l4_5 + 3) 4296) <|
        bL (fun (l2_6 : Int32) =>
          bL (l3_3 + 1) fun l3_7 =>
          some (.inl (l2_6, l3_7))) fun j96 =>
        if (S 1 ((l4_5 + 3).toNatClampNeg)) = a1 then
          bG (vp_in (l4_5 + 8) 4296) <|
          if (S 1 ((l4_5 + 8).toNatClampNeg)) = 0 then
            bL (fun (_ : Unit) =>
              j96 l3_3) fun j94 =>
            if l2_2 = (-1) then
              j94 ()
            else
              bG (vp_in (l4_5 + 7) 4296) <|
              bG (vp_in ((3296 + (10 * l2_2)) + 7) 4296) <|
              if (S 1 ((l4_5 + 7).toNatClampNeg)) ≤ (S 1 (((3296 + (10 * l2_2)) + 7).toNatClampNeg)) then
                j96 l2_2
              else
                j94 ()
          else
            j96 l2_2
        else
          j96 l2_2) fun b14 =>
    bB (bP b14 (((-1) : Int32), (0 : Int32))) (u1 g102_14)
set_option maxRecDepth 100000 in
set_option maxHeartbeats 4000000 in
theorem wX12_record {l : Launch} {Z : pZ}  (hZ : CM Z) (S : pS) (a1 : Int32) (r : Int32)  (hf : F12_record S a1 = some r) : CI l Z yX12_record cX12_record 5 .int 5 103 [.ref (za Z 0), .int a1] S r S := by
  unfold F12_record at hf
  refine eI (own := RX12) (by decide) rfl (Nat.le_of_ble_eq_true rfl) (fun p e s m args below meth c Q ls G hl hw hret => ?_)
  obtain ⟨hx, hb, hml, hown, hts⟩ := G.1
  have hl : lv_has ls 5 [(0, .ref (za Z 0)), (1, .int a1)] := hl
  refine lv_aload_n hx hb dX12_record_0 rfl (lv_at hl 0 rfl) ?_
  refine lv_iload_n hx hb dX12_record_1 rfl (lv_at hl 1 rfl) ?_
  refine kVi (rest := []) G hw (wX12_isSpear hZ S a1 (F12_isSpear S a1) rfl) cw_X12_401 (m_this hZ) KX12 ⟨Nat.le_of_ble_eq_true rfl, Nat.le_of_ble_eq_true rfl⟩ rfl hl.1 rfl (Nat.le_of_ble_eq_true rfl) ⟨Nat.le_refl _, Nat.le_refl _⟩ dX12_record_2 (fun H locs hw => ?_)
  refine lv_if_ne (tgt := 10) hx hb dX12_record_5 (by decide) (fun c_13 => ?_) (fun c_13 => ?_)
  · have hf := (if_neg c_13).symm.trans hf
    refine lv_iconst hx hb dX12_record_10 ki_m1 ?_
    refine lv_istore_n (lv' := [(2, .int (-1)), (0, .ref (za Z 0)), (1, .int a1)]) hx hb dX12_record_11 rfl hl (by decide) rfl (fun ls hl => ?_)
    refine lv_iconst hx hb dX12_record_12 ki_0 ?_
    refine lv_istore_n (lv' := [(3, .int 0), (2, .int (-1)), (0, .ref (za Z 0)), (1, .int a1)]) hx hb dX12_record_13 rfl hl (by decide) rfl (fun ls hl => ?_)
    obtain ⟨g102_14, ej, hf⟩ := bL_e hf
    have R102_14 : ∀ (l2_1 : Int32) (H : Heap) (locs : List Loc) (ls : Array Slot), Wd Z s S H locs → lv_has ls 5 [(2, .int l2_1)] → g102_14 l2_1 = some r → W p l e { frames := 5, cells := 0, slots := 0, locals := 103 } s m args below meth c H locs 0 0 Q (F0 m 102 ls []) := by
      intro l2_1 H locs ls hw hl hf
      have hf := (congrFun ej l2_1).symm.trans hf
      refine lv_iload_n hx hb dX12_record_102 rfl (lv_at hl 0 rfl) ?_
      exact hret _ _ _ _ _ dX12_record_103 (Option.some.inj hf) hw
    clear ej
    obtain ⟨b14, eb, hf⟩ := bL_e hf
    have RL14 : ∀ (n : Nat) z, (u1 g102_14) z = some r → ∀ (l2_2 : Int32) (l3_3 : Int32) (H : Heap) (locs : List Loc) (ls : Array Slot), Wd Z s S H locs → lv_has ls 5 [(0, .ref (za Z 0)), (1, .int a1), (2, .int l2_2), (3, .int l3_3)] → bPn b14 n (l2_2, l3_3) = some z → W p l e { frames := 5, cells := 0, slots := 0, locals := 103 } s m args below meth c H locs 0 0 Q (F0 m 14 ls []) := by
      intro n
      induction n with
      | zero =>
        intro z hg l2_2 l3_3 H locs ls hw hl hz
        exact bPn_0 hz
      | succ n ih =>
        intro z hg l2_2 l3_3 H locs ls hw hl hz
        obtain ⟨q_4, hf, hz⟩ := bPn_e hz
        have hf := u2_e ((congrFun eb _).symm.trans hf)
        refine lv_iload_n hx hb dX12_record_14 rfl (lv_at hl 3 rfl) ?_
        refine lv_aload_n hx hb dX12_record_15 rfl (lv_at hl 0 rfl) ?_
        refine gF G hw (m_this hZ) KX12 0 (k2 := 1) rfl (by decide) rfl fl_X12_7 dX12_record_16 ?_
        refine lv_iconst hx hb dX12_record_19 ki_2 ?_
        refine aI G hw (m_w hZ) (vin_e (by decide)) (j := 2) (by decide) dX12_record_20 ?_
        refine lv_icmp_ge (tgt := 102) hx hb dX12_record_21 (by decide) (fun c_12 => ?_) (fun c_12 => ?_)
        · have hf := (if_pos c_12).symm.trans hf
          obtain rfl := Option.some.inj hf
          obtain rfl := Option.some.inj (hz : some _ = some _)
          exact R102_14 _ _ _ _ hw (lv_sub hl [2] rfl) hg
        · have hf := (if_neg c_12).symm.trans hf
          refine lv_sipush hx hb dX12_record_24 ks_3296 ?_
          refine lv_bipush hx hb dX12_record_27 kb_10 ?_
          refine lv_iload_n hx hb dX12_record_29 rfl (lv_at hl 3 rfl) ?_
          refine lv_imul hx hb dX12_record_30 ?_
          refine lv_iadd hx hb dX12_record_31 ?_
          obtain ⟨l4_5, el4_5, hf⟩ := bL_e hf
          refine top_i el4_5 ?_
          refine lv_istore (lv' := [(4, .int l4_5), (0, .ref (za Z 0)), (1, .int a1), (2, .int l2_2), (3, .int l3_3)]) hx hb dX12_record_32 hl (by decide) rfl (fun ls hl => ?_)
          refine lv_aload_n hx hb dX12_record_34 rfl (lv_at hl 1 rfl) ?_
          refine gF G hw (m_this hZ) KX12 0 (k2 := 1) rfl (by decide) rfl fl_X12_7 dX12_record_35 ?_
          refine lv_iload hx hb dX12_record_38 (lv_at hl 0 rfl) ?_
          refine lv_iconst hx hb dX12_record_40 ki_3 ?_
          refine lv_iadd hx hb dX12_record_41 ?_
          obtain ⟨hg1, hf⟩ := bG_e hf
          refine aI G hw (m_w hZ) hg1 (j := (l4_5 + 3).toNatClampNeg) rfl dX12_record_42 ?_
          refine lv_iload_n hx hb dX12_record_43 rfl (lv_at hl 2 rfl) ?_
          obtain ⟨j96, ej, hf⟩ := bL_e hf
          have R96 : ∀ (l2_6 : Int32) (H : Heap) (locs : List Loc) (ls : Array Slot), Wd Z s S H locs → lv_has ls 5 [(0, .ref (za Z 0)), (1, .int a1), (2, .int l2_6), (3, .int l3_3)] → j96 l2_6 = some q_4 → W p l e { frames := 5, cells := 0, slots := 0, locals := 103 } s m args below meth c H locs 0 0 Q (F0 m 96 ls []) := by
            intro l2_6 H locs ls hw hl hf
            have hf := (congrFun ej l2_6).symm.trans hf
            obtain ⟨l3_7, el3_7, hf⟩ := bL_e hf
            refine lv_iinc (v := l3_7) (lv' := [(3, .int l3_7), (0, .ref (za Z 0)), (1, .int a1), (2, .int l2_6)]) hx hb dX12_record_96 hl (k := 3) rfl (by rw [el3_7]; rfl) (by decide) rfl (fun ls hl => ?_)
            refine lv_goto (tgt := 14) hx hb dX12_record_99 (by decide) ?_
            obtain rfl := Option.some.inj hf
            exact ih _ hg _ _ _ _ _ hw (lv_sub hl [1, 2, 3, 0] rfl) hz
          clear ej
          refine lv_icmp_ne (tgt := 96) hx hb dX12_record_44 (by decide) (fun c_11 => ?_) (fun c_11 => ?_)
          · have hf := (if_neg c_11).symm.trans hf
            exact R96 _ _ _ _ hw (lv_sub hl [1, 2, 3, 4] rfl) hf
          · have hf := (if_pos c_11).symm.trans hf
            refine lv_aload_n hx hb dX12_record_47 rfl (lv_at hl 1 rfl) ?_
            refine gF G hw (m_this hZ) KX12 0 (k2 := 1) rfl (by decide) rfl fl_X12_7 dX12_record_48 ?_
            refine lv_iload hx hb dX12_record_51 (lv_at hl 0 rfl) ?_
            refine lv_bipush hx hb dX12_record_53 kb_8 ?_
            refine lv_iadd hx hb dX12_record_55 ?_
            obtain ⟨hg1, hf⟩ := bG_e hf
            refine aI G hw (m_w hZ) hg1 (j := (l4_5 + 8).toNatClampNeg) rfl dX12_record_56 ?_
            refine lv_if_ne (tgt := 96) hx hb dX12_record_57 (by decide) (fun c_10 => ?_) (fun c_10 => ?_)
            · have hf := (if_neg c_10).symm.trans hf
              exact R96 _ _ _ _ hw (lv_sub hl [1, 2, 3, 4] rfl) hf
            · have hf := (if_pos c_10).symm.trans hf
              refine lv_iload_n hx hb dX12_record_60 rfl (lv_at hl 3 rfl) ?_
              refine lv_iconst hx hb dX12_record_61 ki_m1 ?_
              obtain ⟨j94, ej, hf⟩ := bL_e hf
              have R94 : ∀ (H : Heap) (locs : List Loc) (ls : Array Slot), Wd Z s S H locs → lv_has ls 5 [(0, .ref (za Z 0)), (1, .int a1), (3, .int l3_3)] → j94 () = some q_4 → W p l e { frames := 5, cells := 0, slots := 0, locals := 103 } s m args below meth c H locs 0 0 Q (F0 m 94 ls []) := by
                intro  H locs ls hw hl hf
                have hf := (congrFun ej ()).symm.trans hf
                refine lv_iload_n hx hb dX12_record_94 rfl (lv_at hl 2 rfl) ?_
                refine lv_istore_n (lv' := [(2, .int l3_3), (0, .ref (za Z 0)), (1, .int a1), (3, .int l3_3)]) hx hb dX12_record_95 rfl hl (by decide) rfl (fun ls hl => ?_)
                exact R96 _ _ _ _ hw (lv_sub hl [1, 2, 0, 3] rfl) hf
              clear ej
              refine lv_icmp_eq (tgt := 94) hx hb dX12_record_62 (by decide) (fun c_9 => ?_) (fun c_9 => ?_)
              · have hf := (if_pos c_9).symm.trans hf
                exact R94 _ _ _ hw (lv_sub hl [1, 2, 4] rfl) hf
              · have hf := (if_neg c_9).symm.trans hf
                refine lv_aload_n hx hb dX12_record_65 rfl (lv_at hl 1 rfl) ?_
                refine gF G hw (m_this hZ) KX12 0 (k2 := 1) rfl (by decide) rfl fl_X12_7 dX12_record_66 ?_
                refine lv_iload hx hb dX12_record_69 (lv_at hl 0 rfl) ?_
                refine lv_bipush hx hb dX12_record_71 kb_7 ?_
                refine lv_iadd hx hb dX12_record_73 ?_
                obtain ⟨hg1, hf⟩ := bG_e hf
                refine aI G hw (m_w hZ) hg1 (j := (l4_5 + 7).toNatClampNeg) rfl dX12_record_74 ?_
                refine lv_aload_n hx hb dX12_record_75 rfl (lv_at hl 1 rfl) ?_
                refine gF G hw (m_this hZ) KX12 0 (k2 := 1) rfl (by decide) rfl fl_X12_7 dX12_record_76 ?_
                refine lv_sipush hx hb dX12_record_79 ks_3296 ?_
                refine lv_bipush hx hb dX12_record_82 kb_10 ?_
                refine lv_iload_n hx hb dX12_record_84 rfl (lv_at hl 3 rfl) ?_
                refine lv_imul hx hb dX12_record_85 ?_
                refine lv_iadd hx hb dX12_record_86 ?_
                refine lv_bipush hx hb dX12_record_87 kb_7 ?_
                refine lv_iadd hx hb dX12_record_89 ?_
                obtain ⟨hg1, hf⟩ := bG_e hf
                refine aI G hw (m_w hZ) hg1 (j := ((3296 + (10 * l2_2)) + 7).toNatClampNeg) rfl dX12_record_90 ?_
                refine lv_icmp_le (tgt := 96) hx hb dX12_record_91 (by decide) (fun c_8 => ?_) (fun c_8 => ?_)
                · have hf := (if_pos c_8).symm.trans hf
                  exact R96 _ _ _ _ hw (lv_sub hl [1, 2, 3, 4] rfl) hf
                · have hf := (if_neg c_8).symm.trans hf
                  exact R94 _ _ _ hw (lv_sub hl [1, 2, 4] rfl) hf
    clear eb
    obtain ⟨z, hz, hf⟩ := bB_e hf
    obtain ⟨n, hz⟩ := bP_e hz
    exact RL14 n z hf _ _ _ _ _ hw (lv_sub hl [2, 3, 1, 0] rfl) hz
  · have hf := (if_pos c_13).symm.trans hf
    refine lv_iconst hx hb dX12_record_8 ki_m1 ?_
    exact hret _ _ _ _ _ dX12_record_9 (Option.some.inj hf) hw
noncomputable def F12_needed (S : pS) (a1 : Int32) (a2 : Int32) (a3 : Int32) (a4 : Int32) : Option (Int32 × pS) :=
  if (F12_isIn a1 0 60) = 0 then
    some (((-1) : Int32), S)
  else
    if (F12_isSpear S a2) = 0 then
      some (((-1) : Int32), S)
    else
      if (F12_isWind a3) = 0 then
        some (((-1) : Int32), S)
      else
        bL (fun (S_1 : pS) =>
          some (((-1) : Int32), S_1)) fun g70_30 =>
        bL (fun (l5_2 : Int32) (S_3 : pS) =>
          some (l5_2, S_3)) fun g61_30 =>
        bL (u2 fun (l5_4 : Int32) (S_5 : pS) =>
          if 100 ≤ l5_4 then
            some (.inr (.inl S_5))
          else
            bB2 (F12_goodFar S_5 l5_4 a1 a2 a3) fun r_7 S_8 =>
            bL (fun (_ : Unit) =>
              bL (l5_4 + 1) fun l5_9 =>
              some (.inl (l5_9, S_8))) fun j64 =>
            if r_7 = (-1) then
              j64 ()
            else
              if r_7 < a4 then
                j64 ()
              else
                some (.inr (.inr (l5_4, S_8)))) fun b30 =>
        bB (bP b30 ((0 : Int32), S)) (Sum.elim (u1 g70_30) (u2 g61_30))
set_option maxRecDepth 100000 in
set_option maxHeartbeats 4000000 in
theorem wX12_needed {l : Launch} {Z : pZ}  (hZ : CM Z) (S : pS) (a1 : Int32) (a2 : Int32) (a3 : Int32) (a4 : Int32) (r : Int32) (S2 : pS)  (hf : F12_needed S a1 a2 a3 a4 = some (r, S2)) : CI l Z yX12_needed cX12_needed 7 .int 9 207 [.ref (za Z 0), .int a1, .int a2, .int a3, .int a4] S r S2 := by
  unfold F12_needed at hf
  refine eI (own := RX12) (by decide) rfl (Nat.le_of_ble_eq_true rfl) (fun p e s m args below meth c Q ls G hl hw hret => ?_)
  obtain ⟨hx, hb, hml, hown, hts⟩ := G.1
  have hl : lv_has ls 7 [(0, .ref (za Z 0)), (1, .int a1), (2, .int a2), (3, .int a3), (4, .int a4)] := hl
  refine lv_iload_n hx hb dX12_needed_0 rfl (lv_at hl 1 rfl) ?_
  refine lv_iconst hx hb dX12_needed_1 ki_0 ?_
  refine lv_bipush hx hb dX12_needed_2 kb_60 ?_
  refine kSi (rest := []) G hw (wX12_isIn hZ S a1 0 60 (F12_isIn a1 0 60) rfl) cw_X12_71 ⟨Nat.le_of_ble_eq_true rfl, Nat.le_of_ble_eq_true rfl⟩ rfl hl.1 rfl (Nat.le_of_ble_eq_true rfl) ⟨Nat.le_refl _, Nat.le_refl _⟩ dX12_needed_4 (fun H locs hw => ?_)
  refine lv_if_eq (tgt := 25) hx hb dX12_needed_7 (by decide) (fun c_15 => ?_) (fun c_15 => ?_)
  · have hf := (if_pos c_15).symm.trans hf
    refine lv_iconst hx hb dX12_needed_25 ki_m1 ?_
    obtain ⟨e1, e2⟩ := Prod.mk.inj (Option.some.inj hf)
    exact hret _ _ _ _ _ dX12_needed_26 e1 (by rw [← e2]; exact hw)
  · have hf := (if_neg c_15).symm.trans hf
    refine lv_aload_n hx hb dX12_needed_10 rfl (lv_at hl 0 rfl) ?_
    refine lv_iload_n hx hb dX12_needed_11 rfl (lv_at hl 2 rfl) ?_
    refine kVi (rest := []) G hw (wX12_isSpear hZ S a2 (F12_isSpear S a2) rfl) cw_X12_401 (m_this hZ) KX12 ⟨Nat.le_of_ble_eq_true rfl, Nat.le_of_ble_eq_true rfl⟩ rfl hl.1 rfl (Nat.le_of_ble_eq_true rfl) ⟨Nat.le_refl _, Nat.le_refl _⟩ dX12_needed_12 (fun H locs hw => ?_)
    refine lv_if_eq (tgt := 25) hx hb dX12_needed_15 (by decide) (fun c_14 => ?_) (fun c_14 => ?_)
    · have hf := (if_pos c_14).symm.trans hf
      refine lv_iconst hx hb dX12_needed_25 ki_m1 ?_
      obtain ⟨e1, e2⟩ := Prod.mk.inj (Option.some.inj hf)
      exact hret _ _ _ _ _ dX12_needed_26 e1 (by rw [← e2]; exact hw)
    · have hf := (if_neg c_14).symm.trans hf
      refine lv_iload_n hx hb dX12_needed_18 rfl (lv_at hl 3 rfl) ?_
      refine kSi (rest := []) G hw (wX12_isWind hZ S a3 (F12_isWind a3) rfl) cw_X12_443 ⟨Nat.le_of_ble_eq_true rfl, Nat.le_of_ble_eq_true rfl⟩ rfl hl.1 rfl (Nat.le_of_ble_eq_true rfl) ⟨Nat.le_refl _, Nat.le_refl _⟩ dX12_needed_19 (fun H locs hw => ?_)
      refine lv_if_ne (tgt := 27) hx hb dX12_needed_22 (by decide) (fun c_13 => ?_) (fun c_13 => ?_)
      · have hf := (if_neg c_13).symm.trans hf
        refine lv_iconst hx hb dX12_needed_27 ki_0 ?_
        refine lv_istore (lv' := [(5, .int 0), (0, .ref (za Z 0)), (1, .int a1), (2, .int a2), (3, .int a3), (4, .int a4)]) hx hb dX12_needed_28 hl (by decide) rfl (fun ls hl => ?_)
        obtain ⟨g70_30, ej, hf⟩ := bL_e hf
        have R70_30 : ∀ (S_1 : pS) (H : Heap) (locs : List Loc) (ls : Array Slot), Wd Z s S_1 H locs → lv_has ls 7 [] → g70_30 S_1 = some (r, S2) → W p l e { frames := 9, cells := 0, slots := 0, locals := 207 } s m args below meth c H locs 0 0 Q (F0 m 70 ls []) := by
          intro S_1 H locs ls hw hl hf
          have hf := (congrFun ej S_1).symm.trans hf
          refine lv_iconst hx hb dX12_needed_70 ki_m1 ?_
          obtain ⟨e1, e2⟩ := Prod.mk.inj (Option.some.inj hf)
          exact hret _ _ _ _ _ dX12_needed_71 e1 (by rw [← e2]; exact hw)
        clear ej
        obtain ⟨g61_30, ej, hf⟩ := bL_e hf
        have R61_30 : ∀ (l5_2 : Int32) (S_3 : pS) (H : Heap) (locs : List Loc) (ls : Array Slot), Wd Z s S_3 H locs → lv_has ls 7 [(5, .int l5_2)] → g61_30 l5_2 S_3 = some (r, S2) → W p l e { frames := 9, cells := 0, slots := 0, locals := 207 } s m args below meth c H locs 0 0 Q (F0 m 61 ls []) := by
          intro l5_2 S_3 H locs ls hw hl hf
          have hf := (congrFun (congrFun ej l5_2) S_3).symm.trans hf
          refine lv_iload hx hb dX12_needed_61 (lv_at hl 0 rfl) ?_
          obtain ⟨e1, e2⟩ := Prod.mk.inj (Option.some.inj hf)
          exact hret _ _ _ _ _ dX12_needed_63 e1 (by rw [← e2]; exact hw)
        clear ej
        obtain ⟨b30, eb, hf⟩ := bL_e hf
        have RL30 : ∀ (n : Nat) z, (Sum.elim (u1 g70_30) (u2 g61_30)) z = some (r, S2) → ∀ (l5_4 : Int32) (S_5 : pS) (H : Heap) (locs : List Loc) (ls : Array Slot), Wd Z s S_5 H locs → lv_has ls 7 [(0, .ref (za Z 0)), (1, .int a1), (2, .int a2), (3, .int a3), (4, .int a4), (5, .int l5_4)] → bPn b30 n (l5_4, S_5) = some z → W p l e { frames := 9, cells := 0, slots := 0, locals := 207 } s m args below meth c H locs 0 0 Q (F0 m 30 ls []) := by
          intro n
          induction n with
          | zero =>
            intro z hg l5_4 S_5 H locs ls hw hl hz
            exact bPn_0 hz
          | succ n ih =>
            intro z hg l5_4 S_5 H locs ls hw hl hz
            obtain ⟨q_6, hf, hz⟩ := bPn_e hz
            have hf := u2_e ((congrFun eb _).symm.trans hf)
            refine lv_iload hx hb dX12_needed_30 (lv_at hl 5 rfl) ?_
            refine lv_bipush hx hb dX12_needed_32 kb_100 ?_
            refine lv_icmp_ge (tgt := 70) hx hb dX12_needed_34 (by decide) (fun c_12 => ?_) (fun c_12 => ?_)
            · have hf := (if_pos c_12).symm.trans hf
              obtain rfl := Option.some.inj hf
              obtain rfl := Option.some.inj (hz : some _ = some _)
              exact R70_30 _ _ _ _ hw (lv_sub hl [] rfl) hg
            · have hf := (if_neg c_12).symm.trans hf
              refine lv_aload_n hx hb dX12_needed_37 rfl (lv_at hl 0 rfl) ?_
              refine lv_iload hx hb dX12_needed_38 (lv_at hl 5 rfl) ?_
              refine lv_iload_n hx hb dX12_needed_40 rfl (lv_at hl 1 rfl) ?_
              refine lv_iload_n hx hb dX12_needed_41 rfl (lv_at hl 2 rfl) ?_
              refine lv_iload_n hx hb dX12_needed_42 rfl (lv_at hl 3 rfl) ?_
              obtain ⟨r_7, S_8, hr_7, hf⟩ := bB2_e hf
              refine kVi (rest := []) G hw (wX12_goodFar hZ S_5 l5_4 a1 a2 a3 r_7 S_8 hr_7) cw_X12_434 (m_this hZ) KX12 ⟨Nat.le_of_ble_eq_true rfl, Nat.le_of_ble_eq_true rfl⟩ rfl hl.1 rfl (Nat.le_of_ble_eq_true rfl) ⟨Nat.le_refl _, Nat.le_refl _⟩ dX12_needed_43 (fun H locs hw => ?_)
              refine lv_istore (lv' := [(6, .int r_7), (0, .ref (za Z 0)), (1, .int a1), (2, .int a2), (3, .int a3), (4, .int a4), (5, .int l5_4)]) hx hb dX12_needed_46 hl (by decide) rfl (fun ls hl => ?_)
              refine lv_iload hx hb dX12_needed_48 (lv_at hl 0 rfl) ?_
              refine lv_iconst hx hb dX12_needed_50 ki_m1 ?_
              obtain ⟨j64, ej, hf⟩ := bL_e hf
              have R64 : ∀ (H : Heap) (locs : List Loc) (ls : Array Slot), Wd Z s S_8 H locs → lv_has ls 7 [(0, .ref (za Z 0)), (1, .int a1), (2, .int a2), (3, .int a3), (4, .int a4), (5, .int l5_4)] → j64 () = some q_6 → W p l e { frames := 9, cells := 0, slots := 0, locals := 207 } s m args below meth c H locs 0 0 Q (F0 m 64 ls []) := by
                intro  H locs ls hw hl hf
                have hf := (congrFun ej ()).symm.trans hf
                obtain ⟨l5_9, el5_9, hf⟩ := bL_e hf
                refine lv_iinc (v := l5_9) (lv' := [(5, .int l5_9), (0, .ref (za Z 0)), (1, .int a1), (2, .int a2), (3, .int a3), (4, .int a4)]) hx hb dX12_needed_64 hl (k := 5) rfl (by rw [el5_9]; rfl) (by decide) rfl (fun ls hl => ?_)
                refine lv_goto (tgt := 30) hx hb dX12_needed_67 (by decide) ?_
                obtain rfl := Option.some.inj hf
                exact ih _ hg _ _ _ _ _ hw (lv_sub hl [1, 2, 3, 4, 5, 0] rfl) hz
              clear ej
              refine lv_icmp_eq (tgt := 64) hx hb dX12_needed_51 (by decide) (fun c_11 => ?_) (fun c_11 => ?_)
              · have hf := (if_pos c_11).symm.trans hf
                exact R64 _ _ _ hw (lv_sub hl [1, 2, 3, 4, 5, 6] rfl) hf
              · have hf := (if_neg c_11).symm.trans hf
                refine lv_iload hx hb dX12_needed_54 (lv_at hl 0 rfl) ?_
                refine lv_iload hx hb dX12_needed_56 (lv_at hl 5 rfl) ?_
                refine lv_icmp_lt (tgt := 64) hx hb dX12_needed_58 (by decide) (fun c_10 => ?_) (fun c_10 => ?_)
                · have hf := (if_pos c_10).symm.trans hf
                  exact R64 _ _ _ hw (lv_sub hl [1, 2, 3, 4, 5, 6] rfl) hf
                · have hf := (if_neg c_10).symm.trans hf
                  obtain rfl := Option.some.inj hf
                  obtain rfl := Option.some.inj (hz : some _ = some _)
                  exact R61_30 _ _ _ _ _ hw (lv_sub hl [6] rfl) hg
        clear eb
        obtain ⟨z, hz, hf⟩ := bB_e hf
        obtain ⟨n, hz⟩ := bP_e hz
        exact RL30 n z hf _ _ _ _ _ hw (lv_sub hl [1, 2, 3, 4, 5, 0] rfl) hz
      · have hf := (if_pos c_13).symm.trans hf
        refine lv_iconst hx hb dX12_needed_25 ki_m1 ?_
        obtain ⟨e1, e2⟩ := Prod.mk.inj (Option.some.inj hf)
        exact hret _ _ _ _ _ dX12_needed_26 e1 (by rw [← e2]; exact hw)

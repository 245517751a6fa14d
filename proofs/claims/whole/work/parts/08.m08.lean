noncomputable def F12_trained (S : pS) (a1 : Int32) (a2 : Int32) (a3 : Int32) (a4 : Int32) : Option (Int32 × pS) :=
  bB (F12_own S a1 0) fun r_1 =>
  bB (F12_own S a1 1) fun r_2 =>
  bL (sU S 11 0 ((1001 * r_1) + r_2)) fun S_3 =>
  bB2 (F12_trains S_3 1 0 a4 a4 a3) fun r_4 S_5 =>
  bL (fun (l5_6 : Int32) (S_7 : pS) =>
    bL (fun (l6_8 : Int32) =>
      some (l6_8, S_7)) fun g101_70 =>
    bL (u2 fun (l6_9 : Int32) (l7_10 : Int32) =>
      if l5_6 ≤ l7_10 then
        some (.inr l6_9)
      else
        bG (vp_in l7_10 100100) <|
        bL (F12_greater l6_9 ((S_7 11 l7_10.toNatClampNeg) / 1001)) fun l6_12 =>
        bL (l7_10 + 1) fun l7_13 =>
        some (.inl (l6_12, l7_13))) fun b70 =>
    bB (bP b70 (((-1) : Int32), (0 : Int32))) (u1 g101_70)) fun g64_39 =>
  bL (u3 fun (l5_15 : Int32) (l6_16 : Int32) (S_17 : pS) =>
    if a2 ≤ l6_16 then
      some (.inr (l5_15, S_17))
    else
      bB2 (F12_trains S_17 l5_15 l6_16 0 3 a3) fun r_19 S_20 =>
      bL (l6_16 + 1) fun l6_21 =>
      some (.inl (r_19, l6_21, S_20))) fun b39 =>
  bB (bP b39 (r_4, (1 : Int32), S_5)) (u2 g64_39)
set_option maxRecDepth 100000 in
set_option maxHeartbeats 4000000 in
theorem wX12_trained {l : Launch} {Z : pZ}  (hZ : CM Z) (S : pS) (a1 : Int32) (a2 : Int32) (a3 : Int32) (a4 : Int32) (r : Int32) (S2 : pS)  (hf : F12_trained S a1 a2 a3 a4 = some (r, S2)) : CI l Z yX12_trained cX12_trained 8 .int 7 164 [.ref (za Z 0), .int a1, .int a2, .int a3, .int a4] S r S2 := by
  unfold F12_trained at hf
  refine eI (own := RX12) (by decide) rfl (Nat.le_of_ble_eq_true rfl) (fun p e s m args below meth c Q ls G hl hw hret => ?_)
  obtain ⟨hx, hb, hml, hown, hts⟩ := G.1
  have hl : lv_has ls 8 [(0, .ref (za Z 0)), (1, .int a1), (2, .int a2), (3, .int a3), (4, .int a4)] := hl
  refine lv_aload_n hx hb dX12_trained_0 rfl (lv_at hl 0 rfl) ?_
  refine gF G hw (m_this hZ) KX12 40 (k2 := 11) rfl (by decide) rfl fl_X12_45 dX12_trained_1 ?_
  refine lv_iconst hx hb dX12_trained_4 ki_0 ?_
  refine lv_sipush hx hb dX12_trained_5 ks_1001 ?_
  refine lv_aload_n hx hb dX12_trained_8 rfl (lv_at hl 0 rfl) ?_
  refine lv_iload_n hx hb dX12_trained_9 rfl (lv_at hl 1 rfl) ?_
  refine lv_iconst hx hb dX12_trained_10 ki_0 ?_
  obtain ⟨r_1, hr_1, hf⟩ := bB_e hf
  refine kVi (rest := [.int 1001, .int 0, .ref (za Z 11)]) G hw (wX12_own hZ S a1 0 r_1 hr_1) cw_X12_324 (m_this hZ) KX12 ⟨Nat.le_of_ble_eq_true rfl, Nat.le_of_ble_eq_true rfl⟩ rfl hl.1 rfl (Nat.le_of_ble_eq_true rfl) ⟨Nat.le_refl _, Nat.le_refl _⟩ dX12_trained_11 (fun H locs hw => ?_)
  refine lv_imul hx hb dX12_trained_14 ?_
  refine lv_aload_n hx hb dX12_trained_15 rfl (lv_at hl 0 rfl) ?_
  refine lv_iload_n hx hb dX12_trained_16 rfl (lv_at hl 1 rfl) ?_
  refine lv_iconst hx hb dX12_trained_17 ki_1 ?_
  obtain ⟨r_2, hr_2, hf⟩ := bB_e hf
  refine kVi (rest := [.int (1001 * r_1), .int 0, .ref (za Z 11)]) G hw (wX12_own hZ S a1 1 r_2 hr_2) cw_X12_324 (m_this hZ) KX12 ⟨Nat.le_of_ble_eq_true rfl, Nat.le_of_ble_eq_true rfl⟩ rfl hl.1 rfl (Nat.le_of_ble_eq_true rfl) ⟨Nat.le_refl _, Nat.le_refl _⟩ dX12_trained_18 (fun H locs hw => ?_)
  refine lv_iadd hx hb dX12_trained_21 ?_
  obtain ⟨S_3, eS_3, hf⟩ := bL_e hf
  refine sI G hw (m_reach hZ) (vin_e (by decide)) (j := 0) (by decide) eS_3 dX12_trained_22 (fun H locs hw => ?_)
  refine lv_aload_n hx hb dX12_trained_23 rfl (lv_at hl 0 rfl) ?_
  refine lv_iconst hx hb dX12_trained_24 ki_1 ?_
  refine lv_iconst hx hb dX12_trained_25 ki_0 ?_
  refine lv_iload hx hb dX12_trained_26 (lv_at hl 4 rfl) ?_
  refine lv_iload hx hb dX12_trained_28 (lv_at hl 4 rfl) ?_
  refine lv_iload_n hx hb dX12_trained_30 rfl (lv_at hl 3 rfl) ?_
  obtain ⟨r_4, S_5, hr_4, hf⟩ := bB2_e hf
  refine kVi (rest := []) G hw (wX12_trains hZ S_3 1 0 a4 a4 a3 r_4 S_5 hr_4) cw_X12_473 (m_this hZ) KX12 ⟨Nat.le_of_ble_eq_true rfl, Nat.le_of_ble_eq_true rfl⟩ rfl hl.1 rfl (Nat.le_of_ble_eq_true rfl) ⟨Nat.le_refl _, Nat.le_refl _⟩ dX12_trained_31 (fun H locs hw => ?_)
  refine lv_istore (lv' := [(5, .int r_4), (0, .ref (za Z 0)), (1, .int a1), (2, .int a2), (3, .int a3), (4, .int a4)]) hx hb dX12_trained_34 hl (by decide) rfl (fun ls hl => ?_)
  refine lv_iconst hx hb dX12_trained_36 ki_1 ?_
  refine lv_istore (lv' := [(6, .int 1), (5, .int r_4), (0, .ref (za Z 0)), (1, .int a1), (2, .int a2), (3, .int a3), (4, .int a4)]) hx hb dX12_trained_37 hl (by decide) rfl (fun ls hl => ?_)
  obtain ⟨g64_39, ej, hf⟩ := bL_e hf
  have R64_39 : ∀ (l5_6 : Int32) (S_7 : pS) (H : Heap) (locs : List Loc) (ls : Array Slot), Wd Z s S_7 H locs → lv_has ls 8 [(0, .ref (za Z 0)), (5, .int l5_6)] → g64_39 l5_6 S_7 = some (r, S2) → W p l e { frames := 7, cells := 0, slots := 0, locals := 164 } s m args below meth c H locs 0 0 Q (F0 m 64 ls []) := by
    intro l5_6 S_7 H locs ls hw hl hf
    have hf := (congrFun (congrFun ej l5_6) S_7).symm.trans hf
    refine lv_iconst hx hb dX12_trained_64 ki_m1 ?_
    refine lv_istore (lv' := [(6, .int (-1)), (0, .ref (za Z 0)), (5, .int l5_6)]) hx hb dX12_trained_65 hl (by decide) rfl (fun ls hl => ?_)
    refine lv_iconst hx hb dX12_trained_67 ki_0 ?_
    refine lv_istore (lv' := [(7, .int 0), (6, .int (-1)), (0, .ref (za Z 0)), (5, .int l5_6)]) hx hb dX12_trained_68 hl (by decide) rfl (fun ls hl => ?_)
    obtain ⟨g101_70, ej, hf⟩ := bL_e hf
    have R101_70 : ∀ (l6_8 : Int32) (H : Heap) (locs : List Loc) (ls : Array Slot), Wd Z s S_7 H locs → lv_has ls 8 [(6, .int l6_8)] → g101_70 l6_8 = some (r, S2) → W p l e { frames := 7, cells := 0, slots := 0, locals := 164 } s m args below meth c H locs 0 0 Q (F0 m 101 ls []) := by
      intro l6_8 H locs ls hw hl hf
      have hf := (congrFun ej l6_8).symm.trans hf
      refine lv_iload hx hb dX12_trained_101 (lv_at hl 0 rfl) ?_
      obtain ⟨e1, e2⟩ := Prod.mk.inj (Option.some.inj hf)
      exact hret _ _ _ _ _ dX12_trained_103 e1 (by rw [← e2]; exact hw)
    clear ej
    obtain ⟨b70, eb, hf⟩ := bL_e hf
    have RL70 : ∀ (n : Nat) z, (u1 g101_70) z = some (r, S2) → ∀ (l6_9 : Int32) (l7_10 : Int32) (H : Heap) (locs : List Loc) (ls : Array Slot), Wd Z s S_7 H locs → lv_has ls 8 [(0, .ref (za Z 0)), (5, .int l5_6), (6, .int l6_9), (7, .int l7_10)] → bPn b70 n (l6_9, l7_10) = some z → W p l e { frames := 7, cells := 0, slots := 0, locals := 164 } s m args below meth c H locs 0 0 Q (F0 m 70 ls []) := by
      intro n
      induction n with
      | zero =>
        intro z hg l6_9 l7_10 H locs ls hw hl hz
        exact bPn_0 hz
      | succ n ih =>
        intro z hg l6_9 l7_10 H locs ls hw hl hz
        obtain ⟨q_11, hf, hz⟩ := bPn_e hz
        have hf := u2_e ((congrFun eb _).symm.trans hf)
        refine lv_iload hx hb dX12_trained_70 (lv_at hl 3 rfl) ?_
        refine lv_iload hx hb dX12_trained_72 (lv_at hl 1 rfl) ?_
        refine lv_icmp_ge (tgt := 101) hx hb dX12_trained_74 (by decide) (fun c_14 => ?_) (fun c_14 => ?_)
        · have hf := (if_pos c_14).symm.trans hf
          obtain rfl := Option.some.inj hf
          obtain rfl := Option.some.inj (hz : some _ = some _)
          exact R101_70 _ _ _ _ hw (lv_sub hl [2] rfl) hg
        · have hf := (if_neg c_14).symm.trans hf
          refine lv_iload hx hb dX12_trained_77 (lv_at hl 2 rfl) ?_
          refine lv_aload_n hx hb dX12_trained_79 rfl (lv_at hl 0 rfl) ?_
          refine gF G hw (m_this hZ) KX12 40 (k2 := 11) rfl (by decide) rfl fl_X12_45 dX12_trained_80 ?_
          refine lv_iload hx hb dX12_trained_83 (lv_at hl 3 rfl) ?_
          obtain ⟨hg1, hf⟩ := bG_e hf
          refine aI G hw (m_reach hZ) hg1 (j := l7_10.toNatClampNeg) rfl dX12_trained_85 ?_
          refine lv_sipush hx hb dX12_trained_86 ks_1001 ?_
          refine lv_idiv hx hb dX12_trained_89 (by decide) ?_
          refine kSi (rest := []) G hw (wX12_greater hZ S_7 l6_9 ((S_7 11 l7_10.toNatClampNeg) / 1001) (F12_greater l6_9 ((S_7 11 l7_10.toNatClampNeg) / 1001)) rfl) cw_X12_68 ⟨Nat.le_of_ble_eq_true rfl, Nat.le_of_ble_eq_true rfl⟩ rfl hl.1 rfl (Nat.le_of_ble_eq_true rfl) ⟨Nat.le_refl _, Nat.le_refl _⟩ dX12_trained_90 (fun H locs hw => ?_)
          obtain ⟨l6_12, el6_12, hf⟩ := bL_e hf
          refine top_i el6_12 ?_
          refine lv_istore (lv' := [(6, .int l6_12), (0, .ref (za Z 0)), (5, .int l5_6), (7, .int l7_10)]) hx hb dX12_trained_93 hl (by decide) rfl (fun ls hl => ?_)
          obtain ⟨l7_13, el7_13, hf⟩ := bL_e hf
          refine lv_iinc (v := l7_13) (lv' := [(7, .int l7_13), (6, .int l6_12), (0, .ref (za Z 0)), (5, .int l5_6)]) hx hb dX12_trained_95 hl (k := 3) rfl (by rw [el7_13]; rfl) (by decide) rfl (fun ls hl => ?_)
          refine lv_goto (tgt := 70) hx hb dX12_trained_98 (by decide) ?_
          obtain rfl := Option.some.inj hf
          exact ih _ hg _ _ _ _ _ hw (lv_sub hl [2, 3, 1, 0] rfl) hz
    clear eb
    obtain ⟨z, hz, hf⟩ := bB_e hf
    obtain ⟨n, hz⟩ := bP_e hz
    exact RL70 n z hf _ _ _ _ _ hw (lv_sub hl [2, 3, 1, 0] rfl) hz
  clear ej
  obtain ⟨b39, eb, hf⟩ := bL_e hf
  have RL39 : ∀ (n : Nat) z, (u2 g64_39) z = some (r, S2) → ∀ (l5_15 : Int32) (l6_16 : Int32) (S_17 : pS) (H : Heap) (locs : List Loc) (ls : Array Slot), Wd Z s S_17 H locs → lv_has ls 8 [(0, .ref (za Z 0)), (2, .int a2), (3, .int a3), (5, .int l5_15), (6, .int l6_16)] → bPn b39 n (l5_15, l6_16, S_17) = some z → W p l e { frames := 7, cells := 0, slots := 0, locals := 164 } s m args below meth c H locs 0 0 Q (F0 m 39 ls []) := by
    intro n
    induction n with
    | zero =>
      intro z hg l5_15 l6_16 S_17 H locs ls hw hl hz
      exact bPn_0 hz
    | succ n ih =>
      intro z hg l5_15 l6_16 S_17 H locs ls hw hl hz
      obtain ⟨q_18, hf, hz⟩ := bPn_e hz
      have hf := u3_e ((congrFun eb _).symm.trans hf)
      refine lv_iload hx hb dX12_trained_39 (lv_at hl 4 rfl) ?_
      refine lv_iload_n hx hb dX12_trained_41 rfl (lv_at hl 1 rfl) ?_
      refine lv_icmp_ge (tgt := 64) hx hb dX12_trained_42 (by decide) (fun c_22 => ?_) (fun c_22 => ?_)
      · have hf := (if_pos c_22).symm.trans hf
        obtain rfl := Option.some.inj hf
        obtain rfl := Option.some.inj (hz : some _ = some _)
        exact R64_39 _ _ _ _ _ hw (lv_sub hl [0, 3] rfl) hg
      · have hf := (if_neg c_22).symm.trans hf
        refine lv_aload_n hx hb dX12_trained_45 rfl (lv_at hl 0 rfl) ?_
        refine lv_iload hx hb dX12_trained_46 (lv_at hl 3 rfl) ?_
        refine lv_iload hx hb dX12_trained_48 (lv_at hl 4 rfl) ?_
        refine lv_iconst hx hb dX12_trained_50 ki_0 ?_
        refine lv_iconst hx hb dX12_trained_51 ki_3 ?_
        refine lv_iload_n hx hb dX12_trained_52 rfl (lv_at hl 2 rfl) ?_
        obtain ⟨r_19, S_20, hr_19, hf⟩ := bB2_e hf
        refine kVi (rest := []) G hw (wX12_trains hZ S_17 l5_15 l6_16 0 3 a3 r_19 S_20 hr_19) cw_X12_473 (m_this hZ) KX12 ⟨Nat.le_of_ble_eq_true rfl, Nat.le_of_ble_eq_true rfl⟩ rfl hl.1 rfl (Nat.le_of_ble_eq_true rfl) ⟨Nat.le_refl _, Nat.le_refl _⟩ dX12_trained_53 (fun H locs hw => ?_)
        refine lv_istore (lv' := [(5, .int r_19), (0, .ref (za Z 0)), (2, .int a2), (3, .int a3), (6, .int l6_16)]) hx hb dX12_trained_56 hl (by decide) rfl (fun ls hl => ?_)
        obtain ⟨l6_21, el6_21, hf⟩ := bL_e hf
        refine lv_iinc (v := l6_21) (lv' := [(6, .int l6_21), (5, .int r_19), (0, .ref (za Z 0)), (2, .int a2), (3, .int a3)]) hx hb dX12_trained_58 hl (k := 4) rfl (by rw [el6_21]; rfl) (by decide) rfl (fun ls hl => ?_)
        refine lv_goto (tgt := 39) hx hb dX12_trained_61 (by decide) ?_
        obtain rfl := Option.some.inj hf
        exact ih _ hg _ _ _ _ _ _ hw (lv_sub hl [2, 3, 4, 1, 0] rfl) hz
  clear eb
  obtain ⟨z, hz, hf⟩ := bB_e hf
  obtain ⟨n, hz⟩ := bP_e hz
  exact RL39 n z hf _ _ _ _ _ _ hw (lv_sub hl [2, 4, 5, 1, 0] rfl) hz
noncomputable def F12_train (S : pS) (a1 : Int32) (a2 : Int32) (a3 : Int32) (a4 : Int32) : Option (Int32 × pS) :=
  if (F12_isThrower S a1) = 0 then
    some (((-1) : Int32), S)
  else
    if (F12_isIn a2 1 12) = 0 then
      some (((-1) : Int32), S)
    else
      if (F12_isIn a3 0 1000) = 0 then
        some (((-1) : Int32), S)
      else
        if (F12_isIn a4 0 1) = 0 then
          some (((-1) : Int32), S)
        else
          bL (fun (l5_1 : Int32) (l6_2 : Int32) (S_3 : pS) =>
            if a4 = 0 then
              some (l5_1, S_3)
            else
              some (l6_2, S_3)) fun g91_50 =>
          bL (u4 fun (l5_5 : Int32) (l6_6 : Int32) (l7_7 : Int32) (S_8 : pS) =>
            if 4 ≤ l7_7 then
              some (.inr (l5_5, l6_6, S_8))
            else
              bB2 (F12_trained S_8 a1 a2 a3 l7_7) fun r_10 S_11 =>
              bL (fun (l5_12 : Int32) (l6_13 : Int32) =>
                bL (l7_7 + 1) fun l7_14 =>
                some (.inl (l5_12, l6_13, l7_14, S_11))) fun j85 =>
              if l5_5 < r_10 then
                j85 r_10 l7_7
              else
                j85 l5_5 l6_6) fun b50 =>
          bB (bP b50 (((-1) : Int32), ((-1) : Int32), (0 : Int32), S)) (u3 g91_50)
set_option maxRecDepth 100000 in
set_option maxHeartbeats 4000000 in
theorem wX12_train {l : Launch} {Z : pZ}  (hZ : CM Z) (S : pS) (a1 : Int32) (a2 : Int32) (a3 : Int32) (a4 : Int32) (r : Int32) (S2 : pS)  (hf : F12_train S a1 a2 a3 a4 = some (r, S2)) : CI l Z yX12_train cX12_train 9 .int 8 191 [.ref (za Z 0), .int a1, .int a2, .int a3, .int a4] S r S2 := by
  unfold F12_train at hf
  refine eI (own := RX12) (by decide) rfl (Nat.le_of_ble_eq_true rfl) (fun p e s m args below meth c Q ls G hl hw hret => ?_)
  obtain ⟨hx, hb, hml, hown, hts⟩ := G.1
  have hl : lv_has ls 9 [(0, .ref (za Z 0)), (1, .int a1), (2, .int a2), (3, .int a3), (4, .int a4)] := hl
  refine lv_aload_n hx hb dX12_train_0 rfl (lv_at hl 0 rfl) ?_
  refine lv_iload_n hx hb dX12_train_1 rfl (lv_at hl 1 rfl) ?_
  refine kVi (rest := []) G hw (wX12_isThrower hZ S a1 (F12_isThrower S a1) rfl) cw_X12_87 (m_this hZ) KX12 ⟨Nat.le_of_ble_eq_true rfl, Nat.le_of_ble_eq_true rfl⟩ rfl hl.1 rfl (Nat.le_of_ble_eq_true rfl) ⟨Nat.le_refl _, Nat.le_refl _⟩ dX12_train_2 (fun H locs hw => ?_)
  refine lv_if_eq (tgt := 39) hx hb dX12_train_5 (by decide) (fun c_20 => ?_) (fun c_20 => ?_)
  · have hf := (if_pos c_20).symm.trans hf
    refine lv_iconst hx hb dX12_train_39 ki_m1 ?_
    obtain ⟨e1, e2⟩ := Prod.mk.inj (Option.some.inj hf)
    exact hret _ _ _ _ _ dX12_train_40 e1 (by rw [← e2]; exact hw)
  · have hf := (if_neg c_20).symm.trans hf
    refine lv_iload_n hx hb dX12_train_8 rfl (lv_at hl 2 rfl) ?_
    refine lv_iconst hx hb dX12_train_9 ki_1 ?_
    refine lv_bipush hx hb dX12_train_10 kb_12 ?_
    refine kSi (rest := []) G hw (wX12_isIn hZ S a2 1 12 (F12_isIn a2 1 12) rfl) cw_X12_71 ⟨Nat.le_of_ble_eq_true rfl, Nat.le_of_ble_eq_true rfl⟩ rfl hl.1 rfl (Nat.le_of_ble_eq_true rfl) ⟨Nat.le_refl _, Nat.le_refl _⟩ dX12_train_12 (fun H locs hw => ?_)
    refine lv_if_eq (tgt := 39) hx hb dX12_train_15 (by decide) (fun c_19 => ?_) (fun c_19 => ?_)
    · have hf := (if_pos c_19).symm.trans hf
      refine lv_iconst hx hb dX12_train_39 ki_m1 ?_
      obtain ⟨e1, e2⟩ := Prod.mk.inj (Option.some.inj hf)
      exact hret _ _ _ _ _ dX12_train_40 e1 (by rw [← e2]; exact hw)
    · have hf := (if_neg c_19).symm.trans hf
      refine lv_iload_n hx hb dX12_train_18 rfl (lv_at hl 3 rfl) ?_
      refine lv_iconst hx hb dX12_train_19 ki_0 ?_
      refine lv_sipush hx hb dX12_train_20 ks_1000 ?_
      refine kSi (rest := []) G hw (wX12_isIn hZ S a3 0 1000 (F12_isIn a3 0 1000) rfl) cw_X12_71 ⟨Nat.le_of_ble_eq_true rfl, Nat.le_of_ble_eq_true rfl⟩ rfl hl.1 rfl (Nat.le_of_ble_eq_true rfl) ⟨Nat.le_refl _, Nat.le_refl _⟩ dX12_train_23 (fun H locs hw => ?_)
      refine lv_if_eq (tgt := 39) hx hb dX12_train_26 (by decide) (fun c_18 => ?_) (fun c_18 => ?_)
      · have hf := (if_pos c_18).symm.trans hf
        refine lv_iconst hx hb dX12_train_39 ki_m1 ?_
        obtain ⟨e1, e2⟩ := Prod.mk.inj (Option.some.inj hf)
        exact hret _ _ _ _ _ dX12_train_40 e1 (by rw [← e2]; exact hw)
      · have hf := (if_neg c_18).symm.trans hf
        refine lv_iload hx hb dX12_train_29 (lv_at hl 4 rfl) ?_
        refine lv_iconst hx hb dX12_train_31 ki_0 ?_
        refine lv_iconst hx hb dX12_train_32 ki_1 ?_
        refine kSi (rest := []) G hw (wX12_isIn hZ S a4 0 1 (F12_isIn a4 0 1) rfl) cw_X12_71 ⟨Nat.le_of_ble_eq_true rfl, Nat.le_of_ble_eq_true rfl⟩ rfl hl.1 rfl (Nat.le_of_ble_eq_true rfl) ⟨Nat.le_refl _, Nat.le_refl _⟩ dX12_train_33 (fun H locs hw => ?_)
        refine lv_if_ne (tgt := 41) hx hb dX12_train_36 (by decide) (fun c_17 => ?_) (fun c_17 => ?_)
        · have hf := (if_neg c_17).symm.trans hf
          refine lv_iconst hx hb dX12_train_41 ki_m1 ?_
          refine lv_istore (lv' := [(5, .int (-1)), (0, .ref (za Z 0)), (1, .int a1), (2, .int a2), (3, .int a3), (4, .int a4)]) hx hb dX12_train_42 hl (by decide) rfl (fun ls hl => ?_)
          refine lv_iconst hx hb dX12_train_44 ki_m1 ?_
          refine lv_istore (lv' := [(6, .int (-1)), (5, .int (-1)), (0, .ref (za Z 0)), (1, .int a1), (2, .int a2), (3, .int a3), (4, .int a4)]) hx hb dX12_train_45 hl (by decide) rfl (fun ls hl => ?_)
          refine lv_iconst hx hb dX12_train_47 ki_0 ?_
          refine lv_istore (lv' := [(7, .int 0), (6, .int (-1)), (5, .int (-1)), (0, .ref (za Z 0)), (1, .int a1), (2, .int a2), (3, .int a3), (4, .int a4)]) hx hb dX12_train_48 hl (by decide) rfl (fun ls hl => ?_)
          obtain ⟨g91_50, ej, hf⟩ := bL_e hf
          have R91_50 : ∀ (l5_1 : Int32) (l6_2 : Int32) (S_3 : pS) (H : Heap) (locs : List Loc) (ls : Array Slot), Wd Z s S_3 H locs → lv_has ls 9 [(4, .int a4), (5, .int l5_1), (6, .int l6_2)] → g91_50 l5_1 l6_2 S_3 = some (r, S2) → W p l e { frames := 8, cells := 0, slots := 0, locals := 191 } s m args below meth c H locs 0 0 Q (F0 m 91 ls []) := by
            intro l5_1 l6_2 S_3 H locs ls hw hl hf
            have hf := (congrFun (congrFun (congrFun ej l5_1) l6_2) S_3).symm.trans hf
            refine lv_iload hx hb dX12_train_91 (lv_at hl 0 rfl) ?_
            refine lv_if_ne (tgt := 101) hx hb dX12_train_93 (by decide) (fun c_4 => ?_) (fun c_4 => ?_)
            · have hf := (if_neg c_4).symm.trans hf
              refine lv_iload hx hb dX12_train_101 (lv_at hl 2 rfl) ?_
              obtain ⟨e1, e2⟩ := Prod.mk.inj (Option.some.inj hf)
              exact hret _ _ _ _ _ dX12_train_103 e1 (by rw [← e2]; exact hw)
            · have hf := (if_pos c_4).symm.trans hf
              refine lv_iload hx hb dX12_train_96 (lv_at hl 1 rfl) ?_
              refine lv_goto (tgt := 103) hx hb dX12_train_98 (by decide) ?_
              obtain ⟨e1, e2⟩ := Prod.mk.inj (Option.some.inj hf)
              exact hret _ _ _ _ _ dX12_train_103 e1 (by rw [← e2]; exact hw)
          clear ej
          obtain ⟨b50, eb, hf⟩ := bL_e hf
          have RL50 : ∀ (n : Nat) z, (u3 g91_50) z = some (r, S2) → ∀ (l5_5 : Int32) (l6_6 : Int32) (l7_7 : Int32) (S_8 : pS) (H : Heap) (locs : List Loc) (ls : Array Slot), Wd Z s S_8 H locs → lv_has ls 9 [(0, .ref (za Z 0)), (1, .int a1), (2, .int a2), (3, .int a3), (4, .int a4), (5, .int l5_5), (6, .int l6_6), (7, .int l7_7)] → bPn b50 n (l5_5, l6_6, l7_7, S_8) = some z → W p l e { frames := 8, cells := 0, slots := 0, locals := 191 } s m args below meth c H locs 0 0 Q (F0 m 50 ls []) := by
            intro n
            induction n with
            | zero =>
              intro z hg l5_5 l6_6 l7_7 S_8 H locs ls hw hl hz
              exact bPn_0 hz
            | succ n ih =>
              intro z hg l5_5 l6_6 l7_7 S_8 H locs ls hw hl hz
              obtain ⟨q_9, hf, hz⟩ := bPn_e hz
              have hf := u4_e ((congrFun eb _).symm.trans hf)
              refine lv_iload hx hb dX12_train_50 (lv_at hl 7 rfl) ?_
              refine lv_iconst hx hb dX12_train_52 ki_4 ?_
              refine lv_icmp_ge (tgt := 91) hx hb dX12_train_53 (by decide) (fun c_16 => ?_) (fun c_16 => ?_)
              · have hf := (if_pos c_16).symm.trans hf
                obtain rfl := Option.some.inj hf
                obtain rfl := Option.some.inj (hz : some _ = some _)
                exact R91_50 _ _ _ _ _ _ hw (lv_sub hl [4, 5, 6] rfl) hg
              · have hf := (if_neg c_16).symm.trans hf
                refine lv_aload_n hx hb dX12_train_56 rfl (lv_at hl 0 rfl) ?_
                refine lv_iload_n hx hb dX12_train_57 rfl (lv_at hl 1 rfl) ?_
                refine lv_iload_n hx hb dX12_train_58 rfl (lv_at hl 2 rfl) ?_
                refine lv_iload_n hx hb dX12_train_59 rfl (lv_at hl 3 rfl) ?_
                refine lv_iload hx hb dX12_train_60 (lv_at hl 7 rfl) ?_
                obtain ⟨r_10, S_11, hr_10, hf⟩ := bB2_e hf
                refine kVi (rest := []) G hw (wX12_trained hZ S_8 a1 a2 a3 l7_7 r_10 S_11 hr_10) cw_X12_477 (m_this hZ) KX12 ⟨Nat.le_of_ble_eq_true rfl, Nat.le_of_ble_eq_true rfl⟩ rfl hl.1 rfl (Nat.le_of_ble_eq_true rfl) ⟨Nat.le_refl _, Nat.le_refl _⟩ dX12_train_62 (fun H locs hw => ?_)
                refine lv_istore (lv' := [(8, .int r_10), (0, .ref (za Z 0)), (1, .int a1), (2, .int a2), (3, .int a3), (4, .int a4), (5, .int l5_5), (6, .int l6_6), (7, .int l7_7)]) hx hb dX12_train_65 hl (by decide) rfl (fun ls hl => ?_)
                refine lv_iload hx hb dX12_train_67 (lv_at hl 0 rfl) ?_
                refine lv_iload hx hb dX12_train_69 (lv_at hl 6 rfl) ?_
                obtain ⟨j85, ej, hf⟩ := bL_e hf
                have R85 : ∀ (l5_12 : Int32) (l6_13 : Int32) (H : Heap) (locs : List Loc) (ls : Array Slot), Wd Z s S_11 H locs → lv_has ls 9 [(0, .ref (za Z 0)), (1, .int a1), (2, .int a2), (3, .int a3), (4, .int a4), (5, .int l5_12), (6, .int l6_13), (7, .int l7_7)] → j85 l5_12 l6_13 = some q_9 → W p l e { frames := 8, cells := 0, slots := 0, locals := 191 } s m args below meth c H locs 0 0 Q (F0 m 85 ls []) := by
                  intro l5_12 l6_13 H locs ls hw hl hf
                  have hf := (congrFun (congrFun ej l5_12) l6_13).symm.trans hf
                  obtain ⟨l7_14, el7_14, hf⟩ := bL_e hf
                  refine lv_iinc (v := l7_14) (lv' := [(7, .int l7_14), (0, .ref (za Z 0)), (1, .int a1), (2, .int a2), (3, .int a3), (4, .int a4), (5, .int l5_12), (6, .int l6_13)]) hx hb dX12_train_85 hl (k := 7) rfl (by rw [el7_14]; rfl) (by decide) rfl (fun ls hl => ?_)
                  refine lv_goto (tgt := 50) hx hb dX12_train_88 (by decide) ?_
                  obtain rfl := Option.some.inj hf
                  exact ih _ hg _ _ _ _ _ _ _ hw (lv_sub hl [1, 2, 3, 4, 5, 6, 7, 0] rfl) hz
                clear ej
                refine lv_icmp_gt (tgt := 77) hx hb dX12_train_71 (by decide) (fun c_15 => ?_) (fun c_15 => ?_)
                · have hf := (if_pos c_15).symm.trans hf
                  refine lv_iload hx hb dX12_train_77 (lv_at hl 0 rfl) ?_
                  refine lv_istore (lv' := [(5, .int r_10), (8, .int r_10), (0, .ref (za Z 0)), (1, .int a1), (2, .int a2), (3, .int a3), (4, .int a4), (6, .int l6_6), (7, .int l7_7)]) hx hb dX12_train_79 hl (by decide) rfl (fun ls hl => ?_)
                  refine lv_iload hx hb dX12_train_81 (lv_at hl 8 rfl) ?_
                  refine lv_istore (lv' := [(6, .int l7_7), (5, .int r_10), (8, .int r_10), (0, .ref (za Z 0)), (1, .int a1), (2, .int a2), (3, .int a3), (4, .int a4), (7, .int l7_7)]) hx hb dX12_train_83 hl (by decide) rfl (fun ls hl => ?_)
                  exact R85 _ _ _ _ _ hw (lv_sub hl [3, 4, 5, 6, 7, 1, 0, 8] rfl) hf
                · have hf := (if_neg c_15).symm.trans hf
                  refine lv_goto (tgt := 85) hx hb dX12_train_74 (by decide) ?_
                  exact R85 _ _ _ _ _ hw (lv_sub hl [1, 2, 3, 4, 5, 6, 7, 8] rfl) hf
          clear eb
          obtain ⟨z, hz, hf⟩ := bB_e hf
          obtain ⟨n, hz⟩ := bP_e hz
          exact RL50 n z hf _ _ _ _ _ _ _ hw (lv_sub hl [3, 4, 5, 6, 7, 2, 1, 0] rfl) hz
        · have hf := (if_pos c_17).symm.trans hf
          refine lv_iconst hx hb dX12_train_39 ki_m1 ?_
          obtain ⟨e1, e2⟩ := Prod.mk.inj (Option.some.inj hf)
          exact hret _ _ _ _ _ dX12_train_40 e1 (by rw [← e2]; exact hw)
noncomputable def F12_holds (S : pS) (a1 : Int32) (a2 : Int32) (a3 : Int32) : Option (Int32 × pS) :=
  if (F12_isThrower S a1) = 0 then
    some (((-1) : Int32), S)
  else
    if (F12_isForce a2) = 0 then
      some (((-1) : Int32), S)
    else
      if (F12_isIn a3 0 60) = 0 then
        some (((-1) : Int32), S)
      else
        bB (F12_own S a1 1) fun r_1 =>
        bL (fun (l5_2 : Int32) (S_3 : pS) =>
          some (l5_2, S_3)) fun g102_38 =>
        bL (u3 fun (l4_4 : Int32) (l5_5 : Int32) (S_6 : pS) =>
          if 60 ≤ l5_5 then
            some (.inr (l5_5, S_6))
          else
            if 1000 ≤ l4_4 then
              some (.inr (l5_5, S_6))
            else
              bB (F12_own S_6 a1 0) fun r_8 =>
              bB (F12_own S_6 a1 3) fun r_9 =>
              bB (F12_armFacts S_6 a1 (F12_lesser a2 r_8) 0 a3 l4_4 (r_9 + l5_5)) fun S_10 =>
              bB2 (F12_wearOf S_10) fun r_11 S_12 =>
              bL (F12_lesser 1000 (l4_4 + r_11)) fun l4_13 =>
              bL (l5_5 + 1) fun l5_14 =>
              some (.inl (l4_13, l5_14, S_12))) fun b38 =>
        bB (bP b38 (r_1, (0 : Int32), S)) (u2 g102_38)
set_option maxRecDepth 100000 in
set_option maxHeartbeats 4000000 in
theorem wX12_holds {l : Launch} {Z : pZ}  (hZ : CM Z) (S : pS) (a1 : Int32) (a2 : Int32) (a3 : Int32) (r : Int32) (S2 : pS)  (hf : F12_holds S a1 a2 a3 = some (r, S2)) : CI l Z yX12_holds cX12_holds 6 .int 7 154 [.ref (za Z 0), .int a1, .int a2, .int a3] S r S2 := by
  unfold F12_holds at hf
  refine eI (own := RX12) (by decide) rfl (Nat.le_of_ble_eq_true rfl) (fun p e s m args below meth c Q ls G hl hw hret => ?_)
  obtain ⟨hx, hb, hml, hown, hts⟩ := G.1
  have hl : lv_has ls 6 [(0, .ref (za Z 0)), (1, .int a1), (2, .int a2), (3, .int a3)] := hl
  refine lv_aload_n hx hb dX12_holds_0 rfl (lv_at hl 0 rfl) ?_
  refine lv_iload_n hx hb dX12_holds_1 rfl (lv_at hl 1 rfl) ?_
  refine kVi (rest := []) G hw (wX12_isThrower hZ S a1 (F12_isThrower S a1) rfl) cw_X12_87 (m_this hZ) KX12 ⟨Nat.le_of_ble_eq_true rfl, Nat.le_of_ble_eq_true rfl⟩ rfl hl.1 rfl (Nat.le_of_ble_eq_true rfl) ⟨Nat.le_refl _, Nat.le_refl _⟩ dX12_holds_2 (fun H locs hw => ?_)
  refine lv_if_eq (tgt := 25) hx hb dX12_holds_5 (by decide) (fun c_19 => ?_) (fun c_19 => ?_)
  · have hf := (if_pos c_19).symm.trans hf
    refine lv_iconst hx hb dX12_holds_25 ki_m1 ?_
    obtain ⟨e1, e2⟩ := Prod.mk.inj (Option.some.inj hf)
    exact hret _ _ _ _ _ dX12_holds_26 e1 (by rw [← e2]; exact hw)
  · have hf := (if_neg c_19).symm.trans hf
    refine lv_iload_n hx hb dX12_holds_8 rfl (lv_at hl 2 rfl) ?_
    refine kSi (rest := []) G hw (wX12_isForce hZ S a2 (F12_isForce a2) rfl) cw_X12_440 ⟨Nat.le_of_ble_eq_true rfl, Nat.le_of_ble_eq_true rfl⟩ rfl hl.1 rfl (Nat.le_of_ble_eq_true rfl) ⟨Nat.le_refl _, Nat.le_refl _⟩ dX12_holds_9 (fun H locs hw => ?_)
    refine lv_if_eq (tgt := 25) hx hb dX12_holds_12 (by decide) (fun c_18 => ?_) (fun c_18 => ?_)
    · have hf := (if_pos c_18).symm.trans hf
      refine lv_iconst hx hb dX12_holds_25 ki_m1 ?_
      obtain ⟨e1, e2⟩ := Prod.mk.inj (Option.some.inj hf)
      exact hret _ _ _ _ _ dX12_holds_26 e1 (by rw [← e2]; exact hw)
    · have hf := (if_neg c_18).symm.trans hf
      refine lv_iload_n hx hb dX12_holds_15 rfl (lv_at hl 3 rfl) ?_
      refine lv_iconst hx hb dX12_holds_16 ki_0 ?_
      refine lv_bipush hx hb dX12_holds_17 kb_60 ?_
      refine kSi (rest := []) G hw (wX12_isIn hZ S a3 0 60 (F12_isIn a3 0 60) rfl) cw_X12_71 ⟨Nat.le_of_ble_eq_true rfl, Nat.le_of_ble_eq_true rfl⟩ rfl hl.1 rfl (Nat.le_of_ble_eq_true rfl) ⟨Nat.le_refl _, Nat.le_refl _⟩ dX12_holds_19 (fun H locs hw => ?_)
      refine lv_if_ne (tgt := 27) hx hb dX12_holds_22 (by decide) (fun c_17 => ?_) (fun c_17 => ?_)
      · have hf := (if_neg c_17).symm.trans hf
        refine lv_aload_n hx hb dX12_holds_27 rfl (lv_at hl 0 rfl) ?_
        refine lv_iload_n hx hb dX12_holds_28 rfl (lv_at hl 1 rfl) ?_
        refine lv_iconst hx hb dX12_holds_29 ki_1 ?_
        obtain ⟨r_1, hr_1, hf⟩ := bB_e hf
        refine kVi (rest := []) G hw (wX12_own hZ S a1 1 r_1 hr_1) cw_X12_324 (m_this hZ) KX12 ⟨Nat.le_of_ble_eq_true rfl, Nat.le_of_ble_eq_true rfl⟩ rfl hl.1 rfl (Nat.le_of_ble_eq_true rfl) ⟨Nat.le_refl _, Nat.le_refl _⟩ dX12_holds_30 (fun H locs hw => ?_)
        refine lv_istore (lv' := [(4, .int r_1), (0, .ref (za Z 0)), (1, .int a1), (2, .int a2), (3, .int a3)]) hx hb dX12_holds_33 hl (by decide) rfl (fun ls hl => ?_)
        refine lv_iconst hx hb dX12_holds_35 ki_0 ?_
        refine lv_istore (lv' := [(5, .int 0), (4, .int r_1), (0, .ref (za Z 0)), (1, .int a1), (2, .int a2), (3, .int a3)]) hx hb dX12_holds_36 hl (by decide) rfl (fun ls hl => ?_)
        obtain ⟨g102_38, ej, hf⟩ := bL_e hf
        have R102_38 : ∀ (l5_2 : Int32) (S_3 : pS) (H : Heap) (locs : List Loc) (ls : Array Slot), Wd Z s S_3 H locs → lv_has ls 6 [(5, .int l5_2)] → g102_38 l5_2 S_3 = some (r, S2) → W p l e { frames := 7, cells := 0, slots := 0, locals := 154 } s m args below meth c H locs 0 0 Q (F0 m 102 ls []) := by
          intro l5_2 S_3 H locs ls hw hl hf
          have hf := (congrFun (congrFun ej l5_2) S_3).symm.trans hf
          refine lv_iload hx hb dX12_holds_102 (lv_at hl 0 rfl) ?_
          obtain ⟨e1, e2⟩ := Prod.mk.inj (Option.some.inj hf)
          exact hret _ _ _ _ _ dX12_holds_104 e1 (by rw [← e2]; exact hw)
        clear ej
        obtain ⟨b38, eb, hf⟩ := bL_e hf
        have RL38 : ∀ (n : Nat) z, (u2 g102_38) z = some (r, S2) → ∀ (l4_4 : Int32) (l5_5 : Int32) (S_6 : pS) (H : Heap) (locs : List Loc) (ls : Array Slot), Wd Z s S_6 H locs → lv_has ls 6 [(0, .ref (za Z 0)), (1, .int a1), (2, .int a2), (3, .int a3), (4, .int l4_4), (5, .int l5_5)] → bPn b38 n (l4_4, l5_5, S_6) = some z → W p l e { frames := 7, cells := 0, slots := 0, locals := 154 } s m args below meth c H locs 0 0 Q (F0 m 38 ls []) := by
          intro n
          induction n with
          | zero =>
            intro z hg l4_4 l5_5 S_6 H locs ls hw hl hz
            exact bPn_0 hz
          | succ n ih =>
            intro z hg l4_4 l5_5 S_6 H locs ls hw hl hz
            obtain ⟨q_7, hf, hz⟩ := bPn_e hz
            have hf := u3_e ((congrFun eb _).symm.trans hf)
            refine lv_iload hx hb dX12_holds_38 (lv_at hl 5 rfl) ?_
            refine lv_bipush hx hb dX12_holds_40 kb_60 ?_
            refine lv_icmp_ge (tgt := 102) hx hb dX12_holds_42 (by decide) (fun c_16 => ?_) (fun c_16 => ?_)
            · have hf := (if_pos c_16).symm.trans hf
              obtain rfl := Option.some.inj hf
              obtain rfl := Option.some.inj (hz : some _ = some _)
              exact R102_38 _ _ _ _ _ hw (lv_sub hl [5] rfl) hg
            · have hf := (if_neg c_16).symm.trans hf
              refine lv_iload hx hb dX12_holds_45 (lv_at hl 4 rfl) ?_
              refine lv_sipush hx hb dX12_holds_47 ks_1000 ?_
              refine lv_icmp_ge (tgt := 102) hx hb dX12_holds_50 (by decide) (fun c_15 => ?_) (fun c_15 => ?_)
              · have hf := (if_pos c_15).symm.trans hf
                obtain rfl := Option.some.inj hf
                obtain rfl := Option.some.inj (hz : some _ = some _)
                exact R102_38 _ _ _ _ _ hw (lv_sub hl [5] rfl) hg
              · have hf := (if_neg c_15).symm.trans hf
                refine lv_aload_n hx hb dX12_holds_53 rfl (lv_at hl 0 rfl) ?_
                refine lv_iload_n hx hb dX12_holds_54 rfl (lv_at hl 1 rfl) ?_
                refine lv_iload_n hx hb dX12_holds_55 rfl (lv_at hl 2 rfl) ?_
                refine lv_aload_n hx hb dX12_holds_56 rfl (lv_at hl 0 rfl) ?_
                refine lv_iload_n hx hb dX12_holds_57 rfl (lv_at hl 1 rfl) ?_
                refine lv_iconst hx hb dX12_holds_58 ki_0 ?_
                obtain ⟨r_8, hr_8, hf⟩ := bB_e hf
                refine kVi (rest := [.int a2, .int a1, .ref (za Z 0)]) G hw (wX12_own hZ S_6 a1 0 r_8 hr_8) cw_X12_324 (m_this hZ) KX12 ⟨Nat.le_of_ble_eq_true rfl, Nat.le_of_ble_eq_true rfl⟩ rfl hl.1 rfl (Nat.le_of_ble_eq_true rfl) ⟨Nat.le_refl _, Nat.le_refl _⟩ dX12_holds_59 (fun H locs hw => ?_)
                refine kSi (rest := [.int a1, .ref (za Z 0)]) G hw (wX12_lesser hZ S_6 a2 r_8 (F12_lesser a2 r_8) rfl) cw_X12_64 ⟨Nat.le_of_ble_eq_true rfl, Nat.le_of_ble_eq_true rfl⟩ rfl hl.1 rfl (Nat.le_of_ble_eq_true rfl) ⟨Nat.le_refl _, Nat.le_refl _⟩ dX12_holds_62 (fun H locs hw => ?_)
                refine lv_iconst hx hb dX12_holds_65 ki_0 ?_
                refine lv_iload_n hx hb dX12_holds_66 rfl (lv_at hl 3 rfl) ?_
                refine lv_iload hx hb dX12_holds_67 (lv_at hl 4 rfl) ?_
                refine lv_aload_n hx hb dX12_holds_69 rfl (lv_at hl 0 rfl) ?_
                refine lv_iload_n hx hb dX12_holds_70 rfl (lv_at hl 1 rfl) ?_
                refine lv_iconst hx hb dX12_holds_71 ki_3 ?_
                obtain ⟨r_9, hr_9, hf⟩ := bB_e hf
                refine kVi (rest := [.int l4_4, .int a3, .int 0, .int (F12_lesser a2 r_8), .int a1, .ref (za Z 0)]) G hw (wX12_own hZ S_6 a1 3 r_9 hr_9) cw_X12_324 (m_this hZ) KX12 ⟨Nat.le_of_ble_eq_true rfl, Nat.le_of_ble_eq_true rfl⟩ rfl hl.1 rfl (Nat.le_of_ble_eq_true rfl) ⟨Nat.le_refl _, Nat.le_refl _⟩ dX12_holds_72 (fun H locs hw => ?_)
                refine lv_iload hx hb dX12_holds_75 (lv_at hl 5 rfl) ?_
                refine lv_iadd hx hb dX12_holds_77 ?_
                obtain ⟨S_10, hS_10, hf⟩ := bB_e hf
                refine kVv (rest := []) G hw (wX12_armFacts hZ S_6 a1 (F12_lesser a2 r_8) 0 a3 l4_4 (r_9 + l5_5) S_10 hS_10) cw_X12_376 (m_this hZ) KX12 ⟨Nat.le_of_ble_eq_true rfl, Nat.le_of_ble_eq_true rfl⟩ rfl hl.1 rfl (Nat.le_of_ble_eq_true rfl) ⟨Nat.le_refl _, Nat.le_refl _⟩ dX12_holds_78 (fun H locs hw => ?_)
                refine lv_sipush hx hb dX12_holds_81 ks_1000 ?_
                refine lv_iload hx hb dX12_holds_84 (lv_at hl 4 rfl) ?_
                refine lv_aload_n hx hb dX12_holds_86 rfl (lv_at hl 0 rfl) ?_
                obtain ⟨r_11, S_12, hr_11, hf⟩ := bB2_e hf
                refine kVi (rest := [.int l4_4, .int 1000]) G hw (wX12_wearOf hZ S_10 r_11 S_12 hr_11) cw_X12_383 (m_this hZ) KX12 ⟨Nat.le_of_ble_eq_true rfl, Nat.le_of_ble_eq_true rfl⟩ rfl hl.1 rfl (Nat.le_of_ble_eq_true rfl) ⟨Nat.le_refl _, Nat.le_refl _⟩ dX12_holds_87 (fun H locs hw => ?_)
                refine lv_iadd hx hb dX12_holds_90 ?_
                refine kSi (rest := []) G hw (wX12_lesser hZ S_12 1000 (l4_4 + r_11) (F12_lesser 1000 (l4_4 + r_11)) rfl) cw_X12_64 ⟨Nat.le_of_ble_eq_true rfl, Nat.le_of_ble_eq_true rfl⟩ rfl hl.1 rfl (Nat.le_of_ble_eq_true rfl) ⟨Nat.le_refl _, Nat.le_refl _⟩ dX12_holds_91 (fun H locs hw => ?_)
                obtain ⟨l4_13, el4_13, hf⟩ := bL_e hf
                refine top_i el4_13 ?_
                refine lv_istore (lv' := [(4, .int l4_13), (0, .ref (za Z 0)), (1, .int a1), (2, .int a2), (3, .int a3), (5, .int l5_5)]) hx hb dX12_holds_94 hl (by decide) rfl (fun ls hl => ?_)
                obtain ⟨l5_14, el5_14, hf⟩ := bL_e hf
                refine lv_iinc (v := l5_14) (lv' := [(5, .int l5_14), (4, .int l4_13), (0, .ref (za Z 0)), (1, .int a1), (2, .int a2), (3, .int a3)]) hx hb dX12_holds_96 hl (k := 5) rfl (by rw [el5_14]; rfl) (by decide) rfl (fun ls hl => ?_)
                refine lv_goto (tgt := 38) hx hb dX12_holds_99 (by decide) ?_
                obtain rfl := Option.some.inj hf
                exact ih _ hg _ _ _ _ _ _ hw (lv_sub hl [2, 3, 4, 5, 1, 0] rfl) hz
        clear eb
        obtain ⟨z, hz, hf⟩ := bB_e hf
        obtain ⟨n, hz⟩ := bP_e hz
        exact RL38 n z hf _ _ _ _ _ _ hw (lv_sub hl [2, 3, 4, 5, 1, 0] rfl) hz
      · have hf := (if_pos c_17).symm.trans hf
        refine lv_iconst hx hb dX12_holds_25 ki_m1 ?_
        obtain ⟨e1, e2⟩ := Prod.mk.inj (Option.some.inj hf)
        exact hret _ _ _ _ _ dX12_holds_26 e1 (by rw [← e2]; exact hw)
noncomputable def F12_laysReached (S : pS) (a1 : Int32) (a2 : Int32) (a3 : Int32) : Option (pS) :=
  bL (fun (S_1 : pS) =>
    some S_1) fun g60_3 =>
  bL (u2 fun (l4_2 : Int32) (S_3 : pS) =>
    if 10 ≤ l4_2 then
      some (.inr S_3)
    else
      bB (F12_weather S_3 0) fun r_5 =>
      bB2 (F12_goodFar S_3 (54 + (5 * l4_2)) a2 a3 r_5) fun r_6 S_7 =>
      bL (fun (t_8 : Int32) =>
        bG (vp_in l4_2 10) <|
        bL (sU S_7 16 l4_2.toNatClampNeg t_8) fun S_9 =>
        bL (l4_2 + 1) fun l4_10 =>
        some (.inl (l4_10, S_9))) fun j53 =>
      bL (fun (_ : Unit) =>
        j53 0) fun j52 =>
      if r_6 = (-1) then
        j52 ()
      else
        if r_6 < a1 then
          j52 ()
        else
          j53 1) fun b3 =>
  bB (bP b3 ((0 : Int32), S)) (u1 g60_3)
set_option maxRecDepth 100000 in
set_option maxHeartbeats 4000000 in
theorem wX12_laysReached {l : Launch} {Z : pZ}  (hZ : CM Z) (S : pS) (a1 : Int32) (a2 : Int32) (a3 : Int32) (S2 : pS)  (hf : F12_laysReached S a1 a2 a3 = some S2) : CV l Z yX12_laysReached cX12_laysReached 6 9 207 [.ref (za Z 0), .int a1, .int a2, .int a3] S S2 := by
  unfold F12_laysReached at hf
  refine eV (own := RX12) (by decide) rfl (Nat.le_of_ble_eq_true rfl) (fun p e s m args below meth c Q ls G hl hw hret => ?_)
  obtain ⟨hx, hb, hml, hown, hts⟩ := G.1
  have hl : lv_has ls 6 [(0, .ref (za Z 0)), (1, .int a1), (2, .int a2), (3, .int a3)] := hl
  refine lv_iconst hx hb dX12_laysReached_0 ki_0 ?_
  refine lv_istore (lv' := [(4, .int 0), (0, .ref (za Z 0)), (1, .int a1), (2, .int a2), (3, .int a3)]) hx hb dX12_laysReached_1 hl (by decide) rfl (fun ls hl => ?_)
  obtain ⟨g60_3, ej, hf⟩ := bL_e hf
  have R60_3 : ∀ (S_1 : pS) (H : Heap) (locs : List Loc) (ls : Array Slot), Wd Z s S_1 H locs → lv_has ls 6 [] → g60_3 S_1 = some S2 → W p l e { frames := 9, cells := 0, slots := 0, locals := 207 } s m args below meth c H locs 0 0 Q (F0 m 60 ls []) := by
    intro S_1 H locs ls hw hl hf
    have hf := (congrFun ej S_1).symm.trans hf
    exact hret _ _ _ _ dX12_laysReached_60 (by rw [← (Option.some.inj hf)]; exact hw)
  clear ej
  obtain ⟨b3, eb, hf⟩ := bL_e hf
  have RL3 : ∀ (n : Nat) z, (u1 g60_3) z = some S2 → ∀ (l4_2 : Int32) (S_3 : pS) (H : Heap) (locs : List Loc) (ls : Array Slot), Wd Z s S_3 H locs → lv_has ls 6 [(0, .ref (za Z 0)), (1, .int a1), (2, .int a2), (3, .int a3), (4, .int l4_2)] → bPn b3 n (l4_2, S_3) = some z → W p l e { frames := 9, cells := 0, slots := 0, locals := 207 } s m args below meth c H locs 0 0 Q (F0 m 3 ls []) := by
    intro n
    induction n with
    | zero =>
      intro z hg l4_2 S_3 H locs ls hw hl hz
      exact bPn_0 hz
    | succ n ih =>
      intro z hg l4_2 S_3 H locs ls hw hl hz
      obtain ⟨q_4, hf, hz⟩ := bPn_e hz
      have hf := u2_e ((congrFun eb _).symm.trans hf)
      refine lv_iload hx hb dX12_laysReached_3 (lv_at hl 4 rfl) ?_
      refine lv_bipush hx hb dX12_laysReached_5 kb_10 ?_
      refine lv_icmp_ge (tgt := 60) hx hb dX12_laysReached_7 (by decide) (fun c_13 => ?_) (fun c_13 => ?_)
      · have hf := (if_pos c_13).symm.trans hf
        obtain rfl := Option.some.inj hf
        obtain rfl := Option.some.inj (hz : some _ = some _)
        exact R60_3 _ _ _ _ hw (lv_sub hl [] rfl) hg
      · have hf := (if_neg c_13).symm.trans hf
        refine lv_aload_n hx hb dX12_laysReached_10 rfl (lv_at hl 0 rfl) ?_
        refine lv_bipush hx hb dX12_laysReached_11 kb_54 ?_
        refine lv_iconst hx hb dX12_laysReached_13 ki_5 ?_
        refine lv_iload hx hb dX12_laysReached_14 (lv_at hl 4 rfl) ?_
        refine lv_imul hx hb dX12_laysReached_16 ?_
        refine lv_iadd hx hb dX12_laysReached_17 ?_
        refine lv_iload_n hx hb dX12_laysReached_18 rfl (lv_at hl 2 rfl) ?_
        refine lv_iload_n hx hb dX12_laysReached_19 rfl (lv_at hl 3 rfl) ?_
        refine lv_aload_n hx hb dX12_laysReached_20 rfl (lv_at hl 0 rfl) ?_
        refine lv_iconst hx hb dX12_laysReached_21 ki_0 ?_
        obtain ⟨r_5, hr_5, hf⟩ := bB_e hf
        refine kVi (rest := [.int a3, .int a2, .int (54 + (5 * l4_2)), .ref (za Z 0)]) G hw (wX12_weather hZ S_3 0 r_5 hr_5) cw_X12_364 (m_this hZ) KX12 ⟨Nat.le_of_ble_eq_true rfl, Nat.le_of_ble_eq_true rfl⟩ rfl hl.1 rfl (Nat.le_of_ble_eq_true rfl) ⟨Nat.le_refl _, Nat.le_refl _⟩ dX12_laysReached_22 (fun H locs hw => ?_)
        obtain ⟨r_6, S_7, hr_6, hf⟩ := bB2_e hf
        refine kVi (rest := []) G hw (wX12_goodFar hZ S_3 (54 + (5 * l4_2)) a2 a3 r_5 r_6 S_7 hr_6) cw_X12_434 (m_this hZ) KX12 ⟨Nat.le_of_ble_eq_true rfl, Nat.le_of_ble_eq_true rfl⟩ rfl hl.1 rfl (Nat.le_of_ble_eq_true rfl) ⟨Nat.le_refl _, Nat.le_refl _⟩ dX12_laysReached_25 (fun H locs hw => ?_)
        refine lv_istore (lv' := [(5, .int r_6), (0, .ref (za Z 0)), (1, .int a1), (2, .int a2), (3, .int a3), (4, .int l4_2)]) hx hb dX12_laysReached_28 hl (by decide) rfl (fun ls hl => ?_)
        refine lv_aload_n hx hb dX12_laysReached_30 rfl (lv_at hl 1 rfl) ?_
        refine gF G hw (m_this hZ) KX12 45 (k2 := 16) rfl (by decide) rfl fl_X12_61 dX12_laysReached_31 ?_
        refine lv_iload hx hb dX12_laysReached_34 (lv_at hl 5 rfl) ?_
        refine lv_iload hx hb dX12_laysReached_36 (lv_at hl 0 rfl) ?_
        refine lv_iconst hx hb dX12_laysReached_38 ki_m1 ?_
        obtain ⟨j53, ej, hf⟩ := bL_e hf
        have R53 : ∀ (t_8 : Int32) (H : Heap) (locs : List Loc) (ls : Array Slot), Wd Z s S_7 H locs → lv_has ls 6 [(0, .ref (za Z 0)), (1, .int a1), (2, .int a2), (3, .int a3), (4, .int l4_2)] → j53 t_8 = some q_4 → W p l e { frames := 9, cells := 0, slots := 0, locals := 207 } s m args below meth c H locs 0 0 Q (F0 m 53 ls [.int t_8, .int l4_2, .ref (za Z 16)]) := by
          intro t_8 H locs ls hw hl hf
          have hf := (congrFun ej t_8).symm.trans hf
          obtain ⟨hg1, hf⟩ := bG_e hf
          obtain ⟨S_9, eS_9, hf⟩ := bL_e hf
          refine sI G hw (m_reached hZ) hg1 (j := l4_2.toNatClampNeg) rfl eS_9 dX12_laysReached_53 (fun H locs hw => ?_)
          obtain ⟨l4_10, el4_10, hf⟩ := bL_e hf
          refine lv_iinc (v := l4_10) (lv' := [(4, .int l4_10), (0, .ref (za Z 0)), (1, .int a1), (2, .int a2), (3, .int a3)]) hx hb dX12_laysReached_54 hl (k := 4) rfl (by rw [el4_10]; rfl) (by decide) rfl (fun ls hl => ?_)
          refine lv_goto (tgt := 3) hx hb dX12_laysReached_57 (by decide) ?_
          obtain rfl := Option.some.inj hf
          exact ih _ hg _ _ _ _ _ hw (lv_sub hl [1, 2, 3, 4, 0] rfl) hz
        clear ej
        obtain ⟨j52, ej, hf⟩ := bL_e hf
        have R52 : ∀ (H : Heap) (locs : List Loc) (ls : Array Slot), Wd Z s S_7 H locs → lv_has ls 6 [(0, .ref (za Z 0)), (1, .int a1), (2, .int a2), (3, .int a3), (4, .int l4_2)] → j52 () = some q_4 → W p l e { frames := 9, cells := 0, slots := 0, locals := 207 } s m args below meth c H locs 0 0 Q (F0 m 52 ls [.int l4_2, .ref (za Z 16)]) := by
          intro  H locs ls hw hl hf
          have hf := (congrFun ej ()).symm.trans hf
          refine lv_iconst hx hb dX12_laysReached_52 ki_0 ?_
          exact R53 _ _ _ _ hw (lv_sub hl [0, 1, 2, 3, 4] rfl) hf
        clear ej
        refine lv_icmp_eq (tgt := 52) hx hb dX12_laysReached_39 (by decide) (fun c_12 => ?_) (fun c_12 => ?_)
        · have hf := (if_pos c_12).symm.trans hf
          exact R52 _ _ _ hw (lv_sub hl [1, 2, 3, 4, 5] rfl) hf
        · have hf := (if_neg c_12).symm.trans hf
          refine lv_iload hx hb dX12_laysReached_42 (lv_at hl 0 rfl) ?_
          refine lv_iload_n hx hb dX12_laysReached_44 rfl (lv_at hl 2 rfl) ?_
          refine lv_icmp_lt (tgt := 52) hx hb dX12_laysReached_45 (by decide) (fun c_11 => ?_) (fun c_11 => ?_)
          · have hf := (if_pos c_11).symm.trans hf
            exact R52 _ _ _ hw (lv_sub hl [1, 2, 3, 4, 5] rfl) hf
          · have hf := (if_neg c_11).symm.trans hf
            refine lv_iconst hx hb dX12_laysReached_48 ki_1 ?_
            refine lv_goto (tgt := 53) hx hb dX12_laysReached_49 (by decide) ?_
            exact R53 _ _ _ _ hw (lv_sub hl [1, 2, 3, 4, 5] rfl) hf
  clear eb
  obtain ⟨z, hz, hf⟩ := bB_e hf
  obtain ⟨n, hz⟩ := bP_e hz
  exact RL3 n z hf _ _ _ _ _ hw (lv_sub hl [1, 2, 3, 4, 0] rfl) hz
noncomputable def B12_chanceBy (rc_chanceBy : pS → Int32 → Int32 → Int32 → Int32 → Int32 → Option (Int32 × pS)) (S : pS) (a1 : Int32) (a2 : Int32) (a3 : Int32) (a4 : Int32) (a5 : Int32) : Option (Int32 × pS) :=
  if a2 = 0 then
    some ((0 : Int32), S)
  else
    if a4 = 1000 then
      some ((0 : Int32), S)
    else
      bL ((1001 * a2) + a4) fun l6_1 =>
      bG (vp_in l6_1 7007) <|
      if (S 14 l6_1.toNatClampNeg) = (-1) then
        bL (fun (l7_2 : Int32) (l8_3 : Int32) (S_4 : pS) =>
          bG (vp_in l6_1 7007) <|
          bL (sU S_4 14 l6_1.toNatClampNeg l7_2) fun S_5 =>
          bG (vp_in l6_1 7007) <|
          bL (sU S_5 15 l6_1.toNatClampNeg l8_3) fun S_6 =>
          some (l7_2, S_6)) fun g204_53 =>
        bL (u4 fun (l7_7 : Int32) (l8_8 : Int32) (l9_9 : Int32) (S_10 : pS) =>
          bB (F12_own S_10 a1 0) fun r_12 =>
          if (F12_lesser 99 r_12) < l9_9 then
            some (.inr (l7_7, l8_8, S_10))
          else
            bB (F12_own S_10 a1 3) fun r_13 =>
            bB (F12_armFacts S_10 a1 l9_9 0 a5 a4 ((r_13 + a3) - a2)) fun S_14 =>
            bB2 (F12_overOf S_14) fun r_15 S_16 =>
            bB2 (F12_wearOf S_16) fun r_17 S_18 =>
            bL (F12_lesser 1000 (a4 + r_17)) fun l11_19 =>
            bG (vp_in ((l9_9 - 54) / 5) 10) <|
            bL (fun (t_20 : Int32) =>
              bB2 (rc_chanceBy S_18 a1 (a2 - 1) a3 l11_19 a5) fun r_21 S_22 =>
              bL ((((1000000 - t_20 : Int32).toInt64) * ((r_21 : Int32).toInt64)) / 1000000) fun l13_23 =>
              bL (fun (l7_24 : Int32) (l8_25 : Int32) =>
                bL (l9_9 + 5) fun l9_26 =>
                some (.inl (l7_24, l8_25, l9_26, S_22))) fun j198 =>
              if l7_7 < (t_20 + ((l13_23 : Int64).toInt32)) then
                bL (t_20 + ((l13_23 : Int64).toInt32)) fun l7_27 =>
                j198 l7_27 l9_9
              else
                j198 l7_7 l8_8) fun j142 =>
            if (S_18 16 (((l9_9 - 54) / 5).toNatClampNeg)) = 1 then
              j142 (1000000 - (1000 * r_15))
            else
              j142 0) fun b53 =>
        bB (bP b53 ((0 : Int32), (0 : Int32), (54 : Int32), S)) (u3 g204_53)
      else
        bG (vp_in l6_1 7007) <|
        some (S 14 l6_1.toNatClampNeg, S)
noncomputable def T12_chanceBy : Nat → (pS → Int32 → Int32 → Int32 → Int32 → Int32 → Option (Int32 × pS))
  | 0 => (fun _ _ _ _ _ _ => none)
  | d + 1 => (B12_chanceBy (T12_chanceBy d))
noncomputable def F12_chanceBy (S : pS) (a1 : Int32) (a2 : Int32) (a3 : Int32) (a4 : Int32) (a5 : Int32) : Option (Int32 × pS) := T12_chanceBy 40 S a1 a2 a3 a4 a5
set_option maxRecDepth 100000 in
set_option maxHeartbeats 4000000 in
theorem wBX12_chanceBy {l : Launch} {Z : pZ} {fr lo : Nat} (hfr : 7 ≤ fr) (hlo : 154 ≤ lo) {rc_chanceBy : pS → Int32 → Int32 → Int32 → Int32 → Int32 → Option (Int32 × pS)} (hr_chanceBy : ∀ (S : pS) (a1 : Int32) (a2 : Int32) (a3 : Int32) (a4 : Int32) (a5 : Int32) (r : Int32) (S2 : pS), rc_chanceBy S a1 a2 a3 a4 a5 = some (r, S2) → CI l Z yX12_chanceBy cX12_chanceBy 15 .int fr lo [.ref (za Z 0), .int a1, .int a2, .int a3, .int a4, .int a5] S r S2) (hZ : CM Z) (S : pS) (a1 : Int32) (a2 : Int32) (a3 : Int32) (a4 : Int32) (a5 : Int32) (r : Int32) (S2 : pS)  (hf : B12_chanceBy rc_chanceBy S a1 a2 a3 a4 a5 = some (r, S2)) : CI l Z yX12_chanceBy cX12_chanceBy 15 .int (fr + 1) (lo + 60) [.ref (za Z 0), .int a1, .int a2, .int a3, .int a4, .int a5] S r S2 := by
  unfold B12_chanceBy at hf
  refine eI (own := RX12) (by decide) rfl (Nat.le_of_ble_eq_true rfl) (fun p e s m args below meth c Q ls G hl hw hret => ?_)
  obtain ⟨hx, hb, hml, hown, hts⟩ := G.1
  have hl : lv_has ls 15 [(0, .ref (za Z 0)), (1, .int a1), (2, .int a2), (3, .int a3), (4, .int a4), (5, .int a5)] := hl
  refine lv_iload_n hx hb dX12_chanceBy_0 rfl (lv_at hl 2 rfl) ?_
  refine lv_if_eq (tgt := 12) hx hb dX12_chanceBy_1 (by decide) (fun c_33 => ?_) (fun c_33 => ?_)
  · have hf := (if_pos c_33).symm.trans hf
    refine lv_iconst hx hb dX12_chanceBy_12 ki_0 ?_
    obtain ⟨e1, e2⟩ := Prod.mk.inj (Option.some.inj hf)
    exact hret _ _ _ _ _ dX12_chanceBy_13 e1 (by rw [← e2]; exact hw)
  · have hf := (if_neg c_33).symm.trans hf
    refine lv_iload hx hb dX12_chanceBy_4 (lv_at hl 4 rfl) ?_
    refine lv_sipush hx hb dX12_chanceBy_6 ks_1000 ?_
    refine lv_icmp_ne (tgt := 14) hx hb dX12_chanceBy_9 (by decide) (fun c_32 => ?_) (fun c_32 => ?_)
    · have hf := (if_neg c_32).symm.trans hf
      refine lv_sipush hx hb dX12_chanceBy_14 ks_1001 ?_
      refine lv_iload_n hx hb dX12_chanceBy_17 rfl (lv_at hl 2 rfl) ?_
      refine lv_imul hx hb dX12_chanceBy_18 ?_
      refine lv_iload hx hb dX12_chanceBy_19 (lv_at hl 4 rfl) ?_
      refine lv_iadd hx hb dX12_chanceBy_21 ?_
      obtain ⟨l6_1, el6_1, hf⟩ := bL_e hf
      refine top_i el6_1 ?_
      refine lv_istore (lv' := [(6, .int l6_1), (0, .ref (za Z 0)), (1, .int a1), (2, .int a2), (3, .int a3), (4, .int a4), (5, .int a5)]) hx hb dX12_chanceBy_22 hl (by decide) rfl (fun ls hl => ?_)
      refine lv_aload_n hx hb dX12_chanceBy_24 rfl (lv_at hl 1 rfl) ?_
      refine gF G hw (m_this hZ) KX12 43 (k2 := 14) rfl (by decide) rfl fl_X12_55 dX12_chanceBy_25 ?_
      refine lv_iload hx hb dX12_chanceBy_28 (lv_at hl 0 rfl) ?_
      obtain ⟨hg1, hf⟩ := bG_e hf
      refine aI G hw (m_chances hZ) hg1 (j := l6_1.toNatClampNeg) rfl dX12_chanceBy_30 ?_
      refine lv_iconst hx hb dX12_chanceBy_31 ki_m1 ?_
      refine lv_icmp_eq (tgt := 43) hx hb dX12_chanceBy_32 (by decide) (fun c_31 => ?_) (fun c_31 => ?_)
      · have hf := (if_pos c_31).symm.trans hf
        refine lv_iconst hx hb dX12_chanceBy_43 ki_0 ?_
        refine lv_istore (lv' := [(7, .int 0), (6, .int l6_1), (0, .ref (za Z 0)), (1, .int a1), (2, .int a2), (3, .int a3), (4, .int a4), (5, .int a5)]) hx hb dX12_chanceBy_44 hl (by decide) rfl (fun ls hl => ?_)
        refine lv_iconst hx hb dX12_chanceBy_46 ki_0 ?_
        refine lv_istore (lv' := [(8, .int 0), (7, .int 0), (6, .int l6_1), (0, .ref (za Z 0)), (1, .int a1), (2, .int a2), (3, .int a3), (4, .int a4), (5, .int a5)]) hx hb dX12_chanceBy_47 hl (by decide) rfl (fun ls hl => ?_)
        refine lv_bipush hx hb dX12_chanceBy_49 kb_54 ?_
        refine lv_istore (lv' := [(9, .int 54), (8, .int 0), (7, .int 0), (6, .int l6_1), (0, .ref (za Z 0)), (1, .int a1), (2, .int a2), (3, .int a3), (4, .int a4), (5, .int a5)]) hx hb dX12_chanceBy_51 hl (by decide) rfl (fun ls hl => ?_)
        obtain ⟨g204_53, ej, hf⟩ := bL_e hf
        have R204_53 : ∀ (l7_2 : Int32) (l8_3 : Int32) (S_4 : pS) (H : Heap) (locs : List Loc) (ls : Array Slot), Wd Z s S_4 H locs → lv_has ls 15 [(0, .ref (za Z 0)), (6, .int l6_1), (7, .int l7_2), (8, .int l8_3)] → g204_53 l7_2 l8_3 S_4 = some (r, S2) → W p l e { frames := (fr + 1), cells := 0, slots := 0, locals := (lo + 60) } s m args below meth c H locs 0 0 Q (F0 m 204 ls []) := by
          intro l7_2 l8_3 S_4 H locs ls hw hl hf
          have hf := (congrFun (congrFun (congrFun ej l7_2) l8_3) S_4).symm.trans hf
          refine lv_aload_n hx hb dX12_chanceBy_204 rfl (lv_at hl 0 rfl) ?_
          refine gF G hw (m_this hZ) KX12 43 (k2 := 14) rfl (by decide) rfl fl_X12_55 dX12_chanceBy_205 ?_
          refine lv_iload hx hb dX12_chanceBy_208 (lv_at hl 1 rfl) ?_
          refine lv_iload hx hb dX12_chanceBy_210 (lv_at hl 2 rfl) ?_
          obtain ⟨hg1, hf⟩ := bG_e hf
          obtain ⟨S_5, eS_5, hf⟩ := bL_e hf
          refine sI G hw (m_chances hZ) hg1 (j := l6_1.toNatClampNeg) rfl eS_5 dX12_chanceBy_212 (fun H locs hw => ?_)
          refine lv_aload_n hx hb dX12_chanceBy_213 rfl (lv_at hl 0 rfl) ?_
          refine gF G hw (m_this hZ) KX12 44 (k2 := 15) rfl (by decide) rfl fl_X12_58 dX12_chanceBy_214 ?_
          refine lv_iload hx hb dX12_chanceBy_217 (lv_at hl 1 rfl) ?_
          refine lv_iload hx hb dX12_chanceBy_219 (lv_at hl 3 rfl) ?_
          obtain ⟨hg1, hf⟩ := bG_e hf
          obtain ⟨S_6, eS_6, hf⟩ := bL_e hf
          refine sI G hw (m_firsts hZ) hg1 (j := l6_1.toNatClampNeg) rfl eS_6 dX12_chanceBy_221 (fun H locs hw => ?_)
          refine lv_iload hx hb dX12_chanceBy_222 (lv_at hl 2 rfl) ?_
          obtain ⟨e1, e2⟩ := Prod.mk.inj (Option.some.inj hf)
          exact hret _ _ _ _ _ dX12_chanceBy_224 e1 (by rw [← e2]; exact hw)
        clear ej
        obtain ⟨b53, eb, hf⟩ := bL_e hf
        have RL53 : ∀ (n : Nat) z, (u3 g204_53) z = some (r, S2) → ∀ (l7_7 : Int32) (l8_8 : Int32) (l9_9 : Int32) (S_10 : pS) (H : Heap) (locs : List Loc) (ls : Array Slot), Wd Z s S_10 H locs → lv_has ls 15 [(0, .ref (za Z 0)), (1, .int a1), (2, .int a2), (3, .int a3), (4, .int a4), (5, .int a5), (6, .int l6_1), (7, .int l7_7), (8, .int l8_8), (9, .int l9_9)] → bPn b53 n (l7_7, l8_8, l9_9, S_10) = some z → W p l e { frames := (fr + 1), cells := 0, slots := 0, locals := (lo + 60) } s m args below meth c H locs 0 0 Q (F0 m 53 ls []) := by
          intro n
          induction n with
          | zero =>
            intro z hg l7_7 l8_8 l9_9 S_10 H locs ls hw hl hz
            exact bPn_0 hz
          | succ n ih =>
            intro z hg l7_7 l8_8 l9_9 S_10 H locs ls hw hl hz
            obtain ⟨q_11, hf, hz⟩ := bPn_e hz
            have hf := u4_e ((congrFun eb _).symm.trans hf)
            refine lv_iload hx hb dX12_chanceBy_53 (lv_at hl 9 rfl) ?_
            refine lv_bipush hx hb dX12_chanceBy_55 kb_99 ?_
            refine lv_aload_n hx hb dX12_chanceBy_57 rfl (lv_at hl 0 rfl) ?_
            refine lv_iload_n hx hb dX12_chanceBy_58 rfl (lv_at hl 1 rfl) ?_
            refine lv_iconst hx hb dX12_chanceBy_59 ki_0 ?_
            obtain ⟨r_12, hr_12, hf⟩ := bB_e hf
            refine kVi (rest := [.int 99, .int l9_9]) G hw (wX12_own hZ S_10 a1 0 r_12 hr_12) cw_X12_324 (m_this hZ) KX12 ⟨by dsimp only; omega, by dsimp only; omega⟩ rfl hl.1 rfl (Nat.le_of_ble_eq_true rfl) ⟨Nat.le_refl _, Nat.le_refl _⟩ dX12_chanceBy_60 (fun H locs hw => ?_)
            refine kSi (rest := [.int l9_9]) G hw (wX12_lesser hZ S_10 99 r_12 (F12_lesser 99 r_12) rfl) cw_X12_64 ⟨by dsimp only; omega, by dsimp only; omega⟩ rfl hl.1 rfl (Nat.le_of_ble_eq_true rfl) ⟨Nat.le_refl _, Nat.le_refl _⟩ dX12_chanceBy_63 (fun H locs hw => ?_)
            refine lv_icmp_gt (tgt := 204) hx hb dX12_chanceBy_66 (by decide) (fun c_30 => ?_) (fun c_30 => ?_)
            · have hf := (if_pos c_30).symm.trans hf
              obtain rfl := Option.some.inj hf
              obtain rfl := Option.some.inj (hz : some _ = some _)
              exact R204_53 _ _ _ _ _ _ hw (lv_sub hl [0, 6, 7, 8] rfl) hg
            · have hf := (if_neg c_30).symm.trans hf
              refine lv_aload_n hx hb dX12_chanceBy_69 rfl (lv_at hl 0 rfl) ?_
              refine lv_iload_n hx hb dX12_chanceBy_70 rfl (lv_at hl 1 rfl) ?_
              refine lv_iload hx hb dX12_chanceBy_71 (lv_at hl 9 rfl) ?_
              refine lv_iconst hx hb dX12_chanceBy_73 ki_0 ?_
              refine lv_iload hx hb dX12_chanceBy_74 (lv_at hl 5 rfl) ?_
              refine lv_iload hx hb dX12_chanceBy_76 (lv_at hl 4 rfl) ?_
              refine lv_aload_n hx hb dX12_chanceBy_78 rfl (lv_at hl 0 rfl) ?_
              refine lv_iload_n hx hb dX12_chanceBy_79 rfl (lv_at hl 1 rfl) ?_
              refine lv_iconst hx hb dX12_chanceBy_80 ki_3 ?_
              obtain ⟨r_13, hr_13, hf⟩ := bB_e hf
              refine kVi (rest := [.int a4, .int a5, .int 0, .int l9_9, .int a1, .ref (za Z 0)]) G hw (wX12_own hZ S_10 a1 3 r_13 hr_13) cw_X12_324 (m_this hZ) KX12 ⟨by dsimp only; omega, by dsimp only; omega⟩ rfl hl.1 rfl (Nat.le_of_ble_eq_true rfl) ⟨Nat.le_refl _, Nat.le_refl _⟩ dX12_chanceBy_81 (fun H locs hw => ?_)
              refine lv_iload_n hx hb dX12_chanceBy_84 rfl (lv_at hl 3 rfl) ?_
              refine lv_iadd hx hb dX12_chanceBy_85 ?_
              refine lv_iload_n hx hb dX12_chanceBy_86 rfl (lv_at hl 2 rfl) ?_
              refine lv_isub hx hb dX12_chanceBy_87 ?_
              obtain ⟨S_14, hS_14, hf⟩ := bB_e hf
              refine kVv (rest := []) G hw (wX12_armFacts hZ S_10 a1 l9_9 0 a5 a4 ((r_13 + a3) - a2) S_14 hS_14) cw_X12_376 (m_this hZ) KX12 ⟨by dsimp only; omega, by dsimp only; omega⟩ rfl hl.1 rfl (Nat.le_of_ble_eq_true rfl) ⟨Nat.le_refl _, Nat.le_refl _⟩ dX12_chanceBy_88 (fun H locs hw => ?_)
              refine lv_aload_n hx hb dX12_chanceBy_91 rfl (lv_at hl 0 rfl) ?_
              obtain ⟨r_15, S_16, hr_15, hf⟩ := bB2_e hf
              refine kVi (rest := []) G hw (wX12_overOf hZ S_14 r_15 S_16 hr_15) cw_X12_380 (m_this hZ) KX12 ⟨by dsimp only; omega, by dsimp only; omega⟩ rfl hl.1 rfl (Nat.le_of_ble_eq_true rfl) ⟨Nat.le_refl _, Nat.le_refl _⟩ dX12_chanceBy_92 (fun H locs hw => ?_)
              refine lv_istore (lv' := [(10, .int r_15), (0, .ref (za Z 0)), (1, .int a1), (2, .int a2), (3, .int a3), (4, .int a4), (5, .int a5), (6, .int l6_1), (7, .int l7_7), (8, .int l8_8), (9, .int l9_9)]) hx hb dX12_chanceBy_95 hl (by decide) rfl (fun ls hl => ?_)
              refine lv_sipush hx hb dX12_chanceBy_97 ks_1000 ?_
              refine lv_iload hx hb dX12_chanceBy_100 (lv_at hl 5 rfl) ?_
              refine lv_aload_n hx hb dX12_chanceBy_102 rfl (lv_at hl 1 rfl) ?_
              obtain ⟨r_17, S_18, hr_17, hf⟩ := bB2_e hf
              refine kVi (rest := [.int a4, .int 1000]) G hw (wX12_wearOf hZ S_16 r_17 S_18 hr_17) cw_X12_383 (m_this hZ) KX12 ⟨by dsimp only; omega, by dsimp only; omega⟩ rfl hl.1 rfl (Nat.le_of_ble_eq_true rfl) ⟨Nat.le_refl _, Nat.le_refl _⟩ dX12_chanceBy_103 (fun H locs hw => ?_)
              refine lv_iadd hx hb dX12_chanceBy_106 ?_
              refine kSi (rest := []) G hw (wX12_lesser hZ S_18 1000 (a4 + r_17) (F12_lesser 1000 (a4 + r_17)) rfl) cw_X12_64 ⟨by dsimp only; omega, by dsimp only; omega⟩ rfl hl.1 rfl (Nat.le_of_ble_eq_true rfl) ⟨Nat.le_refl _, Nat.le_refl _⟩ dX12_chanceBy_107 (fun H locs hw => ?_)
              obtain ⟨l11_19, el11_19, hf⟩ := bL_e hf
              refine top_i el11_19 ?_
              refine lv_istore (lv' := [(11, .int l11_19), (10, .int r_15), (0, .ref (za Z 0)), (1, .int a1), (2, .int a2), (3, .int a3), (4, .int a4), (5, .int a5), (6, .int l6_1), (7, .int l7_7), (8, .int l8_8), (9, .int l9_9)]) hx hb dX12_chanceBy_110 hl (by decide) rfl (fun ls hl => ?_)
              refine lv_aload_n hx hb dX12_chanceBy_112 rfl (lv_at hl 2 rfl) ?_
              refine gF G hw (m_this hZ) KX12 45 (k2 := 16) rfl (by decide) rfl fl_X12_61 dX12_chanceBy_113 ?_
              refine lv_iload hx hb dX12_chanceBy_116 (lv_at hl 11 rfl) ?_
              refine lv_bipush hx hb dX12_chanceBy_118 kb_54 ?_
              refine lv_isub hx hb dX12_chanceBy_120 ?_
              refine lv_iconst hx hb dX12_chanceBy_121 ki_5 ?_
              refine lv_idiv hx hb dX12_chanceBy_122 (by decide) ?_
              obtain ⟨hg1, hf⟩ := bG_e hf
              refine aI G hw (m_reached hZ) hg1 (j := ((l9_9 - 54) / 5).toNatClampNeg) rfl dX12_chanceBy_123 ?_
              refine lv_iconst hx hb dX12_chanceBy_124 ki_1 ?_
              obtain ⟨j142, ej, hf⟩ := bL_e hf
              have R142 : ∀ (t_20 : Int32) (H : Heap) (locs : List Loc) (ls : Array Slot), Wd Z s S_18 H locs → lv_has ls 15 [(0, .ref (za Z 0)), (1, .int a1), (2, .int a2), (3, .int a3), (4, .int a4), (5, .int a5), (6, .int l6_1), (7, .int l7_7), (8, .int l8_8), (9, .int l9_9), (11, .int l11_19)] → j142 t_20 = some q_11 → W p l e { frames := (fr + 1), cells := 0, slots := 0, locals := (lo + 60) } s m args below meth c H locs 0 0 Q (F0 m 142 ls [.int t_20]) := by
                intro t_20 H locs ls hw hl hf
                have hf := (congrFun ej t_20).symm.trans hf
                refine lv_istore (lv' := [(12, .int t_20), (0, .ref (za Z 0)), (1, .int a1), (2, .int a2), (3, .int a3), (4, .int a4), (5, .int a5), (6, .int l6_1), (7, .int l7_7), (8, .int l8_8), (9, .int l9_9), (11, .int l11_19)]) hx hb dX12_chanceBy_142 hl (by decide) rfl (fun ls hl => ?_)
                refine lv_ldcw hx hb hown (hts _ cn_X12_480) dX12_chanceBy_144 ?_
                refine lv_iload hx hb dX12_chanceBy_147 (lv_at hl 0 rfl) ?_
                refine lv_isub hx hb dX12_chanceBy_149 ?_
                refine lv_i2l hx hb dX12_chanceBy_150 rfl ?_
                refine lv_aload_n hx hb dX12_chanceBy_151 rfl (lv_at hl 1 rfl) ?_
                refine lv_iload_n hx hb dX12_chanceBy_152 rfl (lv_at hl 2 rfl) ?_
                refine lv_iload_n hx hb dX12_chanceBy_153 rfl (lv_at hl 3 rfl) ?_
                refine lv_iconst hx hb dX12_chanceBy_154 ki_1 ?_
                refine lv_isub hx hb dX12_chanceBy_155 ?_
                refine lv_iload_n hx hb dX12_chanceBy_156 rfl (lv_at hl 4 rfl) ?_
                refine lv_iload hx hb dX12_chanceBy_157 (lv_at hl 11 rfl) ?_
                refine lv_iload hx hb dX12_chanceBy_159 (lv_at hl 6 rfl) ?_
                obtain ⟨r_21, S_22, hr_21, hf⟩ := bB2_e hf
                refine kVi (rest := [.long ((1000000 - t_20 : Int32).toInt64)]) G hw (hr_chanceBy S_18 a1 (a2 - 1) a3 l11_19 a5 r_21 S_22 hr_21) cw_X12_481 (m_this hZ) KX12 ⟨by dsimp only; omega, by dsimp only; omega⟩ rfl hl.1 rfl (Nat.le_of_ble_eq_true rfl) ⟨Nat.le_refl _, Nat.le_refl _⟩ dX12_chanceBy_161 (fun H locs hw => ?_)
                refine lv_i2l hx hb dX12_chanceBy_164 rfl ?_
                refine lv_lmul hx hb dX12_chanceBy_165 ?_
                refine lv_ldc2 hx hb hown (hts _ cl_X12_484) dX12_chanceBy_166 ?_
                refine lv_ldiv hx hb dX12_chanceBy_169 (by decide) ?_
                obtain ⟨l13_23, el13_23, hf⟩ := bL_e hf
                refine top_l el13_23 ?_
                refine lv_lstore (lv' := [(13, .long l13_23), (12, .int t_20), (0, .ref (za Z 0)), (1, .int a1), (2, .int a2), (3, .int a3), (4, .int a4), (5, .int a5), (6, .int l6_1), (7, .int l7_7), (8, .int l8_8), (9, .int l9_9), (11, .int l11_19)]) hx hb dX12_chanceBy_170 hl (by decide) rfl (fun ls hl => ?_)
                refine lv_iload hx hb dX12_chanceBy_172 (lv_at hl 1 rfl) ?_
                refine lv_lload hx hb dX12_chanceBy_174 (lv_at hl 0 rfl) ?_
                refine lv_l2i hx hb dX12_chanceBy_176 rfl ?_
                refine lv_iadd hx hb dX12_chanceBy_177 ?_
                refine lv_iload hx hb dX12_chanceBy_178 (lv_at hl 9 rfl) ?_
                obtain ⟨j198, ej, hf⟩ := bL_e hf
                have R198 : ∀ (l7_24 : Int32) (l8_25 : Int32) (H : Heap) (locs : List Loc) (ls : Array Slot), Wd Z s S_22 H locs → lv_has ls 15 [(0, .ref (za Z 0)), (1, .int a1), (2, .int a2), (3, .int a3), (4, .int a4), (5, .int a5), (6, .int l6_1), (7, .int l7_24), (8, .int l8_25), (9, .int l9_9)] → j198 l7_24 l8_25 = some q_11 → W p l e { frames := (fr + 1), cells := 0, slots := 0, locals := (lo + 60) } s m args below meth c H locs 0 0 Q (F0 m 198 ls []) := by
                  intro l7_24 l8_25 H locs ls hw hl hf
                  have hf := (congrFun (congrFun ej l7_24) l8_25).symm.trans hf
                  obtain ⟨l9_26, el9_26, hf⟩ := bL_e hf
                  refine lv_iinc (v := l9_26) (lv' := [(9, .int l9_26), (0, .ref (za Z 0)), (1, .int a1), (2, .int a2), (3, .int a3), (4, .int a4), (5, .int a5), (6, .int l6_1), (7, .int l7_24), (8, .int l8_25)]) hx hb dX12_chanceBy_198 hl (k := 9) rfl (by rw [el9_26]; rfl) (by decide) rfl (fun ls hl => ?_)
                  refine lv_goto (tgt := 53) hx hb dX12_chanceBy_201 (by decide) ?_
                  obtain rfl := Option.some.inj hf
                  exact ih _ hg _ _ _ _ _ _ _ hw (lv_sub hl [1, 2, 3, 4, 5, 6, 7, 8, 9, 0] rfl) hz
                clear ej
                refine lv_icmp_gt (tgt := 186) hx hb dX12_chanceBy_180 (by decide) (fun c_28 => ?_) (fun c_28 => ?_)
                · have hf := (if_pos c_28).symm.trans hf
                  refine lv_iload hx hb dX12_chanceBy_186 (lv_at hl 1 rfl) ?_
                  refine lv_lload hx hb dX12_chanceBy_188 (lv_at hl 0 rfl) ?_
                  refine lv_l2i hx hb dX12_chanceBy_190 rfl ?_
                  refine lv_iadd hx hb dX12_chanceBy_191 ?_
                  obtain ⟨l7_27, el7_27, hf⟩ := bL_e hf
                  refine top_i el7_27 ?_
                  refine lv_istore (lv' := [(7, .int l7_27), (13, .long l13_23), (12, .int t_20), (0, .ref (za Z 0)), (1, .int a1), (2, .int a2), (3, .int a3), (4, .int a4), (5, .int a5), (6, .int l6_1), (8, .int l8_8), (9, .int l9_9), (11, .int l11_19)]) hx hb dX12_chanceBy_192 hl (by decide) rfl (fun ls hl => ?_)
                  refine lv_iload hx hb dX12_chanceBy_194 (lv_at hl 11 rfl) ?_
                  refine lv_istore (lv' := [(8, .int l9_9), (7, .int l7_27), (13, .long l13_23), (12, .int t_20), (0, .ref (za Z 0)), (1, .int a1), (2, .int a2), (3, .int a3), (4, .int a4), (5, .int a5), (6, .int l6_1), (9, .int l9_9), (11, .int l11_19)]) hx hb dX12_chanceBy_196 hl (by decide) rfl (fun ls hl => ?_)
                  exact R198 _ _ _ _ _ hw (lv_sub hl [4, 5, 6, 7, 8, 9, 10, 1, 0, 11] rfl) hf
                · have hf := (if_neg c_28).symm.trans hf
                  refine lv_goto (tgt := 198) hx hb dX12_chanceBy_183 (by decide) ?_
                  exact R198 _ _ _ _ _ hw (lv_sub hl [2, 3, 4, 5, 6, 7, 8, 9, 10, 11] rfl) hf
              clear ej
              refine lv_icmp_ne (tgt := 141) hx hb dX12_chanceBy_125 (by decide) (fun c_29 => ?_) (fun c_29 => ?_)
              · have hf := (if_neg c_29).symm.trans hf
                refine lv_iconst hx hb dX12_chanceBy_141 ki_0 ?_
                exact R142 _ _ _ _ hw (lv_sub hl [2, 3, 4, 5, 6, 7, 8, 9, 10, 11, 0] rfl) hf
              · have hf := (if_pos c_29).symm.trans hf
                refine lv_ldcw hx hb hown (hts _ cn_X12_480) dX12_chanceBy_128 ?_
                refine lv_sipush hx hb dX12_chanceBy_131 ks_1000 ?_
                refine lv_iload hx hb dX12_chanceBy_134 (lv_at hl 1 rfl) ?_
                refine lv_imul hx hb dX12_chanceBy_136 ?_
                refine lv_isub hx hb dX12_chanceBy_137 ?_
                refine lv_goto (tgt := 142) hx hb dX12_chanceBy_138 (by decide) ?_
                exact R142 _ _ _ _ hw (lv_sub hl [2, 3, 4, 5, 6, 7, 8, 9, 10, 11, 0] rfl) hf
        clear eb
        obtain ⟨z, hz, hf⟩ := bB_e hf
        obtain ⟨n, hz⟩ := bP_e hz
        exact RL53 n z hf _ _ _ _ _ _ _ hw (lv_sub hl [4, 5, 6, 7, 8, 9, 3, 2, 1, 0] rfl) hz
      · have hf := (if_neg c_31).symm.trans hf
        refine lv_aload_n hx hb dX12_chanceBy_35 rfl (lv_at hl 1 rfl) ?_
        refine gF G hw (m_this hZ) KX12 43 (k2 := 14) rfl (by decide) rfl fl_X12_55 dX12_chanceBy_36 ?_
        refine lv_iload hx hb dX12_chanceBy_39 (lv_at hl 0 rfl) ?_
        obtain ⟨hg1, hf⟩ := bG_e hf
        refine aI G hw (m_chances hZ) hg1 (j := l6_1.toNatClampNeg) rfl dX12_chanceBy_41 ?_
        obtain ⟨e1, e2⟩ := Prod.mk.inj (Option.some.inj hf)
        exact hret _ _ _ _ _ dX12_chanceBy_42 e1 (by rw [← e2]; exact hw)
    · have hf := (if_pos c_32).symm.trans hf
      refine lv_iconst hx hb dX12_chanceBy_12 ki_0 ?_
      obtain ⟨e1, e2⟩ := Prod.mk.inj (Option.some.inj hf)
      exact hret _ _ _ _ _ dX12_chanceBy_13 e1 (by rw [← e2]; exact hw)
set_option maxHeartbeats 4000000 in
theorem tT12_chanceBy {l : Launch} {Z : pZ} (hZ : CM Z) : ∀ d : Nat, (∀ (S : pS) (a1 : Int32) (a2 : Int32) (a3 : Int32) (a4 : Int32) (a5 : Int32) (r : Int32) (S2 : pS), T12_chanceBy d S a1 a2 a3 a4 a5 = some (r, S2) → CI l Z yX12_chanceBy cX12_chanceBy 15 .int (rF 7 d) (rL 154 d) [.ref (za Z 0), .int a1, .int a2, .int a3, .int a4, .int a5] S r S2) := by
  intro d
  induction d with
  | zero => exact (fun _ _ _ _ _ _ _ _ h => (nomatch h))
  | succ d ih => exact (fun S a1 a2 a3 a4 a5 r S2 h => wBX12_chanceBy (hfr := Nat.le_trans (Nat.le_of_ble_eq_true rfl) (rF_le 7 d)) (hlo := Nat.le_trans (Nat.le_of_ble_eq_true rfl) (rL_le 154 d)) (hr_chanceBy := ih) hZ S a1 a2 a3 a4 a5 r S2 h)
theorem wX12_chanceBy {l : Launch} {Z : pZ} (hZ : CM Z) (S : pS) (a1 : Int32) (a2 : Int32) (a3 : Int32) (a4 : Int32) (a5 : Int32) (r : Int32) (S2 : pS)  (hf : F12_chanceBy S a1 a2 a3 a4 a5 = some (r, S2)) : CI l Z yX12_chanceBy cX12_chanceBy 15 .int 47 2554 [.ref (za Z 0), .int a1, .int a2, .int a3, .int a4, .int a5] S r S2 := tT12_chanceBy hZ 40 S a1 a2 a3 a4 a5 r S2 hf
noncomputable def F12_chance (S : pS) (a1 : Int32) (a2 : Int32) (a3 : Int32) (a4 : Int32) (a5 : Int32) (a6 : Int32) : Option (Int32 × pS) :=
  if (F12_isThrower S a1) = 0 then
    some (((-1) : Int32), S)
  else
    if (F12_isIn a3 0 6) = 0 then
      some (((-1) : Int32), S)
    else
      if (F12_isIn a4 0 60) = 0 then
        some (((-1) : Int32), S)
      else
        if (F12_isSpear S a5) = 0 then
          some (((-1) : Int32), S)
        else
          if (F12_isIn a6 0 1) = 0 then
            some (((-1) : Int32), S)
          else
            bB (F12_laysReached S a2 a4 a5) fun S_1 =>
            bL (fun (S_2 : pS) =>
              bB (F12_own S_2 a1 1) fun r_3 =>
              bB2 (F12_chanceBy S_2 a1 a3 a3 r_3 a4) fun r_4 S_5 =>
              if a6 = 0 then
                some (r_4, S_5)
              else
                if r_4 = 0 then
                  some ((0 : Int32), S_5)
                else
                  bB (F12_own S_5 a1 1) fun r_6 =>
                  bG (vp_in ((1001 * a3) + r_6) 7007) <|
                  some (S_5 15 (((1001 * a3) + r_6).toNatClampNeg), S_5)) fun g92_62 =>
            bL (u2 fun (l7_9 : Int32) (S_10 : pS) =>
              if 7007 ≤ l7_9 then
                some (.inr S_10)
              else
                bG (vp_in l7_9 7007) <|
                bL (sU S_10 14 l7_9.toNatClampNeg (-1)) fun S_12 =>
                bG (vp_in l7_9 7007) <|
                bL (sU S_12 15 l7_9.toNatClampNeg 0) fun S_13 =>
                bL (l7_9 + 1) fun l7_14 =>
                some (.inl (l7_14, S_13))) fun b62 =>
            bB (bP b62 ((0 : Int32), S_1)) (u1 g92_62)
set_option maxRecDepth 100000 in
set_option maxHeartbeats 4000000 in
theorem wX12_chance {l : Launch} {Z : pZ}  (hZ : CM Z) (S : pS) (a1 : Int32) (a2 : Int32) (a3 : Int32) (a4 : Int32) (a5 : Int32) (a6 : Int32) (r : Int32) (S2 : pS)  (hf : F12_chance S a1 a2 a3 a4 a5 a6 = some (r, S2)) : CI l Z yX12_chance cX12_chance 8 .int 48 2588 [.ref (za Z 0), .int a1, .int a2, .int a3, .int a4, .int a5, .int a6] S r S2 := by
  unfold F12_chance at hf
  refine eI (own := RX12) (by decide) rfl (Nat.le_of_ble_eq_true rfl) (fun p e s m args below meth c Q ls G hl hw hret => ?_)
  obtain ⟨hx, hb, hml, hown, hts⟩ := G.1
  have hl : lv_has ls 8 [(0, .ref (za Z 0)), (1, .int a1), (2, .int a2), (3, .int a3), (4, .int a4), (5, .int a5), (6, .int a6)] := hl
  refine lv_aload_n hx hb dX12_chance_0 rfl (lv_at hl 0 rfl) ?_
  refine lv_iload_n hx hb dX12_chance_1 rfl (lv_at hl 1 rfl) ?_
  refine kVi (rest := []) G hw (wX12_isThrower hZ S a1 (F12_isThrower S a1) rfl) cw_X12_87 (m_this hZ) KX12 ⟨Nat.le_of_ble_eq_true rfl, Nat.le_of_ble_eq_true rfl⟩ rfl hl.1 rfl (Nat.le_of_ble_eq_true rfl) ⟨Nat.le_refl _, Nat.le_refl _⟩ dX12_chance_2 (fun H locs hw => ?_)
  refine lv_if_eq (tgt := 48) hx hb dX12_chance_5 (by decide) (fun c_20 => ?_) (fun c_20 => ?_)
  · have hf := (if_pos c_20).symm.trans hf
    refine lv_iconst hx hb dX12_chance_48 ki_m1 ?_
    obtain ⟨e1, e2⟩ := Prod.mk.inj (Option.some.inj hf)
    exact hret _ _ _ _ _ dX12_chance_49 e1 (by rw [← e2]; exact hw)
  · have hf := (if_neg c_20).symm.trans hf
    refine lv_iload_n hx hb dX12_chance_8 rfl (lv_at hl 3 rfl) ?_
    refine lv_iconst hx hb dX12_chance_9 ki_0 ?_
    refine lv_bipush hx hb dX12_chance_10 kb_6 ?_
    refine kSi (rest := []) G hw (wX12_isIn hZ S a3 0 6 (F12_isIn a3 0 6) rfl) cw_X12_71 ⟨Nat.le_of_ble_eq_true rfl, Nat.le_of_ble_eq_true rfl⟩ rfl hl.1 rfl (Nat.le_of_ble_eq_true rfl) ⟨Nat.le_refl _, Nat.le_refl _⟩ dX12_chance_12 (fun H locs hw => ?_)
    refine lv_if_eq (tgt := 48) hx hb dX12_chance_15 (by decide) (fun c_19 => ?_) (fun c_19 => ?_)
    · have hf := (if_pos c_19).symm.trans hf
      refine lv_iconst hx hb dX12_chance_48 ki_m1 ?_
      obtain ⟨e1, e2⟩ := Prod.mk.inj (Option.some.inj hf)
      exact hret _ _ _ _ _ dX12_chance_49 e1 (by rw [← e2]; exact hw)
    · have hf := (if_neg c_19).symm.trans hf
      refine lv_iload hx hb dX12_chance_18 (lv_at hl 4 rfl) ?_
      refine lv_iconst hx hb dX12_chance_20 ki_0 ?_
      refine lv_bipush hx hb dX12_chance_21 kb_60 ?_
      refine kSi (rest := []) G hw (wX12_isIn hZ S a4 0 60 (F12_isIn a4 0 60) rfl) cw_X12_71 ⟨Nat.le_of_ble_eq_true rfl, Nat.le_of_ble_eq_true rfl⟩ rfl hl.1 rfl (Nat.le_of_ble_eq_true rfl) ⟨Nat.le_refl _, Nat.le_refl _⟩ dX12_chance_23 (fun H locs hw => ?_)
      refine lv_if_eq (tgt := 48) hx hb dX12_chance_26 (by decide) (fun c_18 => ?_) (fun c_18 => ?_)
      · have hf := (if_pos c_18).symm.trans hf
        refine lv_iconst hx hb dX12_chance_48 ki_m1 ?_
        obtain ⟨e1, e2⟩ := Prod.mk.inj (Option.some.inj hf)
        exact hret _ _ _ _ _ dX12_chance_49 e1 (by rw [← e2]; exact hw)
      · have hf := (if_neg c_18).symm.trans hf
        refine lv_aload_n hx hb dX12_chance_29 rfl (lv_at hl 0 rfl) ?_
        refine lv_iload hx hb dX12_chance_30 (lv_at hl 5 rfl) ?_
        refine kVi (rest := []) G hw (wX12_isSpear hZ S a5 (F12_isSpear S a5) rfl) cw_X12_401 (m_this hZ) KX12 ⟨Nat.le_of_ble_eq_true rfl, Nat.le_of_ble_eq_true rfl⟩ rfl hl.1 rfl (Nat.le_of_ble_eq_true rfl) ⟨Nat.le_refl _, Nat.le_refl _⟩ dX12_chance_32 (fun H locs hw => ?_)
        refine lv_if_eq (tgt := 48) hx hb dX12_chance_35 (by decide) (fun c_17 => ?_) (fun c_17 => ?_)
        · have hf := (if_pos c_17).symm.trans hf
          refine lv_iconst hx hb dX12_chance_48 ki_m1 ?_
          obtain ⟨e1, e2⟩ := Prod.mk.inj (Option.some.inj hf)
          exact hret _ _ _ _ _ dX12_chance_49 e1 (by rw [← e2]; exact hw)
        · have hf := (if_neg c_17).symm.trans hf
          refine lv_iload hx hb dX12_chance_38 (lv_at hl 6 rfl) ?_
          refine lv_iconst hx hb dX12_chance_40 ki_0 ?_
          refine lv_iconst hx hb dX12_chance_41 ki_1 ?_
          refine kSi (rest := []) G hw (wX12_isIn hZ S a6 0 1 (F12_isIn a6 0 1) rfl) cw_X12_71 ⟨Nat.le_of_ble_eq_true rfl, Nat.le_of_ble_eq_true rfl⟩ rfl hl.1 rfl (Nat.le_of_ble_eq_true rfl) ⟨Nat.le_refl _, Nat.le_refl _⟩ dX12_chance_42 (fun H locs hw => ?_)
          refine lv_if_ne (tgt := 50) hx hb dX12_chance_45 (by decide) (fun c_16 => ?_) (fun c_16 => ?_)
          · have hf := (if_neg c_16).symm.trans hf
            refine lv_aload_n hx hb dX12_chance_50 rfl (lv_at hl 0 rfl) ?_
            refine lv_iload_n hx hb dX12_chance_51 rfl (lv_at hl 2 rfl) ?_
            refine lv_iload hx hb dX12_chance_52 (lv_at hl 4 rfl) ?_
            refine lv_iload hx hb dX12_chance_54 (lv_at hl 5 rfl) ?_
            obtain ⟨S_1, hS_1, hf⟩ := bB_e hf
            refine kVv (rest := []) G hw (wX12_laysReached hZ S a2 a4 a5 S_1 hS_1) cw_X12_486 (m_this hZ) KX12 ⟨Nat.le_of_ble_eq_true rfl, Nat.le_of_ble_eq_true rfl⟩ rfl hl.1 rfl (Nat.le_of_ble_eq_true rfl) ⟨Nat.le_refl _, Nat.le_refl _⟩ dX12_chance_56 (fun H locs hw => ?_)
            refine lv_iconst hx hb dX12_chance_59 ki_0 ?_
            refine lv_istore (lv' := [(7, .int 0), (0, .ref (za Z 0)), (1, .int a1), (2, .int a2), (3, .int a3), (4, .int a4), (5, .int a5), (6, .int a6)]) hx hb dX12_chance_60 hl (by decide) rfl (fun ls hl => ?_)
            obtain ⟨g92_62, ej, hf⟩ := bL_e hf
            have R92_62 : ∀ (S_2 : pS) (H : Heap) (locs : List Loc) (ls : Array Slot), Wd Z s S_2 H locs → lv_has ls 8 [(0, .ref (za Z 0)), (1, .int a1), (3, .int a3), (4, .int a4), (6, .int a6)] → g92_62 S_2 = some (r, S2) → W p l e { frames := 48, cells := 0, slots := 0, locals := 2588 } s m args below meth c H locs 0 0 Q (F0 m 92 ls []) := by
              intro S_2 H locs ls hw hl hf
              have hf := (congrFun ej S_2).symm.trans hf
              refine lv_aload_n hx hb dX12_chance_92 rfl (lv_at hl 0 rfl) ?_
              refine lv_iload_n hx hb dX12_chance_93 rfl (lv_at hl 1 rfl) ?_
              refine lv_iload_n hx hb dX12_chance_94 rfl (lv_at hl 2 rfl) ?_
              refine lv_iload_n hx hb dX12_chance_95 rfl (lv_at hl 2 rfl) ?_
              refine lv_aload_n hx hb dX12_chance_96 rfl (lv_at hl 0 rfl) ?_
              refine lv_iload_n hx hb dX12_chance_97 rfl (lv_at hl 1 rfl) ?_
              refine lv_iconst hx hb dX12_chance_98 ki_1 ?_
              obtain ⟨r_3, hr_3, hf⟩ := bB_e hf
              refine kVi (rest := [.int a3, .int a3, .int a1, .ref (za Z 0)]) G hw (wX12_own hZ S_2 a1 1 r_3 hr_3) cw_X12_324 (m_this hZ) KX12 ⟨Nat.le_of_ble_eq_true rfl, Nat.le_of_ble_eq_true rfl⟩ rfl hl.1 rfl (Nat.le_of_ble_eq_true rfl) ⟨Nat.le_refl _, Nat.le_refl _⟩ dX12_chance_99 (fun H locs hw => ?_)
              refine lv_iload hx hb dX12_chance_102 (lv_at hl 3 rfl) ?_
              obtain ⟨r_4, S_5, hr_4, hf⟩ := bB2_e hf
              refine kVi (rest := []) G hw (wX12_chanceBy hZ S_2 a1 a3 a3 r_3 a4 r_4 S_5 hr_4) cw_X12_481 (m_this hZ) KX12 ⟨Nat.le_of_ble_eq_true rfl, Nat.le_of_ble_eq_true rfl⟩ rfl hl.1 rfl (Nat.le_of_ble_eq_true rfl) ⟨Nat.le_refl _, Nat.le_refl _⟩ dX12_chance_104 (fun H locs hw => ?_)
              refine lv_istore (lv' := [(7, .int r_4), (0, .ref (za Z 0)), (1, .int a1), (3, .int a3), (4, .int a4), (6, .int a6)]) hx hb dX12_chance_107 hl (by decide) rfl (fun ls hl => ?_)
              refine lv_iload hx hb dX12_chance_109 (lv_at hl 5 rfl) ?_
              refine lv_if_ne (tgt := 119) hx hb dX12_chance_111 (by decide) (fun c_8 => ?_) (fun c_8 => ?_)
              · have hf := (if_neg c_8).symm.trans hf
                refine lv_iload hx hb dX12_chance_119 (lv_at hl 0 rfl) ?_
                refine lv_if_ne (tgt := 128) hx hb dX12_chance_121 (by decide) (fun c_7 => ?_) (fun c_7 => ?_)
                · have hf := (if_neg c_7).symm.trans hf
                  refine lv_aload_n hx hb dX12_chance_128 rfl (lv_at hl 1 rfl) ?_
                  refine gF G hw (m_this hZ) KX12 44 (k2 := 15) rfl (by decide) rfl fl_X12_58 dX12_chance_129 ?_
                  refine lv_sipush hx hb dX12_chance_132 ks_1001 ?_
                  refine lv_iload_n hx hb dX12_chance_135 rfl (lv_at hl 3 rfl) ?_
                  refine lv_imul hx hb dX12_chance_136 ?_
                  refine lv_aload_n hx hb dX12_chance_137 rfl (lv_at hl 1 rfl) ?_
                  refine lv_iload_n hx hb dX12_chance_138 rfl (lv_at hl 2 rfl) ?_
                  refine lv_iconst hx hb dX12_chance_139 ki_1 ?_
                  obtain ⟨r_6, hr_6, hf⟩ := bB_e hf
                  refine kVi (rest := [.int (1001 * a3), .ref (za Z 15)]) G hw (wX12_own hZ S_5 a1 1 r_6 hr_6) cw_X12_324 (m_this hZ) KX12 ⟨Nat.le_of_ble_eq_true rfl, Nat.le_of_ble_eq_true rfl⟩ rfl hl.1 rfl (Nat.le_of_ble_eq_true rfl) ⟨Nat.le_refl _, Nat.le_refl _⟩ dX12_chance_140 (fun H locs hw => ?_)
                  refine lv_iadd hx hb dX12_chance_143 ?_
                  obtain ⟨hg1, hf⟩ := bG_e hf
                  refine aI G hw (m_firsts hZ) hg1 (j := ((1001 * a3) + r_6).toNatClampNeg) rfl dX12_chance_144 ?_
                  obtain ⟨e1, e2⟩ := Prod.mk.inj (Option.some.inj hf)
                  exact hret _ _ _ _ _ dX12_chance_145 e1 (by rw [← e2]; exact hw)
                · have hf := (if_pos c_7).symm.trans hf
                  refine lv_iconst hx hb dX12_chance_124 ki_0 ?_
                  refine lv_goto (tgt := 145) hx hb dX12_chance_125 (by decide) ?_
                  obtain ⟨e1, e2⟩ := Prod.mk.inj (Option.some.inj hf)
                  exact hret _ _ _ _ _ dX12_chance_145 e1 (by rw [← e2]; exact hw)
              · have hf := (if_pos c_8).symm.trans hf
                refine lv_iload hx hb dX12_chance_114 (lv_at hl 0 rfl) ?_
                refine lv_goto (tgt := 145) hx hb dX12_chance_116 (by decide) ?_
                obtain ⟨e1, e2⟩ := Prod.mk.inj (Option.some.inj hf)
                exact hret _ _ _ _ _ dX12_chance_145 e1 (by rw [← e2]; exact hw)
            clear ej
            obtain ⟨b62, eb, hf⟩ := bL_e hf
            have RL62 : ∀ (n : Nat) z, (u1 g92_62) z = some (r, S2) → ∀ (l7_9 : Int32) (S_10 : pS) (H : Heap) (locs : List Loc) (ls : Array Slot), Wd Z s S_10 H locs → lv_has ls 8 [(0, .ref (za Z 0)), (1, .int a1), (3, .int a3), (4, .int a4), (6, .int a6), (7, .int l7_9)] → bPn b62 n (l7_9, S_10) = some z → W p l e { frames := 48, cells := 0, slots := 0, locals := 2588 } s m args below meth c H locs 0 0 Q (F0 m 62 ls []) := by
              intro n
              induction n with
              | zero =>
                intro z hg l7_9 S_10 H locs ls hw hl hz
                exact bPn_0 hz
              | succ n ih =>
                intro z hg l7_9 S_10 H locs ls hw hl hz
                obtain ⟨q_11, hf, hz⟩ := bPn_e hz
                have hf := u2_e ((congrFun eb _).symm.trans hf)
                refine lv_iload hx hb dX12_chance_62 (lv_at hl 5 rfl) ?_
                refine lv_sipush hx hb dX12_chance_64 ks_7007 ?_
                refine lv_icmp_ge (tgt := 92) hx hb dX12_chance_67 (by decide) (fun c_15 => ?_) (fun c_15 => ?_)
                · have hf := (if_pos c_15).symm.trans hf
                  obtain rfl := Option.some.inj hf
                  obtain rfl := Option.some.inj (hz : some _ = some _)
                  exact R92_62 _ _ _ _ hw (lv_sub hl [0, 1, 2, 3, 4] rfl) hg
                · have hf := (if_neg c_15).symm.trans hf
                  refine lv_aload_n hx hb dX12_chance_70 rfl (lv_at hl 0 rfl) ?_
                  refine gF G hw (m_this hZ) KX12 43 (k2 := 14) rfl (by decide) rfl fl_X12_55 dX12_chance_71 ?_
                  refine lv_iload hx hb dX12_chance_74 (lv_at hl 5 rfl) ?_
                  refine lv_iconst hx hb dX12_chance_76 ki_m1 ?_
                  obtain ⟨hg1, hf⟩ := bG_e hf
                  obtain ⟨S_12, eS_12, hf⟩ := bL_e hf
                  refine sI G hw (m_chances hZ) hg1 (j := l7_9.toNatClampNeg) rfl eS_12 dX12_chance_77 (fun H locs hw => ?_)
                  refine lv_aload_n hx hb dX12_chance_78 rfl (lv_at hl 0 rfl) ?_
                  refine gF G hw (m_this hZ) KX12 44 (k2 := 15) rfl (by decide) rfl fl_X12_58 dX12_chance_79 ?_
                  refine lv_iload hx hb dX12_chance_82 (lv_at hl 5 rfl) ?_
                  refine lv_iconst hx hb dX12_chance_84 ki_0 ?_
                  obtain ⟨hg1, hf⟩ := bG_e hf
                  obtain ⟨S_13, eS_13, hf⟩ := bL_e hf
                  refine sI G hw (m_firsts hZ) hg1 (j := l7_9.toNatClampNeg) rfl eS_13 dX12_chance_85 (fun H locs hw => ?_)
                  obtain ⟨l7_14, el7_14, hf⟩ := bL_e hf
                  refine lv_iinc (v := l7_14) (lv' := [(7, .int l7_14), (0, .ref (za Z 0)), (1, .int a1), (3, .int a3), (4, .int a4), (6, .int a6)]) hx hb dX12_chance_86 hl (k := 5) rfl (by rw [el7_14]; rfl) (by decide) rfl (fun ls hl => ?_)
                  refine lv_goto (tgt := 62) hx hb dX12_chance_89 (by decide) ?_
                  obtain rfl := Option.some.inj hf
                  exact ih _ hg _ _ _ _ _ hw (lv_sub hl [1, 2, 3, 4, 5, 0] rfl) hz
            clear eb
            obtain ⟨z, hz, hf⟩ := bB_e hf
            obtain ⟨n, hz⟩ := bP_e hz
            exact RL62 n z hf _ _ _ _ _ hw (lv_sub hl [1, 2, 4, 5, 7, 0] rfl) hz
          · have hf := (if_pos c_16).symm.trans hf
            refine lv_iconst hx hb dX12_chance_48 ki_m1 ?_
            obtain ⟨e1, e2⟩ := Prod.mk.inj (Option.some.inj hf)
            exact hret _ _ _ _ _ dX12_chance_49 e1 (by rw [← e2]; exact hw)
noncomputable def F12_gust (S : pS) (a1 : Int32) : Option (Int32 × pS) :=
  if a1 = (-100) then
    bL (sU S 1 69 0) fun S_5 =>
    some ((0 : Int32), S_5)
  else
    if (F12_isWind a1) = 0 then
      some (((-1) : Int32), S)
    else
      if (S 1 69) = 60 then
        some (((-1) : Int32), S)
      else
        bG (vp_in (90 + (S 1 69)) 4296) <|
        bL (sU S 1 ((90 + (S 1 69)).toNatClampNeg) a1) fun S_1 =>
        bL (sU S_1 1 69 ((S_1 1 69) + 1)) fun S_2 =>
        some (S_2 1 69, S_2)
set_option maxRecDepth 100000 in
set_option maxHeartbeats 4000000 in
theorem wX12_gust {l : Launch} {Z : pZ}  (hZ : CM Z) (S : pS) (a1 : Int32) (r : Int32) (S2 : pS)  (hf : F12_gust S a1 = some (r, S2)) : CI l Z yX12_gust cX12_gust 2 .int 5 102 [.ref (za Z 0), .int a1] S r S2 := by
  unfold F12_gust at hf
  refine eI (own := RX12) (by decide) rfl (Nat.le_of_ble_eq_true rfl) (fun p e s m args below meth c Q ls G hl hw hret => ?_)
  obtain ⟨hx, hb, hml, hown, hts⟩ := G.1
  have hl : lv_has ls 2 [(0, .ref (za Z 0)), (1, .int a1)] := hl
  refine lv_iload_n hx hb dX12_gust_0 rfl (lv_at hl 1 rfl) ?_
  refine lv_bipush hx hb dX12_gust_1 kb_m100 ?_
  refine lv_icmp_ne (tgt := 16) hx hb dX12_gust_3 (by decide) (fun c_6 => ?_) (fun c_6 => ?_)
  · have hf := (if_neg c_6).symm.trans hf
    refine lv_iload_n hx hb dX12_gust_16 rfl (lv_at hl 1 rfl) ?_
    refine kSi (rest := []) G hw (wX12_isWind hZ S a1 (F12_isWind a1) rfl) cw_X12_443 ⟨Nat.le_of_ble_eq_true rfl, Nat.le_of_ble_eq_true rfl⟩ rfl hl.1 rfl (Nat.le_of_ble_eq_true rfl) ⟨Nat.le_refl _, Nat.le_refl _⟩ dX12_gust_17 (fun H locs hw => ?_)
    refine lv_if_eq (tgt := 35) hx hb dX12_gust_20 (by decide) (fun c_4 => ?_) (fun c_4 => ?_)
    · have hf := (if_pos c_4).symm.trans hf
      refine lv_iconst hx hb dX12_gust_35 ki_m1 ?_
      obtain ⟨e1, e2⟩ := Prod.mk.inj (Option.some.inj hf)
      exact hret _ _ _ _ _ dX12_gust_36 e1 (by rw [← e2]; exact hw)
    · have hf := (if_neg c_4).symm.trans hf
      refine lv_aload_n hx hb dX12_gust_23 rfl (lv_at hl 0 rfl) ?_
      refine gF G hw (m_this hZ) KX12 0 (k2 := 1) rfl (by decide) rfl fl_X12_7 dX12_gust_24 ?_
      refine lv_bipush hx hb dX12_gust_27 kb_69 ?_
      refine aI G hw (m_w hZ) (vin_e (by decide)) (j := 69) (by decide) dX12_gust_29 ?_
      refine lv_bipush hx hb dX12_gust_30 kb_60 ?_
      refine lv_icmp_ne (tgt := 37) hx hb dX12_gust_32 (by decide) (fun c_3 => ?_) (fun c_3 => ?_)
      · have hf := (if_neg c_3).symm.trans hf
        refine lv_aload_n hx hb dX12_gust_37 rfl (lv_at hl 0 rfl) ?_
        refine gF G hw (m_this hZ) KX12 0 (k2 := 1) rfl (by decide) rfl fl_X12_7 dX12_gust_38 ?_
        refine lv_bipush hx hb dX12_gust_41 kb_90 ?_
        refine lv_aload_n hx hb dX12_gust_43 rfl (lv_at hl 0 rfl) ?_
        refine gF G hw (m_this hZ) KX12 0 (k2 := 1) rfl (by decide) rfl fl_X12_7 dX12_gust_44 ?_
        refine lv_bipush hx hb dX12_gust_47 kb_69 ?_
        refine aI G hw (m_w hZ) (vin_e (by decide)) (j := 69) (by decide) dX12_gust_49 ?_
        refine lv_iadd hx hb dX12_gust_50 ?_
        refine lv_iload_n hx hb dX12_gust_51 rfl (lv_at hl 1 rfl) ?_
        obtain ⟨hg1, hf⟩ := bG_e hf
        obtain ⟨S_1, eS_1, hf⟩ := bL_e hf
        refine sI G hw (m_w hZ) hg1 (j := (90 + (S 1 69)).toNatClampNeg) rfl eS_1 dX12_gust_52 (fun H locs hw => ?_)
        refine lv_aload_n hx hb dX12_gust_53 rfl (lv_at hl 0 rfl) ?_
        refine gF G hw (m_this hZ) KX12 0 (k2 := 1) rfl (by decide) rfl fl_X12_7 dX12_gust_54 ?_
        refine lv_bipush hx hb dX12_gust_57 kb_69 ?_
        refine lv_dup2_11 hx hb dX12_gust_59 rfl rfl ?_
        refine aI G hw (m_w hZ) (vin_e (by decide)) (j := 69) (by decide) dX12_gust_60 ?_
        refine lv_iconst hx hb dX12_gust_61 ki_1 ?_
        refine lv_iadd hx hb dX12_gust_62 ?_
        obtain ⟨S_2, eS_2, hf⟩ := bL_e hf
        refine sI G hw (m_w hZ) (vin_e (by decide)) (j := 69) (by decide) eS_2 dX12_gust_63 (fun H locs hw => ?_)
        refine lv_aload_n hx hb dX12_gust_64 rfl (lv_at hl 0 rfl) ?_
        refine gF G hw (m_this hZ) KX12 0 (k2 := 1) rfl (by decide) rfl fl_X12_7 dX12_gust_65 ?_
        refine lv_bipush hx hb dX12_gust_68 kb_69 ?_
        refine aI G hw (m_w hZ) (vin_e (by decide)) (j := 69) (by decide) dX12_gust_70 ?_
        obtain ⟨e1, e2⟩ := Prod.mk.inj (Option.some.inj hf)
        exact hret _ _ _ _ _ dX12_gust_71 e1 (by rw [← e2]; exact hw)
      · have hf := (if_pos c_3).symm.trans hf
        refine lv_iconst hx hb dX12_gust_35 ki_m1 ?_
        obtain ⟨e1, e2⟩ := Prod.mk.inj (Option.some.inj hf)
        exact hret _ _ _ _ _ dX12_gust_36 e1 (by rw [← e2]; exact hw)
  · have hf := (if_pos c_6).symm.trans hf
    refine lv_aload_n hx hb dX12_gust_6 rfl (lv_at hl 0 rfl) ?_
    refine gF G hw (m_this hZ) KX12 0 (k2 := 1) rfl (by decide) rfl fl_X12_7 dX12_gust_7 ?_
    refine lv_bipush hx hb dX12_gust_10 kb_69 ?_
    refine lv_iconst hx hb dX12_gust_12 ki_0 ?_
    obtain ⟨S_5, eS_5, hf⟩ := bL_e hf
    refine sI G hw (m_w hZ) (vin_e (by decide)) (j := 69) (by decide) eS_5 dX12_gust_13 (fun H locs hw => ?_)
    refine lv_iconst hx hb dX12_gust_14 ki_0 ?_
    obtain ⟨e1, e2⟩ := Prod.mk.inj (Option.some.inj hf)
    exact hret _ _ _ _ _ dX12_gust_15 e1 (by rw [← e2]; exact hw)
noncomputable def F12_waitFor (S : pS) (a1 : Int32) (a2 : Int32) (a3 : Int32) (a4 : Int32) : Option (Int32 × pS) :=
  if (F12_isForce a1) = 0 then
    some (((-1) : Int32), S)
  else
    if (F12_isIn a2 0 60) = 0 then
      some (((-1) : Int32), S)
    else
      if (F12_isSpear S a3) = 0 then
        some (((-1) : Int32), S)
      else
        if (F12_isIn a4 0 1) = 0 then
          some (((-1) : Int32), S)
        else
          bL (fun (l5_1 : Int32) (l6_2 : Int32) (S_3 : pS) =>
            if a4 = 0 then
              some (l5_1, S_3)
            else
              some (l6_2, S_3)) fun g101_46 =>
          bL (u4 fun (l5_5 : Int32) (l6_6 : Int32) (l7_7 : Int32) (S_8 : pS) =>
            if (S_8 1 69) ≤ l7_7 then
              some (.inr (l5_5, l6_6, S_8))
            else
              bG (vp_in (90 + l7_7) 4296) <|
              bB2 (F12_goodFar S_8 a1 a2 a3 (S_8 1 ((90 + l7_7).toNatClampNeg))) fun r_10 S_11 =>
              bL (fun (l5_12 : Int32) (l6_13 : Int32) =>
                bL (l7_7 + 1) fun l7_14 =>
                some (.inl (l5_12, l6_13, l7_14, S_11))) fun j95 =>
              if l6_6 < r_10 then
                j95 l7_7 r_10
              else
                j95 l5_5 l6_6) fun b46 =>
          bB (bP b46 (((-1) : Int32), ((-1) : Int32), (0 : Int32), S)) (u3 g101_46)
set_option maxRecDepth 100000 in
set_option maxHeartbeats 4000000 in
theorem wX12_waitFor {l : Launch} {Z : pZ}  (hZ : CM Z) (S : pS) (a1 : Int32) (a2 : Int32) (a3 : Int32) (a4 : Int32) (r : Int32) (S2 : pS)  (hf : F12_waitFor S a1 a2 a3 a4 = some (r, S2)) : CI l Z yX12_waitFor cX12_waitFor 9 .int 9 207 [.ref (za Z 0), .int a1, .int a2, .int a3, .int a4] S r S2 := by
  unfold F12_waitFor at hf
  refine eI (own := RX12) (by decide) rfl (Nat.le_of_ble_eq_true rfl) (fun p e s m args below meth c Q ls G hl hw hret => ?_)
  obtain ⟨hx, hb, hml, hown, hts⟩ := G.1
  have hl : lv_has ls 9 [(0, .ref (za Z 0)), (1, .int a1), (2, .int a2), (3, .int a3), (4, .int a4)] := hl
  refine lv_iload_n hx hb dX12_waitFor_0 rfl (lv_at hl 1 rfl) ?_
  refine kSi (rest := []) G hw (wX12_isForce hZ S a1 (F12_isForce a1) rfl) cw_X12_440 ⟨Nat.le_of_ble_eq_true rfl, Nat.le_of_ble_eq_true rfl⟩ rfl hl.1 rfl (Nat.le_of_ble_eq_true rfl) ⟨Nat.le_refl _, Nat.le_refl _⟩ dX12_waitFor_1 (fun H locs hw => ?_)
  refine lv_if_eq (tgt := 35) hx hb dX12_waitFor_4 (by decide) (fun c_20 => ?_) (fun c_20 => ?_)
  · have hf := (if_pos c_20).symm.trans hf
    refine lv_iconst hx hb dX12_waitFor_35 ki_m1 ?_
    obtain ⟨e1, e2⟩ := Prod.mk.inj (Option.some.inj hf)
    exact hret _ _ _ _ _ dX12_waitFor_36 e1 (by rw [← e2]; exact hw)
  · have hf := (if_neg c_20).symm.trans hf
    refine lv_iload_n hx hb dX12_waitFor_7 rfl (lv_at hl 2 rfl) ?_
    refine lv_iconst hx hb dX12_waitFor_8 ki_0 ?_
    refine lv_bipush hx hb dX12_waitFor_9 kb_60 ?_
    refine kSi (rest := []) G hw (wX12_isIn hZ S a2 0 60 (F12_isIn a2 0 60) rfl) cw_X12_71 ⟨Nat.le_of_ble_eq_true rfl, Nat.le_of_ble_eq_true rfl⟩ rfl hl.1 rfl (Nat.le_of_ble_eq_true rfl) ⟨Nat.le_refl _, Nat.le_refl _⟩ dX12_waitFor_11 (fun H locs hw => ?_)
    refine lv_if_eq (tgt := 35) hx hb dX12_waitFor_14 (by decide) (fun c_19 => ?_) (fun c_19 => ?_)
    · have hf := (if_pos c_19).symm.trans hf
      refine lv_iconst hx hb dX12_waitFor_35 ki_m1 ?_
      obtain ⟨e1, e2⟩ := Prod.mk.inj (Option.some.inj hf)
      exact hret _ _ _ _ _ dX12_waitFor_36 e1 (by rw [← e2]; exact hw)
    · have hf := (if_neg c_19).symm.trans hf
      refine lv_aload_n hx hb dX12_waitFor_17 rfl (lv_at hl 0 rfl) ?_
      refine lv_iload_n hx hb dX12_waitFor_18 rfl (lv_at hl 3 rfl) ?_
      refine kVi (rest := []) G hw (wX12_isSpear hZ S a3 (F12_isSpear S a3) rfl) cw_X12_401 (m_this hZ) KX12 ⟨Nat.le_of_ble_eq_true rfl, Nat.le_of_ble_eq_true rfl⟩ rfl hl.1 rfl (Nat.le_of_ble_eq_true rfl) ⟨Nat.le_refl _, Nat.le_refl _⟩ dX12_waitFor_19 (fun H locs hw => ?_)
      refine lv_if_eq (tgt := 35) hx hb dX12_waitFor_22 (by decide) (fun c_18 => ?_) (fun c_18 => ?_)
      · have hf := (if_pos c_18).symm.trans hf
        refine lv_iconst hx hb dX12_waitFor_35 ki_m1 ?_
        obtain ⟨e1, e2⟩ := Prod.mk.inj (Option.some.inj hf)
        exact hret _ _ _ _ _ dX12_waitFor_36 e1 (by rw [← e2]; exact hw)
      · have hf := (if_neg c_18).symm.trans hf
        refine lv_iload hx hb dX12_waitFor_25 (lv_at hl 4 rfl) ?_
        refine lv_iconst hx hb dX12_waitFor_27 ki_0 ?_
        refine lv_iconst hx hb dX12_waitFor_28 ki_1 ?_
        refine kSi (rest := []) G hw (wX12_isIn hZ S a4 0 1 (F12_isIn a4 0 1) rfl) cw_X12_71 ⟨Nat.le_of_ble_eq_true rfl, Nat.le_of_ble_eq_true rfl⟩ rfl hl.1 rfl (Nat.le_of_ble_eq_true rfl) ⟨Nat.le_refl _, Nat.le_refl _⟩ dX12_waitFor_29 (fun H locs hw => ?_)
        refine lv_if_ne (tgt := 37) hx hb dX12_waitFor_32 (by decide) (fun c_17 => ?_) (fun c_17 => ?_)
        · have hf := (if_neg c_17).symm.trans hf
          refine lv_iconst hx hb dX12_waitFor_37 ki_m1 ?_
          refine lv_istore (lv' := [(5, .int (-1)), (0, .ref (za Z 0)), (1, .int a1), (2, .int a2), (3, .int a3), (4, .int a4)]) hx hb dX12_waitFor_38 hl (by decide) rfl (fun ls hl => ?_)
          refine lv_iconst hx hb dX12_waitFor_40 ki_m1 ?_
          refine lv_istore (lv' := [(6, .int (-1)), (5, .int (-1)), (0, .ref (za Z 0)), (1, .int a1), (2, .int a2), (3, .int a3), (4, .int a4)]) hx hb dX12_waitFor_41 hl (by decide) rfl (fun ls hl => ?_)
          refine lv_iconst hx hb dX12_waitFor_43 ki_0 ?_
          refine lv_istore (lv' := [(7, .int 0), (6, .int (-1)), (5, .int (-1)), (0, .ref (za Z 0)), (1, .int a1), (2, .int a2), (3, .int a3), (4, .int a4)]) hx hb dX12_waitFor_44 hl (by decide) rfl (fun ls hl => ?_)
          obtain ⟨g101_46, ej, hf⟩ := bL_e hf
          have R101_46 : ∀ (l5_1 : Int32) (l6_2 : Int32) (S_3 : pS) (H : Heap) (locs : List Loc) (ls : Array Slot), Wd Z s S_3 H locs → lv_has ls 9 [(4, .int a4), (5, .int l5_1), (6, .int l6_2)] → g101_46 l5_1 l6_2 S_3 = some (r, S2) → W p l e { frames := 9, cells := 0, slots := 0, locals := 207 } s m args below meth c H locs 0 0 Q (F0 m 101 ls []) := by
            intro l5_1 l6_2 S_3 H locs ls hw hl hf
            have hf := (congrFun (congrFun (congrFun ej l5_1) l6_2) S_3).symm.trans hf
            refine lv_iload hx hb dX12_waitFor_101 (lv_at hl 0 rfl) ?_
            refine lv_if_ne (tgt := 111) hx hb dX12_waitFor_103 (by decide) (fun c_4 => ?_) (fun c_4 => ?_)
            · have hf := (if_neg c_4).symm.trans hf
              refine lv_iload hx hb dX12_waitFor_111 (lv_at hl 2 rfl) ?_
              obtain ⟨e1, e2⟩ := Prod.mk.inj (Option.some.inj hf)
              exact hret _ _ _ _ _ dX12_waitFor_113 e1 (by rw [← e2]; exact hw)
            · have hf := (if_pos c_4).symm.trans hf
              refine lv_iload hx hb dX12_waitFor_106 (lv_at hl 1 rfl) ?_
              refine lv_goto (tgt := 113) hx hb dX12_waitFor_108 (by decide) ?_
              obtain ⟨e1, e2⟩ := Prod.mk.inj (Option.some.inj hf)
              exact hret _ _ _ _ _ dX12_waitFor_113 e1 (by rw [← e2]; exact hw)
          clear ej
          obtain ⟨b46, eb, hf⟩ := bL_e hf
          have RL46 : ∀ (n : Nat) z, (u3 g101_46) z = some (r, S2) → ∀ (l5_5 : Int32) (l6_6 : Int32) (l7_7 : Int32) (S_8 : pS) (H : Heap) (locs : List Loc) (ls : Array Slot), Wd Z s S_8 H locs → lv_has ls 9 [(0, .ref (za Z 0)), (1, .int a1), (2, .int a2), (3, .int a3), (4, .int a4), (5, .int l5_5), (6, .int l6_6), (7, .int l7_7)] → bPn b46 n (l5_5, l6_6, l7_7, S_8) = some z → W p l e { frames := 9, cells := 0, slots := 0, locals := 207 } s m args below meth c H locs 0 0 Q (F0 m 46 ls []) := by
            intro n
            induction n with
            | zero =>
              intro z hg l5_5 l6_6 l7_7 S_8 H locs ls hw hl hz
              exact bPn_0 hz
            | succ n ih =>
              intro z hg l5_5 l6_6 l7_7 S_8 H locs ls hw hl hz
              obtain ⟨q_9, hf, hz⟩ := bPn_e hz
              have hf := u4_e ((congrFun eb _).symm.trans hf)
              refine lv_iload hx hb dX12_waitFor_46 (lv_at hl 7 rfl) ?_
              refine lv_aload_n hx hb dX12_waitFor_48 rfl (lv_at hl 0 rfl) ?_
              refine gF G hw (m_this hZ) KX12 0 (k2 := 1) rfl (by decide) rfl fl_X12_7 dX12_waitFor_49 ?_
              refine lv_bipush hx hb dX12_waitFor_52 kb_69 ?_
              refine aI G hw (m_w hZ) (vin_e (by decide)) (j := 69) (by decide) dX12_waitFor_54 ?_
              refine lv_icmp_ge (tgt := 101) hx hb dX12_waitFor_55 (by decide) (fun c_16 => ?_) (fun c_16 => ?_)
              · have hf := (if_pos c_16).symm.trans hf
                obtain rfl := Option.some.inj hf
                obtain rfl := Option.some.inj (hz : some _ = some _)
                exact R101_46 _ _ _ _ _ _ hw (lv_sub hl [4, 5, 6] rfl) hg
              · have hf := (if_neg c_16).symm.trans hf
                refine lv_aload_n hx hb dX12_waitFor_58 rfl (lv_at hl 0 rfl) ?_
                refine lv_iload_n hx hb dX12_waitFor_59 rfl (lv_at hl 1 rfl) ?_
                refine lv_iload_n hx hb dX12_waitFor_60 rfl (lv_at hl 2 rfl) ?_
                refine lv_iload_n hx hb dX12_waitFor_61 rfl (lv_at hl 3 rfl) ?_
                refine lv_aload_n hx hb dX12_waitFor_62 rfl (lv_at hl 0 rfl) ?_
                refine gF G hw (m_this hZ) KX12 0 (k2 := 1) rfl (by decide) rfl fl_X12_7 dX12_waitFor_63 ?_
                refine lv_bipush hx hb dX12_waitFor_66 kb_90 ?_
                refine lv_iload hx hb dX12_waitFor_68 (lv_at hl 7 rfl) ?_
                refine lv_iadd hx hb dX12_waitFor_70 ?_
                obtain ⟨hg1, hf⟩ := bG_e hf
                refine aI G hw (m_w hZ) hg1 (j := (90 + l7_7).toNatClampNeg) rfl dX12_waitFor_71 ?_
                obtain ⟨r_10, S_11, hr_10, hf⟩ := bB2_e hf
                refine kVi (rest := []) G hw (wX12_goodFar hZ S_8 a1 a2 a3 (S_8 1 ((90 + l7_7).toNatClampNeg)) r_10 S_11 hr_10) cw_X12_434 (m_this hZ) KX12 ⟨Nat.le_of_ble_eq_true rfl, Nat.le_of_ble_eq_true rfl⟩ rfl hl.1 rfl (Nat.le_of_ble_eq_true rfl) ⟨Nat.le_refl _, Nat.le_refl _⟩ dX12_waitFor_72 (fun H locs hw => ?_)
                refine lv_istore (lv' := [(8, .int r_10), (0, .ref (za Z 0)), (1, .int a1), (2, .int a2), (3, .int a3), (4, .int a4), (5, .int l5_5), (6, .int l6_6), (7, .int l7_7)]) hx hb dX12_waitFor_75 hl (by decide) rfl (fun ls hl => ?_)
                refine lv_iload hx hb dX12_waitFor_77 (lv_at hl 0 rfl) ?_
                refine lv_iload hx hb dX12_waitFor_79 (lv_at hl 7 rfl) ?_
                obtain ⟨j95, ej, hf⟩ := bL_e hf
                have R95 : ∀ (l5_12 : Int32) (l6_13 : Int32) (H : Heap) (locs : List Loc) (ls : Array Slot), Wd Z s S_11 H locs → lv_has ls 9 [(0, .ref (za Z 0)), (1, .int a1), (2, .int a2), (3, .int a3), (4, .int a4), (5, .int l5_12), (6, .int l6_13), (7, .int l7_7)] → j95 l5_12 l6_13 = some q_9 → W p l e { frames := 9, cells := 0, slots := 0, locals := 207 } s m args below meth c H locs 0 0 Q (F0 m 95 ls []) := by
                  intro l5_12 l6_13 H locs ls hw hl hf
                  have hf := (congrFun (congrFun ej l5_12) l6_13).symm.trans hf
                  obtain ⟨l7_14, el7_14, hf⟩ := bL_e hf
                  refine lv_iinc (v := l7_14) (lv' := [(7, .int l7_14), (0, .ref (za Z 0)), (1, .int a1), (2, .int a2), (3, .int a3), (4, .int a4), (5, .int l5_12), (6, .int l6_13)]) hx hb dX12_waitFor_95 hl (k := 7) rfl (by rw [el7_14]; rfl) (by decide) rfl (fun ls hl => ?_)
                  refine lv_goto (tgt := 46) hx hb dX12_waitFor_98 (by decide) ?_
                  obtain rfl := Option.some.inj hf
                  exact ih _ hg _ _ _ _ _ _ _ hw (lv_sub hl [1, 2, 3, 4, 5, 6, 7, 0] rfl) hz
                clear ej
                refine lv_icmp_gt (tgt := 87) hx hb dX12_waitFor_81 (by decide) (fun c_15 => ?_) (fun c_15 => ?_)
                · have hf := (if_pos c_15).symm.trans hf
                  refine lv_iload hx hb dX12_waitFor_87 (lv_at hl 0 rfl) ?_
                  refine lv_istore (lv' := [(6, .int r_10), (8, .int r_10), (0, .ref (za Z 0)), (1, .int a1), (2, .int a2), (3, .int a3), (4, .int a4), (5, .int l5_5), (7, .int l7_7)]) hx hb dX12_waitFor_89 hl (by decide) rfl (fun ls hl => ?_)
                  refine lv_iload hx hb dX12_waitFor_91 (lv_at hl 8 rfl) ?_
                  refine lv_istore (lv' := [(5, .int l7_7), (6, .int r_10), (8, .int r_10), (0, .ref (za Z 0)), (1, .int a1), (2, .int a2), (3, .int a3), (4, .int a4), (7, .int l7_7)]) hx hb dX12_waitFor_93 hl (by decide) rfl (fun ls hl => ?_)
                  exact R95 _ _ _ _ _ hw (lv_sub hl [3, 4, 5, 6, 7, 0, 1, 8] rfl) hf
                · have hf := (if_neg c_15).symm.trans hf
                  refine lv_goto (tgt := 95) hx hb dX12_waitFor_84 (by decide) ?_
                  exact R95 _ _ _ _ _ hw (lv_sub hl [1, 2, 3, 4, 5, 6, 7, 8] rfl) hf
          clear eb
          obtain ⟨z, hz, hf⟩ := bB_e hf
          obtain ⟨n, hz⟩ := bP_e hz
          exact RL46 n z hf _ _ _ _ _ _ _ hw (lv_sub hl [3, 4, 5, 6, 7, 2, 1, 0] rfl) hz
        · have hf := (if_pos c_17).symm.trans hf
          refine lv_iconst hx hb dX12_waitFor_35 ki_m1 ?_
          obtain ⟨e1, e2⟩ := Prod.mk.inj (Option.some.inj hf)
          exact hret _ _ _ _ _ dX12_waitFor_36 e1 (by rw [← e2]; exact hw)

noncomputable def F7_findSafe (S : pS) (k0 : Nat) (k1 : Nat) (a2 : Int32) (a3 : Int32) (a4 : Int32) : Option (pS) :=
  bL (S (k1 + 1) 3) fun l5_1 =>
  bL (fun (S_2 : pS) =>
    bL (sU S_2 k0 1 (-1)) fun S_3 =>
    bL (sU S_3 k0 2 (-1)) fun S_4 =>
    bL (fun (S_5 : pS) =>
      some S_5) fun g92_65 =>
    bL (u2 fun (l6_6 : Int32) (S_7 : pS) =>
      if 60 < l6_6 then
        some (.inr S_7)
      else
        bB (F7_leastAround S_7 k0 l6_6 l5_1) fun r_9 =>
        bL (F7_found S_7 k0 l6_6 r_9) fun S_10 =>
        bL (l6_6 + 1) fun l6_11 =>
        some (.inl (l6_11, S_10))) fun b65 =>
    bB (bP b65 ((0 : Int32), S_4)) (u1 g92_65)) fun g52_11 =>
  bL (u2 fun (l6_13 : Int32) (S_14 : pS) =>
    if 90 < l6_13 then
      some (.inr S_14)
    else
      if (60 + l5_1) < l6_13 then
        some (.inr S_14)
      else
        bB2 (F7_goodFar S_14 k0 k1 a2 l6_13 a3 a4) fun r_16 S_17 =>
        bG (vp_in l6_13 91) <|
        bL (sU S_17 (k0 + 3) l6_13.toNatClampNeg r_16) fun S_19 =>
        bL (l6_13 + 1) fun l6_20 =>
        some (.inl (l6_20, S_19))) fun b11 =>
  bB (bP b11 ((0 : Int32), S)) (u1 g52_11)
set_option maxRecDepth 100000 in
set_option maxHeartbeats 4000000 in
theorem wX7_findSafe {l : Launch} {Z : pZ}  (hZ : CC Z) (S : pS) (k0 : Nat) (k1 : Nat) (a2 : Int32) (a3 : Int32) (a4 : Int32) (S2 : pS) (h0 : isA Z K_Thought k0) (h1 : isA Z K_World k1) (hf : F7_findSafe S k0 k1 a2 a3 a4 = some S2) : CV l Z yX7_findSafe cX7_findSafe 7 9 205 [.ref (za Z k0), .ref (za Z k1), .int a2, .int a3, .int a4] S S2 := by
  unfold F7_findSafe at hf
  refine eV (own := RX7) (by decide) rfl (Nat.le_of_ble_eq_true rfl) (fun p e s m args below meth c Q ls G hl hw hret => ?_)
  obtain ⟨hx, hb, hml, hown, hts⟩ := G.1
  have hl : lv_has ls 7 [(0, .ref (za Z k0)), (1, .ref (za Z k1)), (2, .int a2), (3, .int a3), (4, .int a4)] := hl
  refine lv_aload_n hx hb dX7_findSafe_0 rfl (lv_at hl 1 rfl) ?_
  refine gF G hw h1 KX10 8 (k2 := (k1 + 1)) rfl (by decide) rfl fl_X7_22 dX7_findSafe_1 ?_
  refine lv_iconst hx hb dX7_findSafe_4 ki_3 ?_
  refine aI G hw (sub_World_told hZ h1) (vin_e (by decide)) (j := 3) (by decide) dX7_findSafe_5 ?_
  obtain ⟨l5_1, el5_1, hf⟩ := bL_e hf
  refine top_i el5_1 ?_
  refine lv_istore (lv' := [(5, .int l5_1), (0, .ref (za Z k0)), (1, .ref (za Z k1)), (2, .int a2), (3, .int a3), (4, .int a4)]) hx hb dX7_findSafe_6 hl (by decide) rfl (fun ls hl => ?_)
  refine lv_iconst hx hb dX7_findSafe_8 ki_0 ?_
  refine lv_istore (lv' := [(6, .int 0), (5, .int l5_1), (0, .ref (za Z k0)), (1, .ref (za Z k1)), (2, .int a2), (3, .int a3), (4, .int a4)]) hx hb dX7_findSafe_9 hl (by decide) rfl (fun ls hl => ?_)
  obtain ⟨g52_11, ej, hf⟩ := bL_e hf
  have R52_11 : ∀ (S_2 : pS) (H : Heap) (locs : List Loc) (ls : Array Slot), Wd Z s S_2 H locs → lv_has ls 7 [(0, .ref (za Z k0)), (5, .int l5_1)] → g52_11 S_2 = some S2 → W p l e { frames := 9, cells := 0, slots := 0, locals := 205 } s m args below meth c H locs 0 0 Q (F0 m 52 ls []) := by
    intro S_2 H locs ls hw hl hf
    have hf := (congrFun ej S_2).symm.trans hf
    refine lv_aload_n hx hb dX7_findSafe_52 rfl (lv_at hl 0 rfl) ?_
    refine lv_iconst hx hb dX7_findSafe_53 ki_m1 ?_
    obtain ⟨S_3, eS_3, hf⟩ := bL_e hf
    refine pI G hw h0 KX7 1 (by decide) rfl rfl rfl eS_3 fl_X7_46 dX7_findSafe_54 (fun H locs hw => ?_)
    refine lv_aload_n hx hb dX7_findSafe_57 rfl (lv_at hl 0 rfl) ?_
    refine lv_iconst hx hb dX7_findSafe_58 ki_m1 ?_
    obtain ⟨S_4, eS_4, hf⟩ := bL_e hf
    refine pI G hw h0 KX7 2 (by decide) rfl rfl rfl eS_4 fl_X7_49 dX7_findSafe_59 (fun H locs hw => ?_)
    refine lv_iconst hx hb dX7_findSafe_62 ki_0 ?_
    refine lv_istore (lv' := [(6, .int 0), (0, .ref (za Z k0)), (5, .int l5_1)]) hx hb dX7_findSafe_63 hl (by decide) rfl (fun ls hl => ?_)
    obtain ⟨g92_65, ej, hf⟩ := bL_e hf
    have R92_65 : ∀ (S_5 : pS) (H : Heap) (locs : List Loc) (ls : Array Slot), Wd Z s S_5 H locs → lv_has ls 7 [] → g92_65 S_5 = some S2 → W p l e { frames := 9, cells := 0, slots := 0, locals := 205 } s m args below meth c H locs 0 0 Q (F0 m 92 ls []) := by
      intro S_5 H locs ls hw hl hf
      have hf := (congrFun ej S_5).symm.trans hf
      exact hret _ _ _ _ dX7_findSafe_92 (by rw [← (Option.some.inj hf)]; exact hw)
    clear ej
    obtain ⟨b65, eb, hf⟩ := bL_e hf
    have RL65 : ∀ (n : Nat) z, (u1 g92_65) z = some S2 → ∀ (l6_6 : Int32) (S_7 : pS) (H : Heap) (locs : List Loc) (ls : Array Slot), Wd Z s S_7 H locs → lv_has ls 7 [(0, .ref (za Z k0)), (5, .int l5_1), (6, .int l6_6)] → bPn b65 n (l6_6, S_7) = some z → W p l e { frames := 9, cells := 0, slots := 0, locals := 205 } s m args below meth c H locs 0 0 Q (F0 m 65 ls []) := by
      intro n
      induction n with
      | zero =>
        intro z hg l6_6 S_7 H locs ls hw hl hz
        exact bPn_0 hz
      | succ n ih =>
        intro z hg l6_6 S_7 H locs ls hw hl hz
        obtain ⟨q_8, hf, hz⟩ := bPn_e hz
        have hf := u2_e ((congrFun eb _).symm.trans hf)
        refine lv_iload hx hb dX7_findSafe_65 (lv_at hl 2 rfl) ?_
        refine lv_bipush hx hb dX7_findSafe_67 kb_60 ?_
        refine lv_icmp_gt (tgt := 92) hx hb dX7_findSafe_69 (by decide) (fun c_12 => ?_) (fun c_12 => ?_)
        · have hf := (if_pos c_12).symm.trans hf
          obtain rfl := Option.some.inj hf
          obtain rfl := Option.some.inj (hz : some _ = some _)
          exact R92_65 _ _ _ _ hw (lv_sub hl [] rfl) hg
        · have hf := (if_neg c_12).symm.trans hf
          refine lv_aload_n hx hb dX7_findSafe_72 rfl (lv_at hl 0 rfl) ?_
          refine lv_iload hx hb dX7_findSafe_73 (lv_at hl 2 rfl) ?_
          refine lv_aload_n hx hb dX7_findSafe_75 rfl (lv_at hl 0 rfl) ?_
          refine lv_iload hx hb dX7_findSafe_76 (lv_at hl 2 rfl) ?_
          refine lv_iload hx hb dX7_findSafe_78 (lv_at hl 1 rfl) ?_
          obtain ⟨r_9, hr_9, hf⟩ := bB_e hf
          refine kVi (rest := [.int l6_6, .ref (za Z k0)]) G hw (wX7_leastAround hZ S_7 k0 l6_6 l5_1 r_9 h0 hr_9) cw_X7_60 h0 KX7 ⟨Nat.le_of_ble_eq_true rfl, Nat.le_of_ble_eq_true rfl⟩ rfl hl.1 rfl (Nat.le_of_ble_eq_true rfl) ⟨Nat.le_refl _, Nat.le_refl _⟩ dX7_findSafe_80 (fun H locs hw => ?_)
          obtain ⟨S_10, hS_10, hf⟩ := bL_e hf
          refine kVv (rest := []) G hw (wX7_found hZ S_7 k0 l6_6 r_9 S_10 h0 hS_10.symm) cw_X7_56 h0 KX7 ⟨Nat.le_of_ble_eq_true rfl, Nat.le_of_ble_eq_true rfl⟩ rfl hl.1 rfl (Nat.le_of_ble_eq_true rfl) ⟨Nat.le_refl _, Nat.le_refl _⟩ dX7_findSafe_83 (fun H locs hw => ?_)
          obtain ⟨l6_11, el6_11, hf⟩ := bL_e hf
          refine lv_iinc (v := l6_11) (lv' := [(6, .int l6_11), (0, .ref (za Z k0)), (5, .int l5_1)]) hx hb dX7_findSafe_86 hl (k := 2) rfl (by rw [el6_11]; rfl) (by decide) rfl (fun ls hl => ?_)
          refine lv_goto (tgt := 65) hx hb dX7_findSafe_89 (by decide) ?_
          obtain rfl := Option.some.inj hf
          exact ih _ hg _ _ _ _ _ hw (lv_sub hl [1, 2, 0] rfl) hz
    clear eb
    obtain ⟨z, hz, hf⟩ := bB_e hf
    obtain ⟨n, hz⟩ := bP_e hz
    exact RL65 n z hf _ _ _ _ _ hw (lv_sub hl [1, 2, 0] rfl) hz
  clear ej
  obtain ⟨b11, eb, hf⟩ := bL_e hf
  have RL11 : ∀ (n : Nat) z, (u1 g52_11) z = some S2 → ∀ (l6_13 : Int32) (S_14 : pS) (H : Heap) (locs : List Loc) (ls : Array Slot), Wd Z s S_14 H locs → lv_has ls 7 [(0, .ref (za Z k0)), (1, .ref (za Z k1)), (2, .int a2), (3, .int a3), (4, .int a4), (5, .int l5_1), (6, .int l6_13)] → bPn b11 n (l6_13, S_14) = some z → W p l e { frames := 9, cells := 0, slots := 0, locals := 205 } s m args below meth c H locs 0 0 Q (F0 m 11 ls []) := by
    intro n
    induction n with
    | zero =>
      intro z hg l6_13 S_14 H locs ls hw hl hz
      exact bPn_0 hz
    | succ n ih =>
      intro z hg l6_13 S_14 H locs ls hw hl hz
      obtain ⟨q_15, hf, hz⟩ := bPn_e hz
      have hf := u2_e ((congrFun eb _).symm.trans hf)
      refine lv_iload hx hb dX7_findSafe_11 (lv_at hl 6 rfl) ?_
      refine lv_bipush hx hb dX7_findSafe_13 kb_90 ?_
      refine lv_icmp_gt (tgt := 52) hx hb dX7_findSafe_15 (by decide) (fun c_22 => ?_) (fun c_22 => ?_)
      · have hf := (if_pos c_22).symm.trans hf
        obtain rfl := Option.some.inj hf
        obtain rfl := Option.some.inj (hz : some _ = some _)
        exact R52_11 _ _ _ _ hw (lv_sub hl [0, 5] rfl) hg
      · have hf := (if_neg c_22).symm.trans hf
        refine lv_iload hx hb dX7_findSafe_18 (lv_at hl 6 rfl) ?_
        refine lv_bipush hx hb dX7_findSafe_20 kb_60 ?_
        refine lv_iload hx hb dX7_findSafe_22 (lv_at hl 5 rfl) ?_
        refine lv_iadd hx hb dX7_findSafe_24 ?_
        refine lv_icmp_gt (tgt := 52) hx hb dX7_findSafe_25 (by decide) (fun c_21 => ?_) (fun c_21 => ?_)
        · have hf := (if_pos c_21).symm.trans hf
          obtain rfl := Option.some.inj hf
          obtain rfl := Option.some.inj (hz : some _ = some _)
          exact R52_11 _ _ _ _ hw (lv_sub hl [0, 5] rfl) hg
        · have hf := (if_neg c_21).symm.trans hf
          refine lv_aload_n hx hb dX7_findSafe_28 rfl (lv_at hl 0 rfl) ?_
          refine gF G hw h0 KX7 3 (k2 := (k0 + 3)) rfl (by decide) rfl fl_X7_18 dX7_findSafe_29 ?_
          refine lv_iload hx hb dX7_findSafe_32 (lv_at hl 6 rfl) ?_
          refine lv_aload_n hx hb dX7_findSafe_34 rfl (lv_at hl 0 rfl) ?_
          refine lv_aload_n hx hb dX7_findSafe_35 rfl (lv_at hl 1 rfl) ?_
          refine lv_iload_n hx hb dX7_findSafe_36 rfl (lv_at hl 2 rfl) ?_
          refine lv_iload hx hb dX7_findSafe_37 (lv_at hl 6 rfl) ?_
          refine lv_iload_n hx hb dX7_findSafe_39 rfl (lv_at hl 3 rfl) ?_
          refine lv_iload hx hb dX7_findSafe_40 (lv_at hl 4 rfl) ?_
          obtain ⟨r_16, S_17, hr_16, hf⟩ := bB2_e hf
          refine kVi (rest := [.int l6_13, .ref (za Z (k0 + 3))]) G hw (wX7_goodFar hZ S_14 k0 k1 a2 l6_13 a3 a4 r_16 S_17 h0 h1 hr_16) cw_X7_52 h0 KX7 ⟨Nat.le_of_ble_eq_true rfl, Nat.le_of_ble_eq_true rfl⟩ rfl hl.1 rfl (Nat.le_of_ble_eq_true rfl) ⟨Nat.le_refl _, Nat.le_refl _⟩ dX7_findSafe_42 (fun H locs hw => ?_)
          obtain ⟨hg_18, hf⟩ := bG_e hf
          obtain ⟨S_19, eS_19, hf⟩ := bL_e hf
          refine sI G hw (sub_Thought_fars hZ h0) hg_18 (j := l6_13.toNatClampNeg) rfl eS_19 dX7_findSafe_45 (fun H locs hw => ?_)
          obtain ⟨l6_20, el6_20, hf⟩ := bL_e hf
          refine lv_iinc (v := l6_20) (lv' := [(6, .int l6_20), (0, .ref (za Z k0)), (1, .ref (za Z k1)), (2, .int a2), (3, .int a3), (4, .int a4), (5, .int l5_1)]) hx hb dX7_findSafe_46 hl (k := 6) rfl (by rw [el6_20]; rfl) (by decide) rfl (fun ls hl => ?_)
          refine lv_goto (tgt := 11) hx hb dX7_findSafe_49 (by decide) ?_
          obtain rfl := Option.some.inj hf
          exact ih _ hg _ _ _ _ _ hw (lv_sub hl [1, 2, 3, 4, 5, 6, 0] rfl) hz
  clear eb
  obtain ⟨z, hz, hf⟩ := bB_e hf
  obtain ⟨n, hz⟩ := bP_e hz
  exact RL11 n z hf _ _ _ _ _ hw (lv_sub hl [2, 3, 4, 5, 6, 1, 0] rfl) hz
noncomputable def F11_angle (S : pS) (a1 : Int32) (a2 : Int32) (a3 : Int32) (a4 : Int32) : Option (Int32 × pS) :=
  if (F11_canThrow S a1 0 a2) = 0 then
    some (((-1) : Int32), S)
  else
    if (F11_canBlow a3) = 0 then
      some (((-1) : Int32), S)
    else
      if (F11_within a4 0 3) = 0 then
        some (((-1) : Int32), S)
      else
        bL (fun (S_1 : pS) =>
          if (a4 - a4 / 2 * 2) = 0 then
            some (S_1 59 1, S_1)
          else
            some (S_1 59 2, S_1)) fun j66 =>
        if 2 ≤ a4 then
          bB (F7_findSafe S 59 1 a1 a2 a3) fun S_3 =>
          j66 S_3
        else
          bB (F7_findAngle S 59 1 a1 a2 a3) fun S_4 =>
          j66 S_4
set_option maxRecDepth 100000 in
set_option maxHeartbeats 4000000 in
theorem wX11_angle {l : Launch} {Z : pZ}  (hZ : CC Z) (S : pS) (a1 : Int32) (a2 : Int32) (a3 : Int32) (a4 : Int32) (r : Int32) (S2 : pS) (h0 : isA Z K_PF 0) (hf : F11_angle S a1 a2 a3 a4 = some (r, S2)) : CI l Z yX11_angle cX11_angle 5 .int 10 231 [.ref (za Z 0), .int a1, .int a2, .int a3, .int a4] S r S2 := by
  unfold F11_angle at hf
  refine eI (own := RX11) (by decide) rfl (Nat.le_of_ble_eq_true rfl) (fun p e s m args below meth c Q ls G hl hw hret => ?_)
  obtain ⟨hx, hb, hml, hown, hts⟩ := G.1
  have hl : lv_has ls 5 [(0, .ref (za Z 0)), (1, .int a1), (2, .int a2), (3, .int a3), (4, .int a4)] := hl
  refine lv_aload_n hx hb dX11_angle_0 rfl (lv_at hl 0 rfl) ?_
  refine lv_iload_n hx hb dX11_angle_1 rfl (lv_at hl 1 rfl) ?_
  refine lv_iconst hx hb dX11_angle_2 ki_0 ?_
  refine lv_iload_n hx hb dX11_angle_3 rfl (lv_at hl 2 rfl) ?_
  refine kVi (rest := []) G hw (wX11_canThrow hZ S a1 0 a2 (F11_canThrow S a1 0 a2) h0 rfl) cw_X11_186 h0 KX11 ⟨Nat.le_of_ble_eq_true rfl, Nat.le_of_ble_eq_true rfl⟩ rfl hl.1 rfl (Nat.le_of_ble_eq_true rfl) ⟨Nat.le_refl _, Nat.le_refl _⟩ dX11_angle_4 (fun H locs hw => ?_)
  refine lv_if_eq (tgt := 27) hx hb dX11_angle_7 (by decide) (fun c_8 => ?_) (fun c_8 => ?_)
  · have hf := (if_pos c_8).symm.trans hf
    refine lv_iconst hx hb dX11_angle_27 ki_m1 ?_
    obtain ⟨e1, e2⟩ := Prod.mk.inj (Option.some.inj hf)
    exact hret _ _ _ _ _ dX11_angle_28 e1 (by rw [← e2]; exact hw)
  · have hf := (if_neg c_8).symm.trans hf
    refine lv_iload_n hx hb dX11_angle_10 rfl (lv_at hl 3 rfl) ?_
    refine kSi (rest := []) G hw (wX11_canBlow hZ S a3 (F11_canBlow a3) rfl) cw_X11_329 ⟨Nat.le_of_ble_eq_true rfl, Nat.le_of_ble_eq_true rfl⟩ rfl hl.1 rfl (Nat.le_of_ble_eq_true rfl) ⟨Nat.le_refl _, Nat.le_refl _⟩ dX11_angle_11 (fun H locs hw => ?_)
    refine lv_if_eq (tgt := 27) hx hb dX11_angle_14 (by decide) (fun c_7 => ?_) (fun c_7 => ?_)
    · have hf := (if_pos c_7).symm.trans hf
      refine lv_iconst hx hb dX11_angle_27 ki_m1 ?_
      obtain ⟨e1, e2⟩ := Prod.mk.inj (Option.some.inj hf)
      exact hret _ _ _ _ _ dX11_angle_28 e1 (by rw [← e2]; exact hw)
    · have hf := (if_neg c_7).symm.trans hf
      refine lv_iload hx hb dX11_angle_17 (lv_at hl 4 rfl) ?_
      refine lv_iconst hx hb dX11_angle_19 ki_0 ?_
      refine lv_iconst hx hb dX11_angle_20 ki_3 ?_
      refine kSi (rest := []) G hw (wX11_within hZ S a4 0 3 (F11_within a4 0 3) rfl) cw_X11_51 ⟨Nat.le_of_ble_eq_true rfl, Nat.le_of_ble_eq_true rfl⟩ rfl hl.1 rfl (Nat.le_of_ble_eq_true rfl) ⟨Nat.le_refl _, Nat.le_refl _⟩ dX11_angle_21 (fun H locs hw => ?_)
      refine lv_if_ne (tgt := 29) hx hb dX11_angle_24 (by decide) (fun c_6 => ?_) (fun c_6 => ?_)
      · have hf := (if_neg c_6).symm.trans hf
        refine lv_iload hx hb dX11_angle_29 (lv_at hl 4 rfl) ?_
        refine lv_iconst hx hb dX11_angle_31 ki_2 ?_
        obtain ⟨j66, ej, hf⟩ := bL_e hf
        have R66 : ∀ (S_1 : pS) (H : Heap) (locs : List Loc) (ls : Array Slot), Wd Z s S_1 H locs → lv_has ls 5 [(0, .ref (za Z 0)), (4, .int a4)] → j66 S_1 = some (r, S2) → W p l e { frames := 10, cells := 0, slots := 0, locals := 231 } s m args below meth c H locs 0 0 Q (F0 m 66 ls []) := by
          intro S_1 H locs ls hw hl hf
          have hf := (congrFun ej S_1).symm.trans hf
          refine lv_iload hx hb dX11_angle_66 (lv_at hl 1 rfl) ?_
          refine lv_iconst hx hb dX11_angle_68 ki_2 ?_
          refine lv_irem hx hb dX11_angle_69 (by decide) ?_
          refine lv_if_ne (tgt := 83) hx hb dX11_angle_70 (by decide) (fun c_2 => ?_) (fun c_2 => ?_)
          · have hf := (if_neg c_2).symm.trans hf
            refine lv_aload_n hx hb dX11_angle_83 rfl (lv_at hl 0 rfl) ?_
            refine gF G hw h0 KX11 2 (k2 := 59) rfl (by decide) rfl fl_X11_26 dX11_angle_84 ?_
            refine gI G hw (sub_PF_thought hZ h0) KX7 2 (by decide) rfl fl_X11_355 dX11_angle_87 ?_
            obtain ⟨e1, e2⟩ := Prod.mk.inj (Option.some.inj hf)
            exact hret _ _ _ _ _ dX11_angle_90 e1 (by rw [← e2]; exact hw)
          · have hf := (if_pos c_2).symm.trans hf
            refine lv_aload_n hx hb dX11_angle_73 rfl (lv_at hl 0 rfl) ?_
            refine gF G hw h0 KX11 2 (k2 := 59) rfl (by decide) rfl fl_X11_26 dX11_angle_74 ?_
            refine gI G hw (sub_PF_thought hZ h0) KX7 1 (by decide) rfl fl_X11_352 dX11_angle_77 ?_
            refine lv_goto (tgt := 90) hx hb dX11_angle_80 (by decide) ?_
            obtain ⟨e1, e2⟩ := Prod.mk.inj (Option.some.inj hf)
            exact hret _ _ _ _ _ dX11_angle_90 e1 (by rw [← e2]; exact hw)
        clear ej
        refine lv_icmp_ge (tgt := 52) hx hb dX11_angle_32 (by decide) (fun c_5 => ?_) (fun c_5 => ?_)
        · have hf := (if_pos c_5).symm.trans hf
          refine lv_aload_n hx hb dX11_angle_52 rfl (lv_at hl 0 rfl) ?_
          refine gF G hw h0 KX11 2 (k2 := 59) rfl (by decide) rfl fl_X11_26 dX11_angle_53 ?_
          refine lv_aload_n hx hb dX11_angle_56 rfl (lv_at hl 0 rfl) ?_
          refine gF G hw h0 KX11 0 (k2 := 1) rfl (by decide) rfl fl_X11_10 dX11_angle_57 ?_
          refine lv_iload_n hx hb dX11_angle_60 rfl (lv_at hl 1 rfl) ?_
          refine lv_iload_n hx hb dX11_angle_61 rfl (lv_at hl 2 rfl) ?_
          refine lv_iload_n hx hb dX11_angle_62 rfl (lv_at hl 3 rfl) ?_
          obtain ⟨S_3, hS_3, hf⟩ := bB_e hf
          refine kVv (rest := []) G hw (wX7_findSafe hZ S 59 1 a1 a2 a3 S_3 (sub_PF_thought hZ h0) (sub_PF_now hZ h0) hS_3) cw_X11_349 (sub_PF_thought hZ h0) KX7 ⟨Nat.le_of_ble_eq_true rfl, Nat.le_of_ble_eq_true rfl⟩ rfl hl.1 rfl (Nat.le_of_ble_eq_true rfl) ⟨Nat.le_refl _, Nat.le_refl _⟩ dX11_angle_63 (fun H locs hw => ?_)
          exact R66 _ _ _ _ hw (lv_sub hl [0, 4] rfl) hf
        · have hf := (if_neg c_5).symm.trans hf
          refine lv_aload_n hx hb dX11_angle_35 rfl (lv_at hl 0 rfl) ?_
          refine gF G hw h0 KX11 2 (k2 := 59) rfl (by decide) rfl fl_X11_26 dX11_angle_36 ?_
          refine lv_aload_n hx hb dX11_angle_39 rfl (lv_at hl 0 rfl) ?_
          refine gF G hw h0 KX11 0 (k2 := 1) rfl (by decide) rfl fl_X11_10 dX11_angle_40 ?_
          refine lv_iload_n hx hb dX11_angle_43 rfl (lv_at hl 1 rfl) ?_
          refine lv_iload_n hx hb dX11_angle_44 rfl (lv_at hl 2 rfl) ?_
          refine lv_iload_n hx hb dX11_angle_45 rfl (lv_at hl 3 rfl) ?_
          obtain ⟨S_4, hS_4, hf⟩ := bB_e hf
          refine kVv (rest := []) G hw (wX7_findAngle hZ S 59 1 a1 a2 a3 S_4 (sub_PF_thought hZ h0) (sub_PF_now hZ h0) hS_4) cw_X11_345 (sub_PF_thought hZ h0) KX7 ⟨Nat.le_of_ble_eq_true rfl, Nat.le_of_ble_eq_true rfl⟩ rfl hl.1 rfl (Nat.le_of_ble_eq_true rfl) ⟨Nat.le_refl _, Nat.le_refl _⟩ dX11_angle_46 (fun H locs hw => ?_)
          refine lv_goto (tgt := 66) hx hb dX11_angle_49 (by decide) ?_
          exact R66 _ _ _ _ hw (lv_sub hl [0, 4] rfl) hf
      · have hf := (if_pos c_6).symm.trans hf
        refine lv_iconst hx hb dX11_angle_27 ki_m1 ?_
        obtain ⟨e1, e2⟩ := Prod.mk.inj (Option.some.inj hf)
        exact hret _ _ _ _ _ dX11_angle_28 e1 (by rw [← e2]; exact hw)
noncomputable def F11_right (S : pS) (a1 : Int32) (a2 : Int32) : Option (Int32 × pS) :=
  if (F11_within a1 0 99) = 0 then
    some (((-1) : Int32), S)
  else
    if (F11_canBlow a2) = 0 then
      some (((-1) : Int32), S)
    else
      bL (fun (l3_1 : Int32) (S_2 : pS) =>
        some (l3_1, S_2)) fun g84_27 =>
      bL (u4 fun (l3_3 : Int32) (l4_4 : Int32) (l5_5 : Int32) (S_6 : pS) =>
        if (S_6 1 4) ≤ l5_5 then
          some (.inr (l3_3, S_6))
        else
          bB (F7_findAngle S_6 59 1 a1 l5_5 a2) fun S_8 =>
          bL (fun (l3_9 : Int32) (l4_10 : Int32) =>
            bL (l5_5 + 1) fun l5_11 =>
            some (.inl (l3_9, l4_10, l5_11, S_8))) fun j78 =>
          if (S_8 59 2) ≤ l4_4 then
            j78 l3_3 l4_4
          else
            bL (S_8 59 2) fun l4_12 =>
            j78 l5_5 l4_12) fun b27 =>
      bB (bP b27 (((-1) : Int32), ((-1) : Int32), (0 : Int32), S)) (u2 g84_27)
set_option maxRecDepth 100000 in
set_option maxHeartbeats 4000000 in
theorem wX11_right {l : Launch} {Z : pZ}  (hZ : CC Z) (S : pS) (a1 : Int32) (a2 : Int32) (r : Int32) (S2 : pS) (h0 : isA Z K_PF 0) (hf : F11_right S a1 a2 = some (r, S2)) : CI l Z yX11_right cX11_right 6 .int 10 230 [.ref (za Z 0), .int a1, .int a2] S r S2 := by
  unfold F11_right at hf
  refine eI (own := RX11) (by decide) rfl (Nat.le_of_ble_eq_true rfl) (fun p e s m args below meth c Q ls G hl hw hret => ?_)
  obtain ⟨hx, hb, hml, hown, hts⟩ := G.1
  have hl : lv_has ls 6 [(0, .ref (za Z 0)), (1, .int a1), (2, .int a2)] := hl
  refine lv_iload_n hx hb dX11_right_0 rfl (lv_at hl 1 rfl) ?_
  refine lv_iconst hx hb dX11_right_1 ki_0 ?_
  refine lv_bipush hx hb dX11_right_2 kb_99 ?_
  refine kSi (rest := []) G hw (wX11_within hZ S a1 0 99 (F11_within a1 0 99) rfl) cw_X11_51 ⟨Nat.le_of_ble_eq_true rfl, Nat.le_of_ble_eq_true rfl⟩ rfl hl.1 rfl (Nat.le_of_ble_eq_true rfl) ⟨Nat.le_refl _, Nat.le_refl _⟩ dX11_right_4 (fun H locs hw => ?_)
  refine lv_if_eq (tgt := 17) hx hb dX11_right_7 (by decide) (fun c_16 => ?_) (fun c_16 => ?_)
  · have hf := (if_pos c_16).symm.trans hf
    refine lv_iconst hx hb dX11_right_17 ki_m1 ?_
    obtain ⟨e1, e2⟩ := Prod.mk.inj (Option.some.inj hf)
    exact hret _ _ _ _ _ dX11_right_18 e1 (by rw [← e2]; exact hw)
  · have hf := (if_neg c_16).symm.trans hf
    refine lv_iload_n hx hb dX11_right_10 rfl (lv_at hl 2 rfl) ?_
    refine kSi (rest := []) G hw (wX11_canBlow hZ S a2 (F11_canBlow a2) rfl) cw_X11_329 ⟨Nat.le_of_ble_eq_true rfl, Nat.le_of_ble_eq_true rfl⟩ rfl hl.1 rfl (Nat.le_of_ble_eq_true rfl) ⟨Nat.le_refl _, Nat.le_refl _⟩ dX11_right_11 (fun H locs hw => ?_)
    refine lv_if_ne (tgt := 19) hx hb dX11_right_14 (by decide) (fun c_15 => ?_) (fun c_15 => ?_)
    · have hf := (if_neg c_15).symm.trans hf
      refine lv_iconst hx hb dX11_right_19 ki_m1 ?_
      refine lv_istore_n (lv' := [(3, .int (-1)), (0, .ref (za Z 0)), (1, .int a1), (2, .int a2)]) hx hb dX11_right_20 rfl hl (by decide) rfl (fun ls hl => ?_)
      refine lv_iconst hx hb dX11_right_21 ki_m1 ?_
      refine lv_istore (lv' := [(4, .int (-1)), (3, .int (-1)), (0, .ref (za Z 0)), (1, .int a1), (2, .int a2)]) hx hb dX11_right_22 hl (by decide) rfl (fun ls hl => ?_)
      refine lv_iconst hx hb dX11_right_24 ki_0 ?_
      refine lv_istore (lv' := [(5, .int 0), (4, .int (-1)), (3, .int (-1)), (0, .ref (za Z 0)), (1, .int a1), (2, .int a2)]) hx hb dX11_right_25 hl (by decide) rfl (fun ls hl => ?_)
      obtain ⟨g84_27, ej, hf⟩ := bL_e hf
      have R84_27 : ∀ (l3_1 : Int32) (S_2 : pS) (H : Heap) (locs : List Loc) (ls : Array Slot), Wd Z s S_2 H locs → lv_has ls 6 [(3, .int l3_1)] → g84_27 l3_1 S_2 = some (r, S2) → W p l e { frames := 10, cells := 0, slots := 0, locals := 230 } s m args below meth c H locs 0 0 Q (F0 m 84 ls []) := by
        intro l3_1 S_2 H locs ls hw hl hf
        have hf := (congrFun (congrFun ej l3_1) S_2).symm.trans hf
        refine lv_iload_n hx hb dX11_right_84 rfl (lv_at hl 0 rfl) ?_
        obtain ⟨e1, e2⟩ := Prod.mk.inj (Option.some.inj hf)
        exact hret _ _ _ _ _ dX11_right_85 e1 (by rw [← e2]; exact hw)
      clear ej
      obtain ⟨b27, eb, hf⟩ := bL_e hf
      have RL27 : ∀ (n : Nat) z, (u2 g84_27) z = some (r, S2) → ∀ (l3_3 : Int32) (l4_4 : Int32) (l5_5 : Int32) (S_6 : pS) (H : Heap) (locs : List Loc) (ls : Array Slot), Wd Z s S_6 H locs → lv_has ls 6 [(0, .ref (za Z 0)), (1, .int a1), (2, .int a2), (3, .int l3_3), (4, .int l4_4), (5, .int l5_5)] → bPn b27 n (l3_3, l4_4, l5_5, S_6) = some z → W p l e { frames := 10, cells := 0, slots := 0, locals := 230 } s m args below meth c H locs 0 0 Q (F0 m 27 ls []) := by
        intro n
        induction n with
        | zero =>
          intro z hg l3_3 l4_4 l5_5 S_6 H locs ls hw hl hz
          exact bPn_0 hz
        | succ n ih =>
          intro z hg l3_3 l4_4 l5_5 S_6 H locs ls hw hl hz
          obtain ⟨q_7, hf, hz⟩ := bPn_e hz
          have hf := u4_e ((congrFun eb _).symm.trans hf)
          refine lv_iload hx hb dX11_right_27 (lv_at hl 5 rfl) ?_
          refine lv_aload_n hx hb dX11_right_29 rfl (lv_at hl 0 rfl) ?_
          refine gF G hw h0 KX11 0 (k2 := 1) rfl (by decide) rfl fl_X11_10 dX11_right_30 ?_
          refine gI G hw (sub_PF_now hZ h0) KX10 4 (by decide) rfl fl_X11_55 dX11_right_33 ?_
          refine lv_icmp_ge (tgt := 84) hx hb dX11_right_36 (by decide) (fun c_14 => ?_) (fun c_14 => ?_)
          · have hf := (if_pos c_14).symm.trans hf
            obtain rfl := Option.some.inj hf
            obtain rfl := Option.some.inj (hz : some _ = some _)
            exact R84_27 _ _ _ _ _ hw (lv_sub hl [3] rfl) hg
          · have hf := (if_neg c_14).symm.trans hf
            refine lv_aload_n hx hb dX11_right_39 rfl (lv_at hl 0 rfl) ?_
            refine gF G hw h0 KX11 2 (k2 := 59) rfl (by decide) rfl fl_X11_26 dX11_right_40 ?_
            refine lv_aload_n hx hb dX11_right_43 rfl (lv_at hl 0 rfl) ?_
            refine gF G hw h0 KX11 0 (k2 := 1) rfl (by decide) rfl fl_X11_10 dX11_right_44 ?_
            refine lv_iload_n hx hb dX11_right_47 rfl (lv_at hl 1 rfl) ?_
            refine lv_iload hx hb dX11_right_48 (lv_at hl 5 rfl) ?_
            refine lv_iload_n hx hb dX11_right_50 rfl (lv_at hl 2 rfl) ?_
            obtain ⟨S_8, hS_8, hf⟩ := bB_e hf
            refine kVv (rest := []) G hw (wX7_findAngle hZ S_6 59 1 a1 l5_5 a2 S_8 (sub_PF_thought hZ h0) (sub_PF_now hZ h0) hS_8) cw_X11_345 (sub_PF_thought hZ h0) KX7 ⟨Nat.le_of_ble_eq_true rfl, Nat.le_of_ble_eq_true rfl⟩ rfl hl.1 rfl (Nat.le_of_ble_eq_true rfl) ⟨Nat.le_refl _, Nat.le_refl _⟩ dX11_right_51 (fun H locs hw => ?_)
            refine lv_aload_n hx hb dX11_right_54 rfl (lv_at hl 0 rfl) ?_
            refine gF G hw h0 KX11 2 (k2 := 59) rfl (by decide) rfl fl_X11_26 dX11_right_55 ?_
            refine gI G hw (sub_PF_thought hZ h0) KX7 2 (by decide) rfl fl_X11_355 dX11_right_58 ?_
            refine lv_iload hx hb dX11_right_61 (lv_at hl 4 rfl) ?_
            obtain ⟨j78, ej, hf⟩ := bL_e hf
            have R78 : ∀ (l3_9 : Int32) (l4_10 : Int32) (H : Heap) (locs : List Loc) (ls : Array Slot), Wd Z s S_8 H locs → lv_has ls 6 [(0, .ref (za Z 0)), (1, .int a1), (2, .int a2), (3, .int l3_9), (4, .int l4_10), (5, .int l5_5)] → j78 l3_9 l4_10 = some q_7 → W p l e { frames := 10, cells := 0, slots := 0, locals := 230 } s m args below meth c H locs 0 0 Q (F0 m 78 ls []) := by
              intro l3_9 l4_10 H locs ls hw hl hf
              have hf := (congrFun (congrFun ej l3_9) l4_10).symm.trans hf
              obtain ⟨l5_11, el5_11, hf⟩ := bL_e hf
              refine lv_iinc (v := l5_11) (lv' := [(5, .int l5_11), (0, .ref (za Z 0)), (1, .int a1), (2, .int a2), (3, .int l3_9), (4, .int l4_10)]) hx hb dX11_right_78 hl (k := 5) rfl (by rw [el5_11]; rfl) (by decide) rfl (fun ls hl => ?_)
              refine lv_goto (tgt := 27) hx hb dX11_right_81 (by decide) ?_
              obtain rfl := Option.some.inj hf
              exact ih _ hg _ _ _ _ _ _ _ hw (lv_sub hl [1, 2, 3, 4, 5, 0] rfl) hz
            clear ej
            refine lv_icmp_le (tgt := 78) hx hb dX11_right_63 (by decide) (fun c_13 => ?_) (fun c_13 => ?_)
            · have hf := (if_pos c_13).symm.trans hf
              exact R78 _ _ _ _ _ hw (lv_sub hl [0, 1, 2, 3, 4, 5] rfl) hf
            · have hf := (if_neg c_13).symm.trans hf
              refine lv_aload_n hx hb dX11_right_66 rfl (lv_at hl 0 rfl) ?_
              refine gF G hw h0 KX11 2 (k2 := 59) rfl (by decide) rfl fl_X11_26 dX11_right_67 ?_
              refine gI G hw (sub_PF_thought hZ h0) KX7 2 (by decide) rfl fl_X11_355 dX11_right_70 ?_
              obtain ⟨l4_12, el4_12, hf⟩ := bL_e hf
              refine top_i el4_12 ?_
              refine lv_istore (lv' := [(4, .int l4_12), (0, .ref (za Z 0)), (1, .int a1), (2, .int a2), (3, .int l3_3), (5, .int l5_5)]) hx hb dX11_right_73 hl (by decide) rfl (fun ls hl => ?_)
              refine lv_iload hx hb dX11_right_75 (lv_at hl 5 rfl) ?_
              refine lv_istore_n (lv' := [(3, .int l5_5), (4, .int l4_12), (0, .ref (za Z 0)), (1, .int a1), (2, .int a2), (5, .int l5_5)]) hx hb dX11_right_77 rfl hl (by decide) rfl (fun ls hl => ?_)
              exact R78 _ _ _ _ _ hw (lv_sub hl [2, 3, 4, 0, 1, 5] rfl) hf
      clear eb
      obtain ⟨z, hz, hf⟩ := bB_e hf
      obtain ⟨n, hz⟩ := bP_e hz
      exact RL27 n z hf _ _ _ _ _ _ _ hw (lv_sub hl [3, 4, 5, 2, 1, 0] rfl) hz
    · have hf := (if_pos c_15).symm.trans hf
      refine lv_iconst hx hb dX11_right_17 ki_m1 ?_
      obtain ⟨e1, e2⟩ := Prod.mk.inj (Option.some.inj hf)
      exact hret _ _ _ _ _ dX11_right_18 e1 (by rw [← e2]; exact hw)
noncomputable def F7_far (S : pS) (k0 : Nat) (k1 : Nat) (a2 : Int32) (a3 : Int32) (a4 : Int32) (a5 : Int32) : Option (Int32 × pS) :=
  bB (F2_begin S (k0 + 1) k1 a2 a3 0 a4 a5 (S (k1 + 1) 1)) fun S_1 =>
  bB (F2_go S_1 (k0 + 1) (k1 + 7) 400) fun S_2 =>
  some (S_2 (k0 + 1) 1, S_2)
set_option maxRecDepth 100000 in
set_option maxHeartbeats 4000000 in
theorem wX7_far {l : Launch} {Z : pZ}  (hZ : CC Z) (S : pS) (k0 : Nat) (k1 : Nat) (a2 : Int32) (a3 : Int32) (a4 : Int32) (a5 : Int32) (r : Int32) (S2 : pS) (h0 : isA Z K_Thought k0) (h1 : isA Z K_World k1) (hf : F7_far S k0 k1 a2 a3 a4 a5 = some (r, S2)) : CI l Z yX7_far cX7_far 6 .int 8 180 [.ref (za Z k0), .ref (za Z k1), .int a2, .int a3, .int a4, .int a5] S r S2 := by
  unfold F7_far at hf
  refine eI (own := RX7) (by decide) rfl (Nat.le_of_ble_eq_true rfl) (fun p e s m args below meth c Q ls G hl hw hret => ?_)
  obtain ⟨hx, hb, hml, hown, hts⟩ := G.1
  have hl : lv_has ls 6 [(0, .ref (za Z k0)), (1, .ref (za Z k1)), (2, .int a2), (3, .int a3), (4, .int a4), (5, .int a5)] := hl
  refine lv_aload_n hx hb dX7_far_0 rfl (lv_at hl 0 rfl) ?_
  refine gF G hw h0 KX7 0 (k2 := (k0 + 1)) rfl (by decide) rfl fl_X7_12 dX7_far_1 ?_
  refine lv_aload_n hx hb dX7_far_4 rfl (lv_at hl 1 rfl) ?_
  refine lv_iload_n hx hb dX7_far_5 rfl (lv_at hl 2 rfl) ?_
  refine lv_iload_n hx hb dX7_far_6 rfl (lv_at hl 3 rfl) ?_
  refine lv_iconst hx hb dX7_far_7 ki_0 ?_
  refine lv_iload hx hb dX7_far_8 (lv_at hl 4 rfl) ?_
  refine lv_iload hx hb dX7_far_10 (lv_at hl 5 rfl) ?_
  refine lv_aload_n hx hb dX7_far_12 rfl (lv_at hl 1 rfl) ?_
  refine gF G hw h1 KX10 8 (k2 := (k1 + 1)) rfl (by decide) rfl fl_X7_22 dX7_far_13 ?_
  refine lv_iconst hx hb dX7_far_16 ki_1 ?_
  refine aI G hw (sub_World_told hZ h1) (vin_e (by decide)) (j := 1) (by decide) dX7_far_17 ?_
  obtain ⟨S_1, hS_1, hf⟩ := bB_e hf
  refine kVv (rest := []) G hw (wX2_begin hZ S (k0 + 1) k1 a2 a3 0 a4 a5 (S (k1 + 1) 1) S_1 (sub_Thought_flight hZ h0) h1 hS_1) cw_X7_27 (sub_Thought_flight hZ h0) KX2 ⟨Nat.le_of_ble_eq_true rfl, Nat.le_of_ble_eq_true rfl⟩ rfl hl.1 rfl (Nat.le_of_ble_eq_true rfl) ⟨Nat.le_refl _, Nat.le_refl _⟩ dX7_far_18 (fun H locs hw => ?_)
  refine lv_aload_n hx hb dX7_far_21 rfl (lv_at hl 0 rfl) ?_
  refine gF G hw h0 KX7 0 (k2 := (k0 + 1)) rfl (by decide) rfl fl_X7_12 dX7_far_22 ?_
  refine lv_aload_n hx hb dX7_far_25 rfl (lv_at hl 1 rfl) ?_
  refine gF G hw h1 KX10 14 (k2 := (k1 + 7)) rfl (by decide) rfl fl_X7_31 dX7_far_26 ?_
  refine lv_sipush hx hb dX7_far_29 ks_400 ?_
  obtain ⟨S_2, hS_2, hf⟩ := bB_e hf
  refine kVv (rest := []) G hw (wX2_go hZ S_1 (k0 + 1) (k1 + 7) 400 S_2 (sub_Thought_flight hZ h0) (sub_World_flight hZ h1) hS_2) cw_X7_34 (sub_Thought_flight hZ h0) KX2 ⟨Nat.le_of_ble_eq_true rfl, Nat.le_of_ble_eq_true rfl⟩ rfl hl.1 rfl (Nat.le_of_ble_eq_true rfl) ⟨Nat.le_refl _, Nat.le_refl _⟩ dX7_far_32 (fun H locs hw => ?_)
  refine lv_aload_n hx hb dX7_far_35 rfl (lv_at hl 0 rfl) ?_
  refine gF G hw h0 KX7 0 (k2 := (k0 + 1)) rfl (by decide) rfl fl_X7_12 dX7_far_36 ?_
  refine gI G hw (sub_Thought_flight hZ h0) KX2 1 (by decide) rfl fl_X7_38 dX7_far_39 ?_
  obtain ⟨e1, e2⟩ := Prod.mk.inj (Option.some.inj hf)
  exact hret _ _ _ _ _ dX7_far_42 e1 (by rw [← e2]; exact hw)
noncomputable def F11_winds (S : pS) (a1 : Int32) (a2 : Int32) (a3 : Int32) (a4 : Int32) (a5 : Int32) : Option (Int64 × pS) :=
  if (F11_canThrow S a1 a2 a3) = 0 then
    some (((-1) : Int64), S)
  else
    if (F11_within a5 0 999) = 0 then
      some (((-1) : Int64), S)
    else
      bL (fun (l6_1 : Int64) (S_2 : pS) =>
        some (l6_1, S_2)) fun g93_33 =>
      bL (u3 fun (l6_3 : Int64) (l8_4 : Int32) (S_5 : pS) =>
        if 20 < l8_4 then
          some (.inr (l6_3, S_5))
        else
          bB2 (F7_far S_5 59 1 a1 a2 a3 l8_4) fun r_7 S_8 =>
          bL (((r_7 : Int32).toInt64) - ((a4 : Int32).toInt64)) fun l9_9 =>
          bL (fun (l6_10 : Int64) =>
            bL (l8_4 + 1) fun l8_11 =>
            some (.inl (l6_10, l8_11, S_8))) fun j87 =>
          if ((a5 : Int32).toInt64) < (jabl l9_9) then
            j87 l6_3
          else
            bL (l6_3 ||| ((1 : Int64) <<< ((l8_4 + 20 : Int32).toInt64 &&& 63))) fun l6_12 =>
            j87 l6_12) fun b33 =>
      bB (bP b33 ((0 : Int64), ((-20) : Int32), S)) (u2 g93_33)
set_option maxRecDepth 100000 in
set_option maxHeartbeats 4000000 in
theorem wX11_winds {l : Launch} {Z : pZ}  (hZ : CC Z) (S : pS) (a1 : Int32) (a2 : Int32) (a3 : Int32) (a4 : Int32) (a5 : Int32) (r : Int64) (S2 : pS) (h0 : isA Z K_PF 0) (hf : F11_winds S a1 a2 a3 a4 a5 = some (r, S2)) : CL l Z yX11_winds cX11_winds 11 9 205 [.ref (za Z 0), .int a1, .int a2, .int a3, .int a4, .int a5] S r S2 := by
  unfold F11_winds at hf
  refine eL (own := RX11) (by decide) rfl (Nat.le_of_ble_eq_true rfl) (fun p e s m args below meth c Q ls G hl hw hret => ?_)
  obtain ⟨hx, hb, hml, hown, hts⟩ := G.1
  have hl : lv_has ls 11 [(0, .ref (za Z 0)), (1, .int a1), (2, .int a2), (3, .int a3), (4, .int a4), (5, .int a5)] := hl
  refine lv_aload_n hx hb dX11_winds_0 rfl (lv_at hl 0 rfl) ?_
  refine lv_iload_n hx hb dX11_winds_1 rfl (lv_at hl 1 rfl) ?_
  refine lv_iload_n hx hb dX11_winds_2 rfl (lv_at hl 2 rfl) ?_
  refine lv_iload_n hx hb dX11_winds_3 rfl (lv_at hl 3 rfl) ?_
  refine kVi (rest := []) G hw (wX11_canThrow hZ S a1 a2 a3 (F11_canThrow S a1 a2 a3) h0 rfl) cw_X11_186 h0 KX11 ⟨Nat.le_of_ble_eq_true rfl, Nat.le_of_ble_eq_true rfl⟩ rfl hl.1 rfl (Nat.le_of_ble_eq_true rfl) ⟨Nat.le_refl _, Nat.le_refl _⟩ dX11_winds_4 (fun H locs hw => ?_)
  refine lv_if_eq (tgt := 22) hx hb dX11_winds_7 (by decide) (fun c_16 => ?_) (fun c_16 => ?_)
  · have hf := (if_pos c_16).symm.trans hf
    refine lv_ldc2 hx hb hown (hts _ cl_X11_358) dX11_winds_22 ?_
    obtain ⟨e1, e2⟩ := Prod.mk.inj (Option.some.inj hf)
    exact hret _ _ _ _ _ dX11_winds_25 e1 (by rw [← e2]; exact hw)
  · have hf := (if_neg c_16).symm.trans hf
    refine lv_iload hx hb dX11_winds_10 (lv_at hl 5 rfl) ?_
    refine lv_iconst hx hb dX11_winds_12 ki_0 ?_
    refine lv_sipush hx hb dX11_winds_13 ks_999 ?_
    refine kSi (rest := []) G hw (wX11_within hZ S a5 0 999 (F11_within a5 0 999) rfl) cw_X11_51 ⟨Nat.le_of_ble_eq_true rfl, Nat.le_of_ble_eq_true rfl⟩ rfl hl.1 rfl (Nat.le_of_ble_eq_true rfl) ⟨Nat.le_refl _, Nat.le_refl _⟩ dX11_winds_16 (fun H locs hw => ?_)
    refine lv_if_ne (tgt := 26) hx hb dX11_winds_19 (by decide) (fun c_15 => ?_) (fun c_15 => ?_)
    · have hf := (if_neg c_15).symm.trans hf
      refine lv_lconst (v := 0) hx hb dX11_winds_26 (by decide) ?_
      refine lv_lstore (lv' := [(6, .long 0), (0, .ref (za Z 0)), (1, .int a1), (2, .int a2), (3, .int a3), (4, .int a4), (5, .int a5)]) hx hb dX11_winds_27 hl (by decide) rfl (fun ls hl => ?_)
      refine lv_bipush hx hb dX11_winds_29 kb_m20 ?_
      refine lv_istore (lv' := [(8, .int (-20)), (6, .long 0), (0, .ref (za Z 0)), (1, .int a1), (2, .int a2), (3, .int a3), (4, .int a4), (5, .int a5)]) hx hb dX11_winds_31 hl (by decide) rfl (fun ls hl => ?_)
      obtain ⟨g93_33, ej, hf⟩ := bL_e hf
      have R93_33 : ∀ (l6_1 : Int64) (S_2 : pS) (H : Heap) (locs : List Loc) (ls : Array Slot), Wd Z s S_2 H locs → lv_has ls 11 [(6, .long l6_1)] → g93_33 l6_1 S_2 = some (r, S2) → W p l e { frames := 9, cells := 0, slots := 0, locals := 205 } s m args below meth c H locs 0 0 Q (F0 m 93 ls []) := by
        intro l6_1 S_2 H locs ls hw hl hf
        have hf := (congrFun (congrFun ej l6_1) S_2).symm.trans hf
        refine lv_lload hx hb dX11_winds_93 (lv_at hl 0 rfl) ?_
        obtain ⟨e1, e2⟩ := Prod.mk.inj (Option.some.inj hf)
        exact hret _ _ _ _ _ dX11_winds_95 e1 (by rw [← e2]; exact hw)
      clear ej
      obtain ⟨b33, eb, hf⟩ := bL_e hf
      have RL33 : ∀ (n : Nat) z, (u2 g93_33) z = some (r, S2) → ∀ (l6_3 : Int64) (l8_4 : Int32) (S_5 : pS) (H : Heap) (locs : List Loc) (ls : Array Slot), Wd Z s S_5 H locs → lv_has ls 11 [(0, .ref (za Z 0)), (1, .int a1), (2, .int a2), (3, .int a3), (4, .int a4), (5, .int a5), (6, .long l6_3), (8, .int l8_4)] → bPn b33 n (l6_3, l8_4, S_5) = some z → W p l e { frames := 9, cells := 0, slots := 0, locals := 205 } s m args below meth c H locs 0 0 Q (F0 m 33 ls []) := by
        intro n
        induction n with
        | zero =>
          intro z hg l6_3 l8_4 S_5 H locs ls hw hl hz
          exact bPn_0 hz
        | succ n ih =>
          intro z hg l6_3 l8_4 S_5 H locs ls hw hl hz
          obtain ⟨q_6, hf, hz⟩ := bPn_e hz
          have hf := u3_e ((congrFun eb _).symm.trans hf)
          refine lv_iload hx hb dX11_winds_33 (lv_at hl 7 rfl) ?_
          refine lv_bipush hx hb dX11_winds_35 kb_20 ?_
          refine lv_icmp_gt (tgt := 93) hx hb dX11_winds_37 (by decide) (fun c_14 => ?_) (fun c_14 => ?_)
          · have hf := (if_pos c_14).symm.trans hf
            obtain rfl := Option.some.inj hf
            obtain rfl := Option.some.inj (hz : some _ = some _)
            exact R93_33 _ _ _ _ _ hw (lv_sub hl [6] rfl) hg
          · have hf := (if_neg c_14).symm.trans hf
            refine lv_aload_n hx hb dX11_winds_40 rfl (lv_at hl 0 rfl) ?_
            refine gF G hw h0 KX11 2 (k2 := 59) rfl (by decide) rfl fl_X11_26 dX11_winds_41 ?_
            refine lv_aload_n hx hb dX11_winds_44 rfl (lv_at hl 0 rfl) ?_
            refine gF G hw h0 KX11 0 (k2 := 1) rfl (by decide) rfl fl_X11_10 dX11_winds_45 ?_
            refine lv_iload_n hx hb dX11_winds_48 rfl (lv_at hl 1 rfl) ?_
            refine lv_iload_n hx hb dX11_winds_49 rfl (lv_at hl 2 rfl) ?_
            refine lv_iload_n hx hb dX11_winds_50 rfl (lv_at hl 3 rfl) ?_
            refine lv_iload hx hb dX11_winds_51 (lv_at hl 7 rfl) ?_
            obtain ⟨r_7, S_8, hr_7, hf⟩ := bB2_e hf
            refine kVi (rest := []) G hw (wX7_far hZ S_5 59 1 a1 a2 a3 l8_4 r_7 S_8 (sub_PF_thought hZ h0) (sub_PF_now hZ h0) hr_7) cw_X11_360 (sub_PF_thought hZ h0) KX7 ⟨Nat.le_of_ble_eq_true rfl, Nat.le_of_ble_eq_true rfl⟩ rfl hl.1 rfl (Nat.le_of_ble_eq_true rfl) ⟨Nat.le_refl _, Nat.le_refl _⟩ dX11_winds_53 (fun H locs hw => ?_)
            refine lv_i2l hx hb dX11_winds_56 rfl ?_
            refine lv_iload hx hb dX11_winds_57 (lv_at hl 4 rfl) ?_
            refine lv_i2l hx hb dX11_winds_59 rfl ?_
            refine lv_lsub hx hb dX11_winds_60 ?_
            obtain ⟨l9_9, el9_9, hf⟩ := bL_e hf
            refine top_l el9_9 ?_
            refine lv_lstore (lv' := [(9, .long l9_9), (0, .ref (za Z 0)), (1, .int a1), (2, .int a2), (3, .int a3), (4, .int a4), (5, .int a5), (6, .long l6_3), (8, .int l8_4)]) hx hb dX11_winds_61 hl (by decide) rfl (fun ls hl => ?_)
            refine lv_lload hx hb dX11_winds_63 (lv_at hl 0 rfl) ?_
            refine xabl G hl.1 ml_X11_363 (Nat.le_of_ble_eq_true rfl) (Nat.le_of_ble_eq_true rfl) ⟨Nat.le_refl _, Nat.le_refl _⟩ dX11_winds_65 ?_
            refine lv_iload hx hb dX11_winds_68 (lv_at hl 6 rfl) ?_
            refine lv_i2l hx hb dX11_winds_70 rfl ?_
            refine W.lcmp hx hb dX11_winds_71 ?_
            obtain ⟨j87, ej, hf⟩ := bL_e hf
            have R87 : ∀ (l6_10 : Int64) (H : Heap) (locs : List Loc) (ls : Array Slot), Wd Z s S_8 H locs → lv_has ls 11 [(0, .ref (za Z 0)), (1, .int a1), (2, .int a2), (3, .int a3), (4, .int a4), (5, .int a5), (6, .long l6_10), (8, .int l8_4)] → j87 l6_10 = some q_6 → W p l e { frames := 9, cells := 0, slots := 0, locals := 205 } s m args below meth c H locs 0 0 Q (F0 m 87 ls []) := by
              intro l6_10 H locs ls hw hl hf
              have hf := (congrFun ej l6_10).symm.trans hf
              obtain ⟨l8_11, el8_11, hf⟩ := bL_e hf
              refine lv_iinc (v := l8_11) (lv' := [(8, .int l8_11), (0, .ref (za Z 0)), (1, .int a1), (2, .int a2), (3, .int a3), (4, .int a4), (5, .int a5), (6, .long l6_10)]) hx hb dX11_winds_87 hl (k := 7) rfl (by rw [el8_11]; rfl) (by decide) rfl (fun ls hl => ?_)
              refine lv_goto (tgt := 33) hx hb dX11_winds_90 (by decide) ?_
              obtain rfl := Option.some.inj hf
              exact ih _ hg _ _ _ _ _ _ hw (lv_sub hl [1, 2, 3, 4, 5, 6, 7, 0] rfl) hz
            clear ej
            refine lv_if_gt (tgt := 87) hx hb dX11_winds_72 (by decide) (fun c_13 => ?_) (fun c_13 => ?_)
            · have hf := (if_pos ((lg_cmp_gt _ _).mp c_13)).symm.trans hf
              exact R87 _ _ _ _ hw (lv_sub hl [1, 2, 3, 4, 5, 6, 7, 8] rfl) hf
            · have hf := (if_neg (fun q => c_13 ((lg_cmp_gt _ _).mpr q))).symm.trans hf
              refine lv_lload hx hb dX11_winds_75 (lv_at hl 7 rfl) ?_
              refine lv_lconst (v := 1) hx hb dX11_winds_77 (by decide) ?_
              refine lv_iload hx hb dX11_winds_78 (lv_at hl 8 rfl) ?_
              refine lv_bipush hx hb dX11_winds_80 kb_20 ?_
              refine lv_iadd hx hb dX11_winds_82 ?_
              refine lv_lshl hx hb dX11_winds_83 rfl ?_
              refine lv_lor hx hb dX11_winds_84 ?_
              obtain ⟨l6_12, el6_12, hf⟩ := bL_e hf
              refine top_l el6_12 ?_
              refine lv_lstore (lv' := [(6, .long l6_12), (9, .long l9_9), (0, .ref (za Z 0)), (1, .int a1), (2, .int a2), (3, .int a3), (4, .int a4), (5, .int a5), (8, .int l8_4)]) hx hb dX11_winds_85 hl (by decide) rfl (fun ls hl => ?_)
              exact R87 _ _ _ _ hw (lv_sub hl [2, 3, 4, 5, 6, 7, 0, 8] rfl) hf
      clear eb
      obtain ⟨z, hz, hf⟩ := bB_e hf
      obtain ⟨n, hz⟩ := bP_e hz
      exact RL33 n z hf _ _ _ _ _ _ hw (lv_sub hl [2, 3, 4, 5, 6, 7, 1, 0] rfl) hz
    · have hf := (if_pos c_15).symm.trans hf
      refine lv_ldc2 hx hb hown (hts _ cl_X11_358) dX11_winds_22 ?_
      obtain ⟨e1, e2⟩ := Prod.mk.inj (Option.some.inj hf)
      exact hret _ _ _ _ _ dX11_winds_25 e1 (by rw [← e2]; exact hw)
noncomputable def F11_still (S : pS) (a1 : Int32) : Option (Int32 × pS) :=
  if (F10_hasLine S 1 a1) = 0 then
    some (((-1) : Int32), S)
  else
    bB (F10_column S 1 a1 4) fun r_1 =>
    bB (F10_column S 1 a1 5) fun r_2 =>
    bB (F10_column S 1 a1 3) fun r_3 =>
    bB2 (F7_far S 59 1 r_1 r_2 r_3 0) fun r_4 S_5 =>
    some (r_4, S_5)
set_option maxRecDepth 100000 in
set_option maxHeartbeats 4000000 in
theorem wX11_still {l : Launch} {Z : pZ}  (hZ : CC Z) (S : pS) (a1 : Int32) (r : Int32) (S2 : pS) (h0 : isA Z K_PF 0) (hf : F11_still S a1 = some (r, S2)) : CI l Z yX11_still cX11_still 2 .int 9 205 [.ref (za Z 0), .int a1] S r S2 := by
  unfold F11_still at hf
  refine eI (own := RX11) (by decide) rfl (Nat.le_of_ble_eq_true rfl) (fun p e s m args below meth c Q ls G hl hw hret => ?_)
  obtain ⟨hx, hb, hml, hown, hts⟩ := G.1
  have hl : lv_has ls 2 [(0, .ref (za Z 0)), (1, .int a1)] := hl
  refine lv_aload_n hx hb dX11_still_0 rfl (lv_at hl 0 rfl) ?_
  refine gF G hw h0 KX11 0 (k2 := 1) rfl (by decide) rfl fl_X11_10 dX11_still_1 ?_
  refine lv_iload_n hx hb dX11_still_4 rfl (lv_at hl 1 rfl) ?_
  refine kVi (rest := []) G hw (wX10_hasLine hZ S 1 a1 (F10_hasLine S 1 a1) (sub_PF_now hZ h0) rfl) cw_X11_310 (sub_PF_now hZ h0) KX10 ⟨Nat.le_of_ble_eq_true rfl, Nat.le_of_ble_eq_true rfl⟩ rfl hl.1 rfl (Nat.le_of_ble_eq_true rfl) ⟨Nat.le_refl _, Nat.le_refl _⟩ dX11_still_5 (fun H locs hw => ?_)
  refine lv_if_ne (tgt := 13) hx hb dX11_still_8 (by decide) (fun c_6 => ?_) (fun c_6 => ?_)
  · have hf := (if_neg c_6).symm.trans hf
    refine lv_aload_n hx hb dX11_still_13 rfl (lv_at hl 0 rfl) ?_
    refine gF G hw h0 KX11 2 (k2 := 59) rfl (by decide) rfl fl_X11_26 dX11_still_14 ?_
    refine lv_aload_n hx hb dX11_still_17 rfl (lv_at hl 0 rfl) ?_
    refine gF G hw h0 KX11 0 (k2 := 1) rfl (by decide) rfl fl_X11_10 dX11_still_18 ?_
    refine lv_aload_n hx hb dX11_still_21 rfl (lv_at hl 0 rfl) ?_
    refine gF G hw h0 KX11 0 (k2 := 1) rfl (by decide) rfl fl_X11_10 dX11_still_22 ?_
    refine lv_iload_n hx hb dX11_still_25 rfl (lv_at hl 1 rfl) ?_
    refine lv_iconst hx hb dX11_still_26 ki_4 ?_
    obtain ⟨r_1, hr_1, hf⟩ := bB_e hf
    refine kVi (rest := [.ref (za Z 1), .ref (za Z 59)]) G hw (wX10_column hZ S 1 a1 4 r_1 (sub_PF_now hZ h0) hr_1) cw_X11_313 (sub_PF_now hZ h0) KX10 ⟨Nat.le_of_ble_eq_true rfl, Nat.le_of_ble_eq_true rfl⟩ rfl hl.1 rfl (Nat.le_of_ble_eq_true rfl) ⟨Nat.le_refl _, Nat.le_refl _⟩ dX11_still_27 (fun H locs hw => ?_)
    refine lv_aload_n hx hb dX11_still_30 rfl (lv_at hl 0 rfl) ?_
    refine gF G hw h0 KX11 0 (k2 := 1) rfl (by decide) rfl fl_X11_10 dX11_still_31 ?_
    refine lv_iload_n hx hb dX11_still_34 rfl (lv_at hl 1 rfl) ?_
    refine lv_iconst hx hb dX11_still_35 ki_5 ?_
    obtain ⟨r_2, hr_2, hf⟩ := bB_e hf
    refine kVi (rest := [.int r_1, .ref (za Z 1), .ref (za Z 59)]) G hw (wX10_column hZ S 1 a1 5 r_2 (sub_PF_now hZ h0) hr_2) cw_X11_313 (sub_PF_now hZ h0) KX10 ⟨Nat.le_of_ble_eq_true rfl, Nat.le_of_ble_eq_true rfl⟩ rfl hl.1 rfl (Nat.le_of_ble_eq_true rfl) ⟨Nat.le_refl _, Nat.le_refl _⟩ dX11_still_36 (fun H locs hw => ?_)
    refine lv_aload_n hx hb dX11_still_39 rfl (lv_at hl 0 rfl) ?_
    refine gF G hw h0 KX11 0 (k2 := 1) rfl (by decide) rfl fl_X11_10 dX11_still_40 ?_
    refine lv_iload_n hx hb dX11_still_43 rfl (lv_at hl 1 rfl) ?_
    refine lv_iconst hx hb dX11_still_44 ki_3 ?_
    obtain ⟨r_3, hr_3, hf⟩ := bB_e hf
    refine kVi (rest := [.int r_2, .int r_1, .ref (za Z 1), .ref (za Z 59)]) G hw (wX10_column hZ S 1 a1 3 r_3 (sub_PF_now hZ h0) hr_3) cw_X11_313 (sub_PF_now hZ h0) KX10 ⟨Nat.le_of_ble_eq_true rfl, Nat.le_of_ble_eq_true rfl⟩ rfl hl.1 rfl (Nat.le_of_ble_eq_true rfl) ⟨Nat.le_refl _, Nat.le_refl _⟩ dX11_still_45 (fun H locs hw => ?_)
    refine lv_iconst hx hb dX11_still_48 ki_0 ?_
    obtain ⟨r_4, S_5, hr_4, hf⟩ := bB2_e hf
    refine kVi (rest := []) G hw (wX7_far hZ S 59 1 r_1 r_2 r_3 0 r_4 S_5 (sub_PF_thought hZ h0) (sub_PF_now hZ h0) hr_4) cw_X11_360 (sub_PF_thought hZ h0) KX7 ⟨Nat.le_of_ble_eq_true rfl, Nat.le_of_ble_eq_true rfl⟩ rfl hl.1 rfl (Nat.le_of_ble_eq_true rfl) ⟨Nat.le_refl _, Nat.le_refl _⟩ dX11_still_49 (fun H locs hw => ?_)
    obtain ⟨e1, e2⟩ := Prod.mk.inj (Option.some.inj hf)
    exact hret _ _ _ _ _ dX11_still_52 e1 (by rw [← e2]; exact hw)
  · have hf := (if_pos c_6).symm.trans hf
    refine lv_iconst hx hb dX11_still_11 ki_m1 ?_
    obtain ⟨e1, e2⟩ := Prod.mk.inj (Option.some.inj hf)
    exact hret _ _ _ _ _ dX11_still_12 e1 (by rw [← e2]; exact hw)
noncomputable def F11_holds (S : pS) (a1 : Int32) (a2 : Int32) (a3 : Int32) : Option (Int32 × pS) :=
  bB (F10_one S 1 a1) fun r_1 =>
  bO r_1 (
    some (((-1) : Int32), S)) fun o_2 =>
  if (F11_within a2 0 99) = 0 then
    some (((-1) : Int32), S)
  else
    if (F11_within a3 0 60) = 0 then
      some (((-1) : Int32), S)
    else
      bL (F0_ask S 63 o_2 (S 1 2)) fun S_3 =>
      bL (F0_askThrow S_3 63 (jmin a2 (S_3 o_2 0)) 0 a3) fun S_4 =>
      bL (S_4 o_2 1) fun l5_5 =>
      bL (fun (l6_6 : Int32) (S_7 : pS) =>
        some (l6_6, S_7)) fun g151_84 =>
      bL (u4 fun (l5_8 : Int32) (l6_9 : Int32) (l7_10 : Int32) (S_11 : pS) =>
        if 60 ≤ l7_10 then
          some (.inr (l6_9, S_11))
        else
          if 1000 ≤ l5_8 then
            some (.inr (l6_9, S_11))
          else
            bL (F0_askState S_11 63 l5_8 ((S_11 o_2 3) + l7_10)) fun S_13 =>
            bB2 (F0_tell S_13 63 15 1) fun r_14 S_15 =>
            bL (jmin 1000 (l5_8 + r_14)) fun l5_16 =>
            bL (l6_9 + 1) fun l6_17 =>
            bL (l7_10 + 1) fun l7_18 =>
            some (.inl (l5_16, l6_17, l7_18, S_15))) fun b84 =>
      bB (bP b84 (l5_5, (0 : Int32), (0 : Int32), S_4)) (u2 g151_84)
set_option maxRecDepth 100000 in
set_option maxHeartbeats 4000000 in
theorem wX11_holds {l : Launch} {Z : pZ}  (hZ : CC Z) (S : pS) (a1 : Int32) (a2 : Int32) (a3 : Int32) (r : Int32) (S2 : pS) (h0 : isA Z K_PF 0) (hf : F11_holds S a1 a2 a3 = some (r, S2)) : CI l Z yX11_holds cX11_holds 8 .int 7 154 [.ref (za Z 0), .int a1, .int a2, .int a3] S r S2 := by
  unfold F11_holds at hf
  refine eI (own := RX11) (by decide) rfl (Nat.le_of_ble_eq_true rfl) (fun p e s m args below meth c Q ls G hl hw hret => ?_)
  obtain ⟨hx, hb, hml, hown, hts⟩ := G.1
  have hl : lv_has ls 8 [(0, .ref (za Z 0)), (1, .int a1), (2, .int a2), (3, .int a3)] := hl
  refine lv_aload_n hx hb dX11_holds_0 rfl (lv_at hl 0 rfl) ?_
  refine gF G hw h0 KX11 0 (k2 := 1) rfl (by decide) rfl fl_X11_10 dX11_holds_1 ?_
  refine lv_iload_n hx hb dX11_holds_4 rfl (lv_at hl 1 rfl) ?_
  obtain ⟨r_1, hr_1, hf⟩ := bB_e hf
  refine kVq (rest := []) G hw (wX10_one hZ S 1 a1 r_1 (sub_PF_now hZ h0) hr_1) cw_X11_80 (sub_PF_now hZ h0) KX10 ⟨Nat.le_of_ble_eq_true rfl, Nat.le_of_ble_eq_true rfl⟩ rfl hl.1 rfl (Nat.le_of_ble_eq_true rfl) ⟨Nat.le_refl _, Nat.le_refl _⟩ dX11_holds_5 (fun H locs hw => ?_)
  refine astQ (lv' := [(4, va_rf (Option.map (za Z) r_1)), (0, .ref (za Z 0)), (1, .int a1), (2, .int a2), (3, .int a3)]) hx hb dX11_holds_8 hl (by decide) rfl (fun ls hl => ?_)
  refine aldQ hx hb dX11_holds_10 (lv_at hl 0 rfl) ?_
  refine ifnQ (tgt := 35) hx hb dX11_holds_12 (by decide) (fun e_23 => ?_) (fun o_2 e_23 => ?_)
  · subst e_23
    have hf := bO_n rfl hf
    refine lv_iconst hx hb dX11_holds_35 ki_m1 ?_
    obtain ⟨e1, e2⟩ := Prod.mk.inj (Option.some.inj hf)
    exact hret _ _ _ _ _ dX11_holds_36 e1 (by rw [← e2]; exact hw)
  · subst e_23
    have hf := bO_s rfl hf
    have ho_2 := ret_X10_one hZ S 1 a1 (sub_PF_now hZ h0) (hr_1.trans (congrArg some rfl))
    refine lv_iload_n hx hb dX11_holds_15 rfl (lv_at hl 3 rfl) ?_
    refine lv_iconst hx hb dX11_holds_16 ki_0 ?_
    refine lv_bipush hx hb dX11_holds_17 kb_99 ?_
    refine kSi (rest := []) G hw (wX11_within hZ S a2 0 99 (F11_within a2 0 99) rfl) cw_X11_51 ⟨Nat.le_of_ble_eq_true rfl, Nat.le_of_ble_eq_true rfl⟩ rfl hl.1 rfl (Nat.le_of_ble_eq_true rfl) ⟨Nat.le_refl _, Nat.le_refl _⟩ dX11_holds_19 (fun H locs hw => ?_)
    refine lv_if_eq (tgt := 35) hx hb dX11_holds_22 (by decide) (fun c_22 => ?_) (fun c_22 => ?_)
    · have hf := (if_pos c_22).symm.trans hf
      refine lv_iconst hx hb dX11_holds_35 ki_m1 ?_
      obtain ⟨e1, e2⟩ := Prod.mk.inj (Option.some.inj hf)
      exact hret _ _ _ _ _ dX11_holds_36 e1 (by rw [← e2]; exact hw)
    · have hf := (if_neg c_22).symm.trans hf
      refine lv_iload_n hx hb dX11_holds_25 rfl (lv_at hl 4 rfl) ?_
      refine lv_iconst hx hb dX11_holds_26 ki_0 ?_
      refine lv_bipush hx hb dX11_holds_27 kb_60 ?_
      refine kSi (rest := []) G hw (wX11_within hZ S a3 0 60 (F11_within a3 0 60) rfl) cw_X11_51 ⟨Nat.le_of_ble_eq_true rfl, Nat.le_of_ble_eq_true rfl⟩ rfl hl.1 rfl (Nat.le_of_ble_eq_true rfl) ⟨Nat.le_refl _, Nat.le_refl _⟩ dX11_holds_29 (fun H locs hw => ?_)
      refine lv_if_ne (tgt := 37) hx hb dX11_holds_32 (by decide) (fun c_21 => ?_) (fun c_21 => ?_)
      · have hf := (if_neg c_21).symm.trans hf
        refine lv_aload_n hx hb dX11_holds_37 rfl (lv_at hl 1 rfl) ?_
        refine gF G hw h0 KX11 3 (k2 := 63) rfl (by decide) rfl fl_X11_33 dX11_holds_38 ?_
        refine lv_aload hx hb dX11_holds_41 (lv_at hl 0 rfl) ?_
        refine lv_aload_n hx hb dX11_holds_43 rfl (lv_at hl 1 rfl) ?_
        refine gF G hw h0 KX11 0 (k2 := 1) rfl (by decide) rfl fl_X11_10 dX11_holds_44 ?_
        refine gI G hw (sub_PF_now hZ h0) KX10 2 (by decide) rfl fl_X11_205 dX11_holds_47 ?_
        obtain ⟨S_3, hS_3, hf⟩ := bL_e hf
        refine kVv (rest := []) G hw (wX0_ask hZ S 63 o_2 (S 1 2) S_3 (sub_PF_arms hZ h0) ho_2 hS_3.symm) cw_X11_208 (sub_PF_arms hZ h0) KX0 ⟨Nat.le_of_ble_eq_true rfl, Nat.le_of_ble_eq_true rfl⟩ rfl hl.1 rfl (Nat.le_of_ble_eq_true rfl) ⟨Nat.le_refl _, Nat.le_refl _⟩ dX11_holds_50 (fun H locs hw => ?_)
        refine lv_aload_n hx hb dX11_holds_53 rfl (lv_at hl 1 rfl) ?_
        refine gF G hw h0 KX11 3 (k2 := 63) rfl (by decide) rfl fl_X11_33 dX11_holds_54 ?_
        refine lv_iload_n hx hb dX11_holds_57 rfl (lv_at hl 3 rfl) ?_
        refine lv_aload hx hb dX11_holds_58 (lv_at hl 0 rfl) ?_
        refine gI G hw ho_2 KX8 0 (by decide) rfl fl_X11_84 dX11_holds_60 ?_
        refine xmin G hl.1 ml_X11_200 (Nat.le_of_ble_eq_true rfl) (Nat.le_of_ble_eq_true rfl) ⟨Nat.le_refl _, Nat.le_refl _⟩ dX11_holds_63 ?_
        refine lv_iconst hx hb dX11_holds_66 ki_0 ?_
        refine lv_iload_n hx hb dX11_holds_67 rfl (lv_at hl 4 rfl) ?_
        obtain ⟨S_4, hS_4, hf⟩ := bL_e hf
        refine kVv (rest := []) G hw (wX0_askThrow hZ S_3 63 (jmin a2 (S_3 o_2 0)) 0 a3 S_4 (sub_PF_arms hZ h0) hS_4.symm) cw_X11_212 (sub_PF_arms hZ h0) KX0 ⟨Nat.le_of_ble_eq_true rfl, Nat.le_of_ble_eq_true rfl⟩ rfl hl.1 rfl (Nat.le_of_ble_eq_true rfl) ⟨Nat.le_refl _, Nat.le_refl _⟩ dX11_holds_68 (fun H locs hw => ?_)
        refine lv_aload hx hb dX11_holds_71 (lv_at hl 0 rfl) ?_
        refine gI G hw ho_2 KX8 1 (by decide) rfl fl_X11_89 dX11_holds_73 ?_
        obtain ⟨l5_5, el5_5, hf⟩ := bL_e hf
        refine top_i el5_5 ?_
        refine lv_istore (lv' := [(5, .int l5_5), (4, .ref (za Z o_2)), (0, .ref (za Z 0)), (1, .int a1), (2, .int a2), (3, .int a3)]) hx hb dX11_holds_76 hl (by decide) rfl (fun ls hl => ?_)
        refine lv_iconst hx hb dX11_holds_78 ki_0 ?_
        refine lv_istore (lv' := [(6, .int 0), (5, .int l5_5), (4, .ref (za Z o_2)), (0, .ref (za Z 0)), (1, .int a1), (2, .int a2), (3, .int a3)]) hx hb dX11_holds_79 hl (by decide) rfl (fun ls hl => ?_)
        refine lv_iconst hx hb dX11_holds_81 ki_0 ?_
        refine lv_istore (lv' := [(7, .int 0), (6, .int 0), (5, .int l5_5), (4, .ref (za Z o_2)), (0, .ref (za Z 0)), (1, .int a1), (2, .int a2), (3, .int a3)]) hx hb dX11_holds_82 hl (by decide) rfl (fun ls hl => ?_)
        obtain ⟨g151_84, ej, hf⟩ := bL_e hf
        have R151_84 : ∀ (l6_6 : Int32) (S_7 : pS) (H : Heap) (locs : List Loc) (ls : Array Slot), Wd Z s S_7 H locs → lv_has ls 8 [(6, .int l6_6)] → g151_84 l6_6 S_7 = some (r, S2) → W p l e { frames := 7, cells := 0, slots := 0, locals := 154 } s m args below meth c H locs 0 0 Q (F0 m 151 ls []) := by
          intro l6_6 S_7 H locs ls hw hl hf
          have hf := (congrFun (congrFun ej l6_6) S_7).symm.trans hf
          refine lv_iload hx hb dX11_holds_151 (lv_at hl 0 rfl) ?_
          obtain ⟨e1, e2⟩ := Prod.mk.inj (Option.some.inj hf)
          exact hret _ _ _ _ _ dX11_holds_153 e1 (by rw [← e2]; exact hw)
        clear ej
        obtain ⟨b84, eb, hf⟩ := bL_e hf
        have RL84 : ∀ (n : Nat) z, (u2 g151_84) z = some (r, S2) → ∀ (l5_8 : Int32) (l6_9 : Int32) (l7_10 : Int32) (S_11 : pS) (H : Heap) (locs : List Loc) (ls : Array Slot), Wd Z s S_11 H locs → lv_has ls 8 [(0, .ref (za Z 0)), (4, .ref (za Z o_2)), (5, .int l5_8), (6, .int l6_9), (7, .int l7_10)] → bPn b84 n (l5_8, l6_9, l7_10, S_11) = some z → W p l e { frames := 7, cells := 0, slots := 0, locals := 154 } s m args below meth c H locs 0 0 Q (F0 m 84 ls []) := by
          intro n
          induction n with
          | zero =>
            intro z hg l5_8 l6_9 l7_10 S_11 H locs ls hw hl hz
            exact bPn_0 hz
          | succ n ih =>
            intro z hg l5_8 l6_9 l7_10 S_11 H locs ls hw hl hz
            obtain ⟨q_12, hf, hz⟩ := bPn_e hz
            have hf := u4_e ((congrFun eb _).symm.trans hf)
            refine lv_iload hx hb dX11_holds_84 (lv_at hl 4 rfl) ?_
            refine lv_bipush hx hb dX11_holds_86 kb_60 ?_
            refine lv_icmp_ge (tgt := 151) hx hb dX11_holds_88 (by decide) (fun c_20 => ?_) (fun c_20 => ?_)
            · have hf := (if_pos c_20).symm.trans hf
              obtain rfl := Option.some.inj hf
              obtain rfl := Option.some.inj (hz : some _ = some _)
              exact R151_84 _ _ _ _ _ hw (lv_sub hl [3] rfl) hg
            · have hf := (if_neg c_20).symm.trans hf
              refine lv_iload hx hb dX11_holds_91 (lv_at hl 2 rfl) ?_
              refine lv_sipush hx hb dX11_holds_93 ks_1000 ?_
              refine lv_icmp_ge (tgt := 151) hx hb dX11_holds_96 (by decide) (fun c_19 => ?_) (fun c_19 => ?_)
              · have hf := (if_pos c_19).symm.trans hf
                obtain rfl := Option.some.inj hf
                obtain rfl := Option.some.inj (hz : some _ = some _)
                exact R151_84 _ _ _ _ _ hw (lv_sub hl [3] rfl) hg
              · have hf := (if_neg c_19).symm.trans hf
                refine lv_aload_n hx hb dX11_holds_99 rfl (lv_at hl 0 rfl) ?_
                refine gF G hw h0 KX11 3 (k2 := 63) rfl (by decide) rfl fl_X11_33 dX11_holds_100 ?_
                refine lv_iload hx hb dX11_holds_103 (lv_at hl 2 rfl) ?_
                refine lv_aload hx hb dX11_holds_105 (lv_at hl 1 rfl) ?_
                refine gI G hw ho_2 KX8 3 (by decide) rfl fl_X11_247 dX11_holds_107 ?_
                refine lv_iload hx hb dX11_holds_110 (lv_at hl 4 rfl) ?_
                refine lv_iadd hx hb dX11_holds_112 ?_
                obtain ⟨S_13, hS_13, hf⟩ := bL_e hf
                refine kVv (rest := []) G hw (wX0_askState hZ S_11 63 l5_8 ((S_11 o_2 3) + l7_10) S_13 (sub_PF_arms hZ h0) hS_13.symm) cw_X11_367 (sub_PF_arms hZ h0) KX0 ⟨Nat.le_of_ble_eq_true rfl, Nat.le_of_ble_eq_true rfl⟩ rfl hl.1 rfl (Nat.le_of_ble_eq_true rfl) ⟨Nat.le_refl _, Nat.le_refl _⟩ dX11_holds_113 (fun H locs hw => ?_)
                refine lv_sipush hx hb dX11_holds_116 ks_1000 ?_
                refine lv_iload hx hb dX11_holds_119 (lv_at hl 2 rfl) ?_
                refine lv_aload_n hx hb dX11_holds_121 rfl (lv_at hl 0 rfl) ?_
                refine gF G hw h0 KX11 3 (k2 := 63) rfl (by decide) rfl fl_X11_33 dX11_holds_122 ?_
                refine lv_aload_n hx hb dX11_holds_125 rfl (lv_at hl 0 rfl) ?_
                refine gF G hw h0 KX11 0 (k2 := 1) rfl (by decide) rfl fl_X11_10 dX11_holds_126 ?_
                refine gF G hw (sub_PF_now hZ h0) KX10 15 (k2 := 15) rfl (by decide) rfl fl_X11_124 dX11_holds_129 ?_
                refine lv_iconst hx hb dX11_holds_132 ki_1 ?_
                obtain ⟨r_14, S_15, hr_14, hf⟩ := bB2_e hf
                refine kVi (rest := [.int l5_8, .int 1000]) G hw (wX0_tell hZ S_13 63 15 1 r_14 S_15 (sub_PF_arms hZ h0) (sub_World_arms hZ (sub_PF_now hZ h0)) hr_14) cw_X11_216 (sub_PF_arms hZ h0) KX0 ⟨Nat.le_of_ble_eq_true rfl, Nat.le_of_ble_eq_true rfl⟩ rfl hl.1 rfl (Nat.le_of_ble_eq_true rfl) ⟨Nat.le_refl _, Nat.le_refl _⟩ dX11_holds_133 (fun H locs hw => ?_)
                refine lv_iadd hx hb dX11_holds_136 ?_
                refine xmin G hl.1 ml_X11_200 (Nat.le_of_ble_eq_true rfl) (Nat.le_of_ble_eq_true rfl) ⟨Nat.le_refl _, Nat.le_refl _⟩ dX11_holds_137 ?_
                obtain ⟨l5_16, el5_16, hf⟩ := bL_e hf
                refine top_i el5_16 ?_
                refine lv_istore (lv' := [(5, .int l5_16), (0, .ref (za Z 0)), (4, .ref (za Z o_2)), (6, .int l6_9), (7, .int l7_10)]) hx hb dX11_holds_140 hl (by decide) rfl (fun ls hl => ?_)
                obtain ⟨l6_17, el6_17, hf⟩ := bL_e hf
                refine lv_iinc (v := l6_17) (lv' := [(6, .int l6_17), (5, .int l5_16), (0, .ref (za Z 0)), (4, .ref (za Z o_2)), (7, .int l7_10)]) hx hb dX11_holds_142 hl (k := 3) rfl (by rw [el6_17]; rfl) (by decide) rfl (fun ls hl => ?_)
                obtain ⟨l7_18, el7_18, hf⟩ := bL_e hf
                refine lv_iinc (v := l7_18) (lv' := [(7, .int l7_18), (6, .int l6_17), (5, .int l5_16), (0, .ref (za Z 0)), (4, .ref (za Z o_2))]) hx hb dX11_holds_145 hl (k := 4) rfl (by rw [el7_18]; rfl) (by decide) rfl (fun ls hl => ?_)
                refine lv_goto (tgt := 84) hx hb dX11_holds_148 (by decide) ?_
                obtain rfl := Option.some.inj hf
                exact ih _ hg _ _ _ _ _ _ _ hw (lv_sub hl [3, 4, 2, 1, 0] rfl) hz
        clear eb
        obtain ⟨z, hz, hf⟩ := bB_e hf
        obtain ⟨n, hz⟩ := bP_e hz
        exact RL84 n z hf _ _ _ _ _ _ _ hw (lv_sub hl [4, 3, 2, 1, 0] rfl) hz
      · have hf := (if_pos c_21).symm.trans hf
        refine lv_iconst hx hb dX11_holds_35 ki_m1 ?_
        obtain ⟨e1, e2⟩ := Prod.mk.inj (Option.some.inj hf)
        exact hret _ _ _ _ _ dX11_holds_36 e1 (by rw [← e2]; exact hw)
noncomputable def F1_choice (a0 : Int32) : Int32 :=
  54 + (5 * a0)
set_option maxRecDepth 100000 in
set_option maxHeartbeats 4000000 in
theorem wX1_choice {l : Launch} {Z : pZ}  (hZ : CC Z) (S : pS) (a0 : Int32) (r : Int32)  (hf : F1_choice a0 = r) : CI l Z yX1_choice cX1_choice 1 .int 3 60 [.int a0] S r S := by
  unfold F1_choice at hf
  refine eI (own := RX1) (by decide) rfl (Nat.le_of_ble_eq_true rfl) (fun p e s m args below meth c Q ls G hl hw hret => ?_)
  obtain ⟨hx, hb, hml, hown, hts⟩ := G.1
  have hl : lv_has ls 1 [(0, .int a0)] := hl
  refine lv_bipush hx hb dX1_choice_0 kb_54 ?_
  refine lv_iconst hx hb dX1_choice_2 ki_5 ?_
  refine lv_iload_n hx hb dX1_choice_3 rfl (lv_at hl 0 rfl) ?_
  refine lv_imul hx hb dX1_choice_4 ?_
  refine lv_iadd hx hb dX1_choice_5 ?_
  exact hret _ _ _ _ _ dX1_choice_6 hf hw
noncomputable def B1_greatest (rc_by : pS → Nat → Int32 → Int32 → Int32 → Option (Int32 × pS)) (S : pS) (k0 : Nat) (a1 : Int32) (a2 : Int32) : Option (Int32 × pS) :=
  if a1 ≤ 0 then
    some ((0 : Int32), S)
  else
    if 7 ≤ a1 then
      some ((0 : Int32), S)
    else
      if a2 < 0 then
        some ((0 : Int32), S)
      else
        if a2 < 1000 then
          bG (vp_in a1 7) <|
          bG (vp_in a2 1000) <|
          if (S ((k0 + 5) + a1.toNatClampNeg) a2.toNatClampNeg) = (-1) then
            bL (fun (l3_3 : Int32) (S_4 : pS) =>
              bG (vp_in a1 7) <|
              bG (vp_in a2 1000) <|
              bL (sU S_4 ((k0 + 5) + a1.toNatClampNeg) a2.toNatClampNeg l3_3) fun S_7 =>
              some (l3_3, S_7)) fun g80_52 =>
            bL (u3 fun (l3_8 : Int32) (l4_9 : Int32) (S_10 : pS) =>
              if (S_10 k0 7) ≤ l4_9 then
                some (.inr (l3_8, S_10))
              else
                bB2 (rc_by S_10 k0 l4_9 a1 a2) fun r_12 S_13 =>
                bL (jmax l3_8 r_12) fun l3_14 =>
                bL (l4_9 + 1) fun l4_15 =>
                some (.inl (l3_14, l4_15, S_13))) fun b52 =>
            bB (bP b52 ((0 : Int32), (0 : Int32), S)) (u2 g80_52)
          else
            bG (vp_in a1 7) <|
            bG (vp_in a2 1000) <|
            some (S ((k0 + 5) + a1.toNatClampNeg) a2.toNatClampNeg, S)
        else
          some ((0 : Int32), S)
noncomputable def B1_by (rc_greatest : pS → Nat → Int32 → Int32 → Option (Int32 × pS)) (S : pS) (k0 : Nat) (a1 : Int32) (a2 : Int32) (a3 : Int32) : Option (Int32 × pS) :=
  bL (F0_askThrow S (k0 + 2) (F1_choice a1) 0 (S k0 6)) fun S_1 =>
  bL (F0_askState S_1 (k0 + 2) a3 ((S_1 k0 8) - a2)) fun S_2 =>
  bL (fun (t_3 : Int32) (S_4 : pS) =>
    bG (pmu (S_4 k0 5) = some 15) <|
    bB2 (F0_tell S_4 (k0 + 2) 15 1) fun r_5 S_6 =>
    bB2 (rc_greatest S_6 k0 (a2 - 1) (jmin 1000 (a3 + r_5))) fun r_7 S_8 =>
    some (t_3 + (((((1000000 - t_3 : Int32).toInt64) * ((r_7 : Int32).toInt64)) / 1000000 : Int64).toInt32), S_8)) fun j72 =>
  bL (fun (_ : Unit) =>
    j72 0 S_2) fun j71 =>
  if a1 < 0 then
    j71 ()
  else
    if 10 ≤ a1 then
      j71 ()
    else
      bG (vp_in a1 10) <|
      if (S_2 (k0 + 1) a1.toNatClampNeg) = 0 then
        j71 ()
      else
        bG (pmu (S_2 k0 5) = some 15) <|
        bB2 (F0_tell S_2 (k0 + 2) 15 0) fun r_10 S_11 =>
        j72 (1000000 - (1000 * r_10)) S_11
noncomputable def T1_greatest : Nat → (pS → Nat → Int32 → Int32 → Option (Int32 × pS)) × (pS → Nat → Int32 → Int32 → Int32 → Option (Int32 × pS))
  | 0 => (fun _ _ _ _ => none, fun _ _ _ _ _ => none)
  | d + 1 => (B1_greatest ((T1_greatest d).2), B1_by ((T1_greatest d).1))
noncomputable def F1_greatest (S : pS) (k0 : Nat) (a1 : Int32) (a2 : Int32) : Option (Int32 × pS) := (T1_greatest 40).1 S k0 a1 a2
noncomputable def F1_by (S : pS) (k0 : Nat) (a1 : Int32) (a2 : Int32) (a3 : Int32) : Option (Int32 × pS) := (T1_greatest 40).2 S k0 a1 a2 a3
set_option maxRecDepth 100000 in
set_option maxHeartbeats 4000000 in
theorem wBX1_greatest {l : Launch} {Z : pZ} {fr lo : Nat} (hfr : 3 ≤ fr) (hlo : 60 ≤ lo) {rc_by : pS → Nat → Int32 → Int32 → Int32 → Option (Int32 × pS)} (hr_by : ∀ (S : pS) (k0 : Nat) (a1 : Int32) (a2 : Int32) (a3 : Int32) (r : Int32) (S2 : pS), isA Z K_Chances k0 → isA Z K_Law 15 → rc_by S k0 a1 a2 a3 = some (r, S2) → CI l Z yX1_by cX1_by 6 .int fr lo [.ref (za Z k0), .int a1, .int a2, .int a3] S r S2) (hZ : CC Z) (S : pS) (k0 : Nat) (a1 : Int32) (a2 : Int32) (r : Int32) (S2 : pS) (h0 : isA Z K_Chances k0) (h15 : isA Z K_Law 15) (hf : B1_greatest rc_by S k0 a1 a2 = some (r, S2)) : CI l Z yX1_greatest cX1_greatest 5 .int (fr + 1) (lo + 60) [.ref (za Z k0), .int a1, .int a2] S r S2 := by
  unfold B1_greatest at hf
  refine eI (own := RX1) (by decide) rfl (Nat.le_of_ble_eq_true rfl) (fun p e s m args below meth c Q ls G hl hw hret => ?_)
  obtain ⟨hx, hb, hml, hown, hts⟩ := G.1
  have hl : lv_has ls 5 [(0, .ref (za Z k0)), (1, .int a1), (2, .int a2)] := hl
  refine lv_iload_n hx hb dX1_greatest_0 rfl (lv_at hl 1 rfl) ?_
  refine lv_if_le (tgt := 24) hx hb dX1_greatest_1 (by decide) (fun c_23 => ?_) (fun c_23 => ?_)
  · have hf := (if_pos c_23).symm.trans hf
    refine lv_iconst hx hb dX1_greatest_24 ki_0 ?_
    obtain ⟨e1, e2⟩ := Prod.mk.inj (Option.some.inj hf)
    exact hret _ _ _ _ _ dX1_greatest_25 e1 (by rw [← e2]; exact hw)
  · have hf := (if_neg c_23).symm.trans hf
    refine lv_iload_n hx hb dX1_greatest_4 rfl (lv_at hl 1 rfl) ?_
    refine lv_aload_n hx hb dX1_greatest_5 rfl (lv_at hl 0 rfl) ?_
    refine gF G hw h0 KX1 4 (k2 := (k0 + 4)) rfl (by decide) rfl fl_X1_26 dX1_greatest_6 ?_
    refine aL G hw (t := 5) (sub_Chances_known hZ h0) rfl (v := 7) (by decide) dX1_greatest_9 ?_
    refine lv_icmp_ge (tgt := 24) hx hb dX1_greatest_10 (by decide) (fun c_22 => ?_) (fun c_22 => ?_)
    · have hf := (if_pos c_22).symm.trans hf
      refine lv_iconst hx hb dX1_greatest_24 ki_0 ?_
      obtain ⟨e1, e2⟩ := Prod.mk.inj (Option.some.inj hf)
      exact hret _ _ _ _ _ dX1_greatest_25 e1 (by rw [← e2]; exact hw)
    · have hf := (if_neg c_22).symm.trans hf
      refine lv_iload_n hx hb dX1_greatest_13 rfl (lv_at hl 2 rfl) ?_
      refine lv_if_lt (tgt := 24) hx hb dX1_greatest_14 (by decide) (fun c_21 => ?_) (fun c_21 => ?_)
      · have hf := (if_pos c_21).symm.trans hf
        refine lv_iconst hx hb dX1_greatest_24 ki_0 ?_
        obtain ⟨e1, e2⟩ := Prod.mk.inj (Option.some.inj hf)
        exact hret _ _ _ _ _ dX1_greatest_25 e1 (by rw [← e2]; exact hw)
      · have hf := (if_neg c_21).symm.trans hf
        refine lv_iload_n hx hb dX1_greatest_17 rfl (lv_at hl 2 rfl) ?_
        refine lv_sipush hx hb dX1_greatest_18 ks_1000 ?_
        refine lv_icmp_lt (tgt := 26) hx hb dX1_greatest_21 (by decide) (fun c_20 => ?_) (fun c_20 => ?_)
        · have hf := (if_pos c_20).symm.trans hf
          refine lv_aload_n hx hb dX1_greatest_26 rfl (lv_at hl 0 rfl) ?_
          refine gF G hw h0 KX1 4 (k2 := (k0 + 4)) rfl (by decide) rfl fl_X1_26 dX1_greatest_27 ?_
          refine lv_iload_n hx hb dX1_greatest_30 rfl (lv_at hl 1 rfl) ?_
          obtain ⟨hg_1, hf⟩ := bG_e hf
          refine aG G hw (sub_Chances_known hZ h0) hg_1 (j := a1.toNatClampNeg) (k2 := ((k0 + 5) + a1.toNatClampNeg)) rfl rfl dX1_greatest_31 ?_
          refine lv_iload_n hx hb dX1_greatest_32 rfl (lv_at hl 2 rfl) ?_
          obtain ⟨hg_2, hf⟩ := bG_e hf
          refine aI G hw (gr_G7x1000 hZ (sub_Chances_known hZ h0) (vin_lt hg_1)) hg_2 (j := a2.toNatClampNeg) rfl dX1_greatest_33 ?_
          refine lv_iconst hx hb dX1_greatest_34 ki_m1 ?_
          refine lv_icmp_eq (tgt := 47) hx hb dX1_greatest_35 (by decide) (fun c_19 => ?_) (fun c_19 => ?_)
          · have hf := (if_pos c_19).symm.trans hf
            refine lv_iconst hx hb dX1_greatest_47 ki_0 ?_
            refine lv_istore_n (lv' := [(3, .int 0), (0, .ref (za Z k0)), (1, .int a1), (2, .int a2)]) hx hb dX1_greatest_48 rfl hl (by decide) rfl (fun ls hl => ?_)
            refine lv_iconst hx hb dX1_greatest_49 ki_0 ?_
            refine lv_istore (lv' := [(4, .int 0), (3, .int 0), (0, .ref (za Z k0)), (1, .int a1), (2, .int a2)]) hx hb dX1_greatest_50 hl (by decide) rfl (fun ls hl => ?_)
            obtain ⟨g80_52, ej, hf⟩ := bL_e hf
            have R80_52 : ∀ (l3_3 : Int32) (S_4 : pS) (H : Heap) (locs : List Loc) (ls : Array Slot), Wd Z s S_4 H locs → lv_has ls 5 [(0, .ref (za Z k0)), (1, .int a1), (2, .int a2), (3, .int l3_3)] → g80_52 l3_3 S_4 = some (r, S2) → W p l e { frames := (fr + 1), cells := 0, slots := 0, locals := (lo + 60) } s m args below meth c H locs 0 0 Q (F0 m 80 ls []) := by
              intro l3_3 S_4 H locs ls hw hl hf
              have hf := (congrFun (congrFun ej l3_3) S_4).symm.trans hf
              refine lv_aload_n hx hb dX1_greatest_80 rfl (lv_at hl 0 rfl) ?_
              refine gF G hw h0 KX1 4 (k2 := (k0 + 4)) rfl (by decide) rfl fl_X1_26 dX1_greatest_81 ?_
              refine lv_iload_n hx hb dX1_greatest_84 rfl (lv_at hl 1 rfl) ?_
              obtain ⟨hg_5, hf⟩ := bG_e hf
              refine aG G hw (sub_Chances_known hZ h0) hg_5 (j := a1.toNatClampNeg) (k2 := ((k0 + 5) + a1.toNatClampNeg)) rfl rfl dX1_greatest_85 ?_
              refine lv_iload_n hx hb dX1_greatest_86 rfl (lv_at hl 2 rfl) ?_
              refine lv_iload_n hx hb dX1_greatest_87 rfl (lv_at hl 3 rfl) ?_
              obtain ⟨hg_6, hf⟩ := bG_e hf
              obtain ⟨S_7, eS_7, hf⟩ := bL_e hf
              refine sI G hw (gr_G7x1000 hZ (sub_Chances_known hZ h0) (vin_lt hg_5)) hg_6 (j := a2.toNatClampNeg) rfl eS_7 dX1_greatest_88 (fun H locs hw => ?_)
              refine lv_iload_n hx hb dX1_greatest_89 rfl (lv_at hl 3 rfl) ?_
              obtain ⟨e1, e2⟩ := Prod.mk.inj (Option.some.inj hf)
              exact hret _ _ _ _ _ dX1_greatest_90 e1 (by rw [← e2]; exact hw)
            clear ej
            obtain ⟨b52, eb, hf⟩ := bL_e hf
            have RL52 : ∀ (n : Nat) z, (u2 g80_52) z = some (r, S2) → ∀ (l3_8 : Int32) (l4_9 : Int32) (S_10 : pS) (H : Heap) (locs : List Loc) (ls : Array Slot), Wd Z s S_10 H locs → lv_has ls 5 [(0, .ref (za Z k0)), (1, .int a1), (2, .int a2), (3, .int l3_8), (4, .int l4_9)] → bPn b52 n (l3_8, l4_9, S_10) = some z → W p l e { frames := (fr + 1), cells := 0, slots := 0, locals := (lo + 60) } s m args below meth c H locs 0 0 Q (F0 m 52 ls []) := by
              intro n
              induction n with
              | zero =>
                intro z hg l3_8 l4_9 S_10 H locs ls hw hl hz
                exact bPn_0 hz
              | succ n ih =>
                intro z hg l3_8 l4_9 S_10 H locs ls hw hl hz
                obtain ⟨q_11, hf, hz⟩ := bPn_e hz
                have hf := u3_e ((congrFun eb _).symm.trans hf)
                refine lv_iload hx hb dX1_greatest_52 (lv_at hl 4 rfl) ?_
                refine lv_aload_n hx hb dX1_greatest_54 rfl (lv_at hl 0 rfl) ?_
                refine gI G hw h0 KX1 7 (by decide) rfl fl_X1_51 dX1_greatest_55 ?_
                refine lv_icmp_ge (tgt := 80) hx hb dX1_greatest_58 (by decide) (fun c_16 => ?_) (fun c_16 => ?_)
                · have hf := (if_pos c_16).symm.trans hf
                  obtain rfl := Option.some.inj hf
                  obtain rfl := Option.some.inj (hz : some _ = some _)
                  exact R80_52 _ _ _ _ _ hw (lv_sub hl [0, 1, 2, 3] rfl) hg
                · have hf := (if_neg c_16).symm.trans hf
                  refine lv_iload_n hx hb dX1_greatest_61 rfl (lv_at hl 3 rfl) ?_
                  refine lv_aload_n hx hb dX1_greatest_62 rfl (lv_at hl 0 rfl) ?_
                  refine lv_iload hx hb dX1_greatest_63 (lv_at hl 4 rfl) ?_
                  refine lv_iload_n hx hb dX1_greatest_65 rfl (lv_at hl 1 rfl) ?_
                  refine lv_iload_n hx hb dX1_greatest_66 rfl (lv_at hl 2 rfl) ?_
                  obtain ⟨r_12, S_13, hr_12, hf⟩ := bB2_e hf
                  refine kVi (rest := [.int l3_8]) G hw (hr_by S_10 k0 l4_9 a1 a2 r_12 S_13 h0 h15 hr_12) cw_X1_80 h0 KX1 ⟨by dsimp only; omega, by dsimp only; omega⟩ rfl hl.1 rfl (Nat.le_of_ble_eq_true rfl) ⟨Nat.le_refl _, Nat.le_refl _⟩ dX1_greatest_67 (fun H locs hw => ?_)
                  refine xmax G hl.1 ml_X1_108 (Nat.le_of_ble_eq_true rfl) (Nat.le_of_ble_eq_true rfl) ⟨Nat.le_refl _, Nat.le_refl _⟩ dX1_greatest_70 ?_
                  obtain ⟨l3_14, el3_14, hf⟩ := bL_e hf
                  refine top_i el3_14 ?_
                  refine lv_istore_n (lv' := [(3, .int l3_14), (0, .ref (za Z k0)), (1, .int a1), (2, .int a2), (4, .int l4_9)]) hx hb dX1_greatest_73 rfl hl (by decide) rfl (fun ls hl => ?_)
                  obtain ⟨l4_15, el4_15, hf⟩ := bL_e hf
                  refine lv_iinc (v := l4_15) (lv' := [(4, .int l4_15), (3, .int l3_14), (0, .ref (za Z k0)), (1, .int a1), (2, .int a2)]) hx hb dX1_greatest_74 hl (k := 4) rfl (by rw [el4_15]; rfl) (by decide) rfl (fun ls hl => ?_)
                  refine lv_goto (tgt := 52) hx hb dX1_greatest_77 (by decide) ?_
                  obtain rfl := Option.some.inj hf
                  exact ih _ hg _ _ _ _ _ _ hw (lv_sub hl [2, 3, 4, 1, 0] rfl) hz
            clear eb
            obtain ⟨z, hz, hf⟩ := bB_e hf
            obtain ⟨n, hz⟩ := bP_e hz
            exact RL52 n z hf _ _ _ _ _ _ hw (lv_sub hl [2, 3, 4, 1, 0] rfl) hz
          · have hf := (if_neg c_19).symm.trans hf
            refine lv_aload_n hx hb dX1_greatest_38 rfl (lv_at hl 0 rfl) ?_
            refine gF G hw h0 KX1 4 (k2 := (k0 + 4)) rfl (by decide) rfl fl_X1_26 dX1_greatest_39 ?_
            refine lv_iload_n hx hb dX1_greatest_42 rfl (lv_at hl 1 rfl) ?_
            obtain ⟨hg_17, hf⟩ := bG_e hf
            refine aG G hw (sub_Chances_known hZ h0) hg_17 (j := a1.toNatClampNeg) (k2 := ((k0 + 5) + a1.toNatClampNeg)) rfl rfl dX1_greatest_43 ?_
            refine lv_iload_n hx hb dX1_greatest_44 rfl (lv_at hl 2 rfl) ?_
            obtain ⟨hg_18, hf⟩ := bG_e hf
            refine aI G hw (gr_G7x1000 hZ (sub_Chances_known hZ h0) (vin_lt hg_17)) hg_18 (j := a2.toNatClampNeg) rfl dX1_greatest_45 ?_
            obtain ⟨e1, e2⟩ := Prod.mk.inj (Option.some.inj hf)
            exact hret _ _ _ _ _ dX1_greatest_46 e1 (by rw [← e2]; exact hw)
        · have hf := (if_neg c_20).symm.trans hf
          refine lv_iconst hx hb dX1_greatest_24 ki_0 ?_
          obtain ⟨e1, e2⟩ := Prod.mk.inj (Option.some.inj hf)
          exact hret _ _ _ _ _ dX1_greatest_25 e1 (by rw [← e2]; exact hw)
set_option maxRecDepth 100000 in
set_option maxHeartbeats 4000000 in
theorem wBX1_by {l : Launch} {Z : pZ} {fr lo : Nat} (hfr : 7 ≤ fr) (hlo : 154 ≤ lo) {rc_greatest : pS → Nat → Int32 → Int32 → Option (Int32 × pS)} (hr_greatest : ∀ (S : pS) (k0 : Nat) (a1 : Int32) (a2 : Int32) (r : Int32) (S2 : pS), isA Z K_Chances k0 → isA Z K_Law 15 → rc_greatest S k0 a1 a2 = some (r, S2) → CI l Z yX1_greatest cX1_greatest 5 .int fr lo [.ref (za Z k0), .int a1, .int a2] S r S2) (hZ : CC Z) (S : pS) (k0 : Nat) (a1 : Int32) (a2 : Int32) (a3 : Int32) (r : Int32) (S2 : pS) (h0 : isA Z K_Chances k0) (h15 : isA Z K_Law 15) (hf : B1_by rc_greatest S k0 a1 a2 a3 = some (r, S2)) : CI l Z yX1_by cX1_by 6 .int (fr + 1) (lo + 60) [.ref (za Z k0), .int a1, .int a2, .int a3] S r S2 := by
  unfold B1_by at hf
  refine eI (own := RX1) (by decide) rfl (Nat.le_of_ble_eq_true rfl) (fun p e s m args below meth c Q ls G hl hw hret => ?_)
  obtain ⟨hx, hb, hml, hown, hts⟩ := G.1
  have hl : lv_has ls 6 [(0, .ref (za Z k0)), (1, .int a1), (2, .int a2), (3, .int a3)] := hl
  refine lv_aload_n hx hb dX1_by_0 rfl (lv_at hl 0 rfl) ?_
  refine gF G hw h0 KX1 3 (k2 := (k0 + 2)) rfl (by decide) rfl fl_X1_18 dX1_by_1 ?_
  refine lv_iload_n hx hb dX1_by_4 rfl (lv_at hl 1 rfl) ?_
  refine kSi (rest := [.ref (za Z (k0 + 2))]) G hw (wX1_choice hZ S a1 (F1_choice a1) rfl) cw_X1_29 ⟨by dsimp only; omega, by dsimp only; omega⟩ rfl hl.1 rfl (Nat.le_of_ble_eq_true rfl) ⟨Nat.le_refl _, Nat.le_refl _⟩ dX1_by_5 (fun H locs hw => ?_)
  refine lv_iconst hx hb dX1_by_8 ki_0 ?_
  refine lv_aload_n hx hb dX1_by_9 rfl (lv_at hl 0 rfl) ?_
  refine gI G hw h0 KX1 6 (by decide) rfl fl_X1_39 dX1_by_10 ?_
  obtain ⟨S_1, hS_1, hf⟩ := bL_e hf
  refine kVv (rest := []) G hw (wX0_askThrow hZ S (k0 + 2) (F1_choice a1) 0 (S k0 6) S_1 (sub_Chances_arms hZ h0) hS_1.symm) cw_X1_84 (sub_Chances_arms hZ h0) KX0 ⟨by dsimp only; omega, by dsimp only; omega⟩ rfl hl.1 rfl (Nat.le_of_ble_eq_true rfl) ⟨Nat.le_refl _, Nat.le_refl _⟩ dX1_by_13 (fun H locs hw => ?_)
  refine lv_aload_n hx hb dX1_by_16 rfl (lv_at hl 0 rfl) ?_
  refine gF G hw h0 KX1 3 (k2 := (k0 + 2)) rfl (by decide) rfl fl_X1_18 dX1_by_17 ?_
  refine lv_iload_n hx hb dX1_by_20 rfl (lv_at hl 3 rfl) ?_
  refine lv_aload_n hx hb dX1_by_21 rfl (lv_at hl 0 rfl) ?_
  refine gI G hw h0 KX1 8 (by decide) rfl fl_X1_57 dX1_by_22 ?_
  refine lv_iload_n hx hb dX1_by_25 rfl (lv_at hl 2 rfl) ?_
  refine lv_isub hx hb dX1_by_26 ?_
  obtain ⟨S_2, hS_2, hf⟩ := bL_e hf
  refine kVv (rest := []) G hw (wX0_askState hZ S_1 (k0 + 2) a3 ((S_1 k0 8) - a2) S_2 (sub_Chances_arms hZ h0) hS_2.symm) cw_X1_88 (sub_Chances_arms hZ h0) KX0 ⟨by dsimp only; omega, by dsimp only; omega⟩ rfl hl.1 rfl (Nat.le_of_ble_eq_true rfl) ⟨Nat.le_refl _, Nat.le_refl _⟩ dX1_by_27 (fun H locs hw => ?_)
  refine lv_iload_n hx hb dX1_by_30 rfl (lv_at hl 1 rfl) ?_
  obtain ⟨j72, ej, hf⟩ := bL_e hf
  have R72 : ∀ (t_3 : Int32) (S_4 : pS) (H : Heap) (locs : List Loc) (ls : Array Slot), Wd Z s S_4 H locs → lv_has ls 6 [(0, .ref (za Z k0)), (2, .int a2), (3, .int a3)] → j72 t_3 S_4 = some (r, S2) → W p l e { frames := (fr + 1), cells := 0, slots := 0, locals := (lo + 60) } s m args below meth c H locs 0 0 Q (F0 m 72 ls [.int t_3]) := by
    intro t_3 S_4 H locs ls hw hl hf
    have hf := (congrFun (congrFun ej t_3) S_4).symm.trans hf
    refine lv_istore (lv' := [(4, .int t_3), (0, .ref (za Z k0)), (2, .int a2), (3, .int a3)]) hx hb dX1_by_72 hl (by decide) rfl (fun ls hl => ?_)
    refine lv_aload_n hx hb dX1_by_74 rfl (lv_at hl 1 rfl) ?_
    refine lv_iload_n hx hb dX1_by_75 rfl (lv_at hl 2 rfl) ?_
    refine lv_iconst hx hb dX1_by_76 ki_1 ?_
    refine lv_isub hx hb dX1_by_77 ?_
    refine lv_sipush hx hb dX1_by_78 ks_1000 ?_
    refine lv_iload_n hx hb dX1_by_81 rfl (lv_at hl 3 rfl) ?_
    refine lv_aload_n hx hb dX1_by_82 rfl (lv_at hl 1 rfl) ?_
    refine gF G hw h0 KX1 3 (k2 := (k0 + 2)) rfl (by decide) rfl fl_X1_18 dX1_by_83 ?_
    refine lv_aload_n hx hb dX1_by_86 rfl (lv_at hl 1 rfl) ?_
    obtain ⟨hg1, hf⟩ := bG_e hf
    refine gMs G hw h0 KX1 5 (by decide) rfl hg1 fl_X1_36 dX1_by_87 ?_
    refine lv_iconst hx hb dX1_by_90 ki_1 ?_
    obtain ⟨r_5, S_6, hr_5, hf⟩ := bB2_e hf
    refine kVi (rest := [.int a3, .int 1000, .int (a2 - 1), .ref (za Z k0)]) G hw (wX0_tell hZ S_4 (k0 + 2) 15 1 r_5 S_6 (sub_Chances_arms hZ h0) h15 hr_5) cw_X1_93 (sub_Chances_arms hZ h0) KX0 ⟨by dsimp only; omega, by dsimp only; omega⟩ rfl hl.1 rfl (Nat.le_of_ble_eq_true rfl) ⟨Nat.le_refl _, Nat.le_refl _⟩ dX1_by_91 (fun H locs hw => ?_)
    refine lv_iadd hx hb dX1_by_94 ?_
    refine xmin G hl.1 ml_X1_97 (Nat.le_of_ble_eq_true rfl) (Nat.le_of_ble_eq_true rfl) ⟨Nat.le_refl _, Nat.le_refl _⟩ dX1_by_95 ?_
    obtain ⟨r_7, S_8, hr_7, hf⟩ := bB2_e hf
    refine kVi (rest := []) G hw (hr_greatest S_6 k0 (a2 - 1) (jmin 1000 (a3 + r_5)) r_7 S_8 h0 h15 hr_7) cw_X1_103 h0 KX1 ⟨by dsimp only; omega, by dsimp only; omega⟩ rfl hl.1 rfl (Nat.le_of_ble_eq_true rfl) ⟨Nat.le_refl _, Nat.le_refl _⟩ dX1_by_98 (fun H locs hw => ?_)
    refine lv_istore (lv' := [(5, .int r_7), (4, .int t_3), (0, .ref (za Z k0)), (2, .int a2), (3, .int a3)]) hx hb dX1_by_101 hl (by decide) rfl (fun ls hl => ?_)
    refine lv_iload hx hb dX1_by_103 (lv_at hl 1 rfl) ?_
    refine lv_ldc hx hb hown (hts _ cn_X1_92) dX1_by_105 ?_
    refine lv_iload hx hb dX1_by_107 (lv_at hl 1 rfl) ?_
    refine lv_isub hx hb dX1_by_109 ?_
    refine lv_i2l hx hb dX1_by_110 rfl ?_
    refine lv_iload hx hb dX1_by_111 (lv_at hl 0 rfl) ?_
    refine lv_i2l hx hb dX1_by_113 rfl ?_
    refine lv_lmul hx hb dX1_by_114 ?_
    refine lv_ldc2 hx hb hown (hts _ cl_X1_106) dX1_by_115 ?_
    refine lv_ldiv hx hb dX1_by_118 (by decide) ?_
    refine lv_l2i hx hb dX1_by_119 rfl ?_
    refine lv_iadd hx hb dX1_by_120 ?_
    obtain ⟨e1, e2⟩ := Prod.mk.inj (Option.some.inj hf)
    exact hret _ _ _ _ _ dX1_by_121 e1 (by rw [← e2]; exact hw)
  clear ej
  obtain ⟨j71, ej, hf⟩ := bL_e hf
  have R71 : ∀ (H : Heap) (locs : List Loc) (ls : Array Slot), Wd Z s S_2 H locs → lv_has ls 6 [(0, .ref (za Z k0)), (2, .int a2), (3, .int a3)] → j71 () = some (r, S2) → W p l e { frames := (fr + 1), cells := 0, slots := 0, locals := (lo + 60) } s m args below meth c H locs 0 0 Q (F0 m 71 ls []) := by
    intro  H locs ls hw hl hf
    have hf := (congrFun ej ()).symm.trans hf
    refine lv_iconst hx hb dX1_by_71 ki_0 ?_
    exact R72 _ _ _ _ _ hw (lv_sub hl [0, 1, 2] rfl) hf
  clear ej
  refine lv_if_lt (tgt := 71) hx hb dX1_by_31 (by decide) (fun c_14 => ?_) (fun c_14 => ?_)
  · have hf := (if_pos c_14).symm.trans hf
    exact R71 _ _ _ hw (lv_sub hl [0, 2, 3] rfl) hf
  · have hf := (if_neg c_14).symm.trans hf
    refine lv_iload_n hx hb dX1_by_34 rfl (lv_at hl 1 rfl) ?_
    refine lv_bipush hx hb dX1_by_35 kb_10 ?_
    refine lv_icmp_ge (tgt := 71) hx hb dX1_by_37 (by decide) (fun c_13 => ?_) (fun c_13 => ?_)
    · have hf := (if_pos c_13).symm.trans hf
      exact R71 _ _ _ hw (lv_sub hl [0, 2, 3] rfl) hf
    · have hf := (if_neg c_13).symm.trans hf
      refine lv_aload_n hx hb dX1_by_40 rfl (lv_at hl 0 rfl) ?_
      refine gF G hw h0 KX1 0 (k2 := (k0 + 1)) rfl (by decide) rfl fl_X1_11 dX1_by_41 ?_
      refine lv_iload_n hx hb dX1_by_44 rfl (lv_at hl 1 rfl) ?_
      obtain ⟨hg_9, hf⟩ := bG_e hf
      refine aZ G hw (sub_Chances_reaches hZ h0) hg_9 (j := a1.toNatClampNeg) rfl dX1_by_45 ?_
      refine lv_if_eq (tgt := 71) hx hb dX1_by_46 (by decide) (fun c_12 => ?_) (fun c_12 => ?_)
      · have hf := (if_pos c_12).symm.trans hf
        exact R71 _ _ _ hw (lv_sub hl [0, 2, 3] rfl) hf
      · have hf := (if_neg c_12).symm.trans hf
        refine lv_ldc hx hb hown (hts _ cn_X1_92) dX1_by_49 ?_
        refine lv_sipush hx hb dX1_by_51 ks_1000 ?_
        refine lv_aload_n hx hb dX1_by_54 rfl (lv_at hl 0 rfl) ?_
        refine gF G hw h0 KX1 3 (k2 := (k0 + 2)) rfl (by decide) rfl fl_X1_18 dX1_by_55 ?_
        refine lv_aload_n hx hb dX1_by_58 rfl (lv_at hl 0 rfl) ?_
        obtain ⟨hg1, hf⟩ := bG_e hf
        refine gMs G hw h0 KX1 5 (by decide) rfl hg1 fl_X1_36 dX1_by_59 ?_
        refine lv_iconst hx hb dX1_by_62 ki_0 ?_
        obtain ⟨r_10, S_11, hr_10, hf⟩ := bB2_e hf
        refine kVi (rest := [.int 1000, .int 1000000]) G hw (wX0_tell hZ S_2 (k0 + 2) 15 0 r_10 S_11 (sub_Chances_arms hZ h0) h15 hr_10) cw_X1_93 (sub_Chances_arms hZ h0) KX0 ⟨by dsimp only; omega, by dsimp only; omega⟩ rfl hl.1 rfl (Nat.le_of_ble_eq_true rfl) ⟨Nat.le_refl _, Nat.le_refl _⟩ dX1_by_63 (fun H locs hw => ?_)
        refine lv_imul hx hb dX1_by_66 ?_
        refine lv_isub hx hb dX1_by_67 ?_
        refine lv_goto (tgt := 72) hx hb dX1_by_68 (by decide) ?_
        exact R72 _ _ _ _ _ hw (lv_sub hl [0, 2, 3] rfl) hf
set_option maxHeartbeats 4000000 in
theorem tT1_greatest {l : Launch} {Z : pZ} (hZ : CC Z) : ∀ d : Nat, (∀ (S : pS) (k0 : Nat) (a1 : Int32) (a2 : Int32) (r : Int32) (S2 : pS), isA Z K_Chances k0 → isA Z K_Law 15 → (T1_greatest d).1 S k0 a1 a2 = some (r, S2) → CI l Z yX1_greatest cX1_greatest 5 .int (rF 7 d) (rL 154 d) [.ref (za Z k0), .int a1, .int a2] S r S2) ∧ (∀ (S : pS) (k0 : Nat) (a1 : Int32) (a2 : Int32) (a3 : Int32) (r : Int32) (S2 : pS), isA Z K_Chances k0 → isA Z K_Law 15 → (T1_greatest d).2 S k0 a1 a2 a3 = some (r, S2) → CI l Z yX1_by cX1_by 6 .int (rF 7 d) (rL 154 d) [.ref (za Z k0), .int a1, .int a2, .int a3] S r S2) := by
  intro d
  induction d with
  | zero => exact ⟨(fun _ _ _ _ _ _ _ _ h => (nomatch h)), (fun _ _ _ _ _ _ _ _ _ h => (nomatch h))⟩
  | succ d ih => exact ⟨(fun S k0 a1 a2 r S2 h0 h15 h => wBX1_greatest (hfr := Nat.le_trans (Nat.le_of_ble_eq_true rfl) (rF_le 7 d)) (hlo := Nat.le_trans (Nat.le_of_ble_eq_true rfl) (rL_le 154 d)) (hr_by := (ih).2) hZ S k0 a1 a2 r S2 h0 h15 h), (fun S k0 a1 a2 a3 r S2 h0 h15 h => wBX1_by (hfr := Nat.le_trans (Nat.le_of_ble_eq_true rfl) (rF_le 7 d)) (hlo := Nat.le_trans (Nat.le_of_ble_eq_true rfl) (rL_le 154 d)) (hr_greatest := (ih).1) hZ S k0 a1 a2 a3 r S2 h0 h15 h)⟩
theorem wX1_greatest {l : Launch} {Z : pZ} (hZ : CC Z) (S : pS) (k0 : Nat) (a1 : Int32) (a2 : Int32) (r : Int32) (S2 : pS) (h0 : isA Z K_Chances k0) (h15 : isA Z K_Law 15) (hf : F1_greatest S k0 a1 a2 = some (r, S2)) : CI l Z yX1_greatest cX1_greatest 5 .int 47 2554 [.ref (za Z k0), .int a1, .int a2] S r S2 := (tT1_greatest hZ 40).1 S k0 a1 a2 r S2 h0 h15 hf
theorem wX1_by {l : Launch} {Z : pZ} (hZ : CC Z) (S : pS) (k0 : Nat) (a1 : Int32) (a2 : Int32) (a3 : Int32) (r : Int32) (S2 : pS) (h0 : isA Z K_Chances k0) (h15 : isA Z K_Law 15) (hf : F1_by S k0 a1 a2 a3 = some (r, S2)) : CI l Z yX1_by cX1_by 6 .int 47 2554 [.ref (za Z k0), .int a1, .int a2, .int a3] S r S2 := (tT1_greatest hZ 40).2 S k0 a1 a2 a3 r S2 h0 h15 hf
noncomputable def F1_upTo (a0 : Int32) : Option (Int32) :=
  bL (fun (l1_1 : Int32) =>
    some l1_1) fun g22_2 =>
  bL (u1 fun (l1_2 : Int32) =>
    if 10 ≤ l1_2 then
      some (.inr l1_2)
    else
      if a0 < (F1_choice l1_2) then
        some (.inr l1_2)
      else
        bL (l1_2 + 1) fun l1_4 =>
        some (.inl l1_4)) fun b2 =>
  bB (bP b2 (0 : Int32)) (u1 g22_2)
set_option maxRecDepth 100000 in
set_option maxHeartbeats 4000000 in
theorem wX1_upTo {l : Launch} {Z : pZ}  (hZ : CC Z) (S : pS) (a0 : Int32) (r : Int32)  (hf : F1_upTo a0 = some r) : CI l Z yX1_upTo cX1_upTo 2 .int 4 80 [.int a0] S r S := by
  unfold F1_upTo at hf
  refine eI (own := RX1) (by decide) rfl (Nat.le_of_ble_eq_true rfl) (fun p e s m args below meth c Q ls G hl hw hret => ?_)
  obtain ⟨hx, hb, hml, hown, hts⟩ := G.1
  have hl : lv_has ls 2 [(0, .int a0)] := hl
  refine lv_iconst hx hb dX1_upTo_0 ki_0 ?_
  refine lv_istore_n (lv' := [(1, .int 0), (0, .int a0)]) hx hb dX1_upTo_1 rfl hl (by decide) rfl (fun ls hl => ?_)
  obtain ⟨g22_2, ej, hf⟩ := bL_e hf
  have R22_2 : ∀ (l1_1 : Int32) (H : Heap) (locs : List Loc) (ls : Array Slot), Wd Z s S H locs → lv_has ls 2 [(1, .int l1_1)] → g22_2 l1_1 = some r → W p l e { frames := 4, cells := 0, slots := 0, locals := 80 } s m args below meth c H locs 0 0 Q (F0 m 22 ls []) := by
    intro l1_1 H locs ls hw hl hf
    have hf := (congrFun ej l1_1).symm.trans hf
    refine lv_iload_n hx hb dX1_upTo_22 rfl (lv_at hl 0 rfl) ?_
    exact hret _ _ _ _ _ dX1_upTo_23 (Option.some.inj hf) hw
  clear ej
  obtain ⟨b2, eb, hf⟩ := bL_e hf
  have RL2 : ∀ (n : Nat) z, (u1 g22_2) z = some r → ∀ (l1_2 : Int32) (H : Heap) (locs : List Loc) (ls : Array Slot), Wd Z s S H locs → lv_has ls 2 [(0, .int a0), (1, .int l1_2)] → bPn b2 n l1_2 = some z → W p l e { frames := 4, cells := 0, slots := 0, locals := 80 } s m args below meth c H locs 0 0 Q (F0 m 2 ls []) := by
    intro n
    induction n with
    | zero =>
      intro z hg l1_2 H locs ls hw hl hz
      exact bPn_0 hz
    | succ n ih =>
      intro z hg l1_2 H locs ls hw hl hz
      obtain ⟨q_3, hf, hz⟩ := bPn_e hz
      have hf := u1_e ((congrFun eb _).symm.trans hf)
      refine lv_iload_n hx hb dX1_upTo_2 rfl (lv_at hl 1 rfl) ?_
      refine lv_bipush hx hb dX1_upTo_3 kb_10 ?_
      refine lv_icmp_ge (tgt := 22) hx hb dX1_upTo_5 (by decide) (fun c_6 => ?_) (fun c_6 => ?_)
      · have hf := (if_pos c_6).symm.trans hf
        obtain rfl := Option.some.inj hf
        obtain rfl := Option.some.inj (hz : some _ = some _)
        exact R22_2 _ _ _ _ hw (lv_sub hl [1] rfl) hg
      · have hf := (if_neg c_6).symm.trans hf
        refine lv_iload_n hx hb dX1_upTo_8 rfl (lv_at hl 1 rfl) ?_
        refine kSi (rest := []) G hw (wX1_choice hZ S l1_2 (F1_choice l1_2) rfl) cw_X1_29 ⟨Nat.le_of_ble_eq_true rfl, Nat.le_of_ble_eq_true rfl⟩ rfl hl.1 rfl (Nat.le_of_ble_eq_true rfl) ⟨Nat.le_refl _, Nat.le_refl _⟩ dX1_upTo_9 (fun H locs hw => ?_)
        refine lv_iload_n hx hb dX1_upTo_12 rfl (lv_at hl 0 rfl) ?_
        refine lv_icmp_gt (tgt := 22) hx hb dX1_upTo_13 (by decide) (fun c_5 => ?_) (fun c_5 => ?_)
        · have hf := (if_pos c_5).symm.trans hf
          obtain rfl := Option.some.inj hf
          obtain rfl := Option.some.inj (hz : some _ = some _)
          exact R22_2 _ _ _ _ hw (lv_sub hl [1] rfl) hg
        · have hf := (if_neg c_5).symm.trans hf
          obtain ⟨l1_4, el1_4, hf⟩ := bL_e hf
          refine lv_iinc (v := l1_4) (lv' := [(1, .int l1_4), (0, .int a0)]) hx hb dX1_upTo_16 hl (k := 1) rfl (by rw [el1_4]; rfl) (by decide) rfl (fun ls hl => ?_)
          refine lv_goto (tgt := 2) hx hb dX1_upTo_19 (by decide) ?_
          obtain rfl := Option.some.inj hf
          exact ih _ hg _ _ _ _ hw (lv_sub hl [1, 0] rfl) hz
  clear eb
  obtain ⟨z, hz, hf⟩ := bB_e hf
  obtain ⟨n, hz⟩ := bP_e hz
  exact RL2 n z hf _ _ _ _ hw (lv_sub hl [1, 0] rfl) hz
noncomputable def FJ7_fill_53178 (S : pS) (k0 : Nat) (n0 : Nat) (a1 : Int32) : Option (pS) :=
  bL (nI n0) fun l3_1 =>
  bL (fun (S_2 : pS) =>
    some S_2) fun g20_5 =>
  bL (u2 fun (l2_3 : Int32) (S_4 : pS) =>
    if l3_1 ≤ l2_3 then
      some (.inr S_4)
    else
      bG (vp_in l2_3 n0) <|
      bL (sU S_4 k0 l2_3.toNatClampNeg a1) fun S_7 =>
      bL (l2_3 + 1) fun l2_8 =>
      some (.inl (l2_8, S_7))) fun b5 =>
  bB (bP b5 ((0 : Int32), S)) (u1 g20_5)
set_option maxRecDepth 100000 in
set_option maxHeartbeats 4000000 in
theorem wJ7_fill_53178 {l : Launch} {Z : pZ}  (hZ : CC Z) (S : pS) (k0 : Nat) (n0 : Nat) (a1 : Int32) (S2 : pS) (h0 : isA Z (.inl (0, n0)) k0) (hf : FJ7_fill_53178 S k0 n0 a1 = some S2) : CV l Z yJ7_fill_53178 cJ7_fill_53178 4 3 60 [.ref (za Z k0), .int a1] S S2 := by
  unfold FJ7_fill_53178 at hf
  refine eV (own := RJ7) (by decide) rfl (Nat.le_of_ble_eq_true rfl) (fun p e s m args below meth c Q ls G hl hw hret => ?_)
  obtain ⟨hx, hb, hml, hown, hts⟩ := G.1
  have hl : lv_has ls 4 [(0, .ref (za Z k0)), (1, .int a1)] := hl
  refine lv_iconst hx hb dJ7_fill_53178_0 ki_0 ?_
  refine lv_istore_n (lv' := [(2, .int 0), (0, .ref (za Z k0)), (1, .int a1)]) hx hb dJ7_fill_53178_1 rfl hl (by decide) rfl (fun ls hl => ?_)
  refine lv_aload_n hx hb dJ7_fill_53178_2 rfl (lv_at hl 1 rfl) ?_
  refine aL G hw (t := 0) h0 rfl (v := nI n0) rfl dJ7_fill_53178_3 ?_
  obtain ⟨l3_1, el3_1, hf⟩ := bL_e hf
  refine top_i el3_1 ?_
  refine lv_istore_n (lv' := [(3, .int l3_1), (2, .int 0), (0, .ref (za Z k0)), (1, .int a1)]) hx hb dJ7_fill_53178_4 rfl hl (by decide) rfl (fun ls hl => ?_)
  obtain ⟨g20_5, ej, hf⟩ := bL_e hf
  have R20_5 : ∀ (S_2 : pS) (H : Heap) (locs : List Loc) (ls : Array Slot), Wd Z s S_2 H locs → lv_has ls 4 [] → g20_5 S_2 = some S2 → W p l e { frames := 3, cells := 0, slots := 0, locals := 60 } s m args below meth c H locs 0 0 Q (F0 m 20 ls []) := by
    intro S_2 H locs ls hw hl hf
    have hf := (congrFun ej S_2).symm.trans hf
    exact hret _ _ _ _ dJ7_fill_53178_20 (by rw [← (Option.some.inj hf)]; exact hw)
  clear ej
  obtain ⟨b5, eb, hf⟩ := bL_e hf
  have RL5 : ∀ (n : Nat) z, (u1 g20_5) z = some S2 → ∀ (l2_3 : Int32) (S_4 : pS) (H : Heap) (locs : List Loc) (ls : Array Slot), Wd Z s S_4 H locs → lv_has ls 4 [(0, .ref (za Z k0)), (1, .int a1), (2, .int l2_3), (3, .int l3_1)] → bPn b5 n (l2_3, S_4) = some z → W p l e { frames := 3, cells := 0, slots := 0, locals := 60 } s m args below meth c H locs 0 0 Q (F0 m 5 ls []) := by
    intro n
    induction n with
    | zero =>
      intro z hg l2_3 S_4 H locs ls hw hl hz
      exact bPn_0 hz
    | succ n ih =>
      intro z hg l2_3 S_4 H locs ls hw hl hz
      obtain ⟨q_5, hf, hz⟩ := bPn_e hz
      have hf := u2_e ((congrFun eb _).symm.trans hf)
      refine lv_iload_n hx hb dJ7_fill_53178_5 rfl (lv_at hl 2 rfl) ?_
      refine lv_iload_n hx hb dJ7_fill_53178_6 rfl (lv_at hl 3 rfl) ?_
      refine lv_icmp_ge (tgt := 20) hx hb dJ7_fill_53178_7 (by decide) (fun c_9 => ?_) (fun c_9 => ?_)
      · have hf := (if_pos c_9).symm.trans hf
        obtain rfl := Option.some.inj hf
        obtain rfl := Option.some.inj (hz : some _ = some _)
        exact R20_5 _ _ _ _ hw (lv_sub hl [] rfl) hg
      · have hf := (if_neg c_9).symm.trans hf
        refine lv_aload_n hx hb dJ7_fill_53178_10 rfl (lv_at hl 0 rfl) ?_
        refine lv_iload_n hx hb dJ7_fill_53178_11 rfl (lv_at hl 2 rfl) ?_
        refine lv_iload_n hx hb dJ7_fill_53178_12 rfl (lv_at hl 1 rfl) ?_
        obtain ⟨hg_6, hf⟩ := bG_e hf
        obtain ⟨S_7, eS_7, hf⟩ := bL_e hf
        refine sI G hw h0 hg_6 (j := l2_3.toNatClampNeg) rfl eS_7 dJ7_fill_53178_13 (fun H locs hw => ?_)
        obtain ⟨l2_8, el2_8, hf⟩ := bL_e hf
        refine lv_iinc (v := l2_8) (lv' := [(2, .int l2_8), (0, .ref (za Z k0)), (1, .int a1), (3, .int l3_1)]) hx hb dJ7_fill_53178_14 hl (k := 2) rfl (by rw [el2_8]; rfl) (by decide) rfl (fun ls hl => ?_)
        refine lv_goto (tgt := 5) hx hb dJ7_fill_53178_17 (by decide) ?_
        obtain rfl := Option.some.inj hf
        exact ih _ hg _ _ _ _ _ hw (lv_sub hl [1, 2, 0, 3] rfl) hz
  clear eb
  obtain ⟨z, hz, hf⟩ := bB_e hf
  obtain ⟨n, hz⟩ := bP_e hz
  exact RL5 n z hf _ _ _ _ _ hw (lv_sub hl [2, 3, 1, 0] rfl) hz

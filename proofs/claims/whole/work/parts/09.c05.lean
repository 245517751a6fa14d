noncomputable def F10_beginMeet (S : pS) (k0 : Nat) : Option (pS) :=
  bL (sU S k0 2 0) fun S_1 =>
  bL (sU S_1 k0 3 0) fun S_2 =>
  bL (fun (S_3 : pS) =>
    some S_3) fun g41_12 =>
  bL (u2 fun (l1_4 : Int32) (S_5 : pS) =>
    if (S_5 k0 5) ≤ l1_4 then
      some (.inr S_5)
    else
      if 8 ≤ l1_4 then
        some (.inr S_5)
      else
        bG (vp_in l1_4 8) <|
        bL (F8_beginMeet S_5 ((k0 + 28) + 2 * l1_4.toNatClampNeg)) fun S_8 =>
        bL (l1_4 + 1) fun l1_9 =>
        some (.inl (l1_9, S_8))) fun b12 =>
  bB (bP b12 ((0 : Int32), S_2)) (u1 g41_12)
set_option maxRecDepth 100000 in
set_option maxHeartbeats 4000000 in
theorem wX10_beginMeet {l : Launch} {Z : pZ}  (hZ : CC Z) (S : pS) (k0 : Nat) (S2 : pS) (h0 : isA Z K_World k0) (hf : F10_beginMeet S k0 = some S2) : CV l Z yX10_beginMeet cX10_beginMeet 2 4 80 [.ref (za Z k0)] S S2 := by
  unfold F10_beginMeet at hf
  refine eV (own := RX10) (by decide) rfl (Nat.le_of_ble_eq_true rfl) (fun p e s m args below meth c Q ls G hl hw hret => ?_)
  obtain ⟨hx, hb, hml, hown, hts⟩ := G.1
  have hl : lv_has ls 2 [(0, .ref (za Z k0))] := hl
  refine lv_aload_n hx hb dX10_beginMeet_0 rfl (lv_at hl 0 rfl) ?_
  refine lv_iconst hx hb dX10_beginMeet_1 ki_0 ?_
  obtain ⟨S_1, eS_1, hf⟩ := bL_e hf
  refine pI G hw h0 KX10 2 (by decide) rfl rfl rfl eS_1 fl_X10_54 dX10_beginMeet_2 (fun H locs hw => ?_)
  refine lv_aload_n hx hb dX10_beginMeet_5 rfl (lv_at hl 0 rfl) ?_
  refine lv_iconst hx hb dX10_beginMeet_6 ki_0 ?_
  obtain ⟨S_2, eS_2, hf⟩ := bL_e hf
  refine pI G hw h0 KX10 3 (by decide) rfl rfl rfl eS_2 fl_X10_57 dX10_beginMeet_7 (fun H locs hw => ?_)
  refine lv_iconst hx hb dX10_beginMeet_10 ki_0 ?_
  refine lv_istore_n (lv' := [(1, .int 0), (0, .ref (za Z k0))]) hx hb dX10_beginMeet_11 rfl hl (by decide) rfl (fun ls hl => ?_)
  obtain ⟨g41_12, ej, hf⟩ := bL_e hf
  have R41_12 : ∀ (S_3 : pS) (H : Heap) (locs : List Loc) (ls : Array Slot), Wd Z s S_3 H locs → lv_has ls 2 [] → g41_12 S_3 = some S2 → W p l e { frames := 4, cells := 0, slots := 0, locals := 80 } s m args below meth c H locs 0 0 Q (F0 m 41 ls []) := by
    intro S_3 H locs ls hw hl hf
    have hf := (congrFun ej S_3).symm.trans hf
    exact hret _ _ _ _ dX10_beginMeet_41 (by rw [← (Option.some.inj hf)]; exact hw)
  clear ej
  obtain ⟨b12, eb, hf⟩ := bL_e hf
  have RL12 : ∀ (n : Nat) z, (u1 g41_12) z = some S2 → ∀ (l1_4 : Int32) (S_5 : pS) (H : Heap) (locs : List Loc) (ls : Array Slot), Wd Z s S_5 H locs → lv_has ls 2 [(0, .ref (za Z k0)), (1, .int l1_4)] → bPn b12 n (l1_4, S_5) = some z → W p l e { frames := 4, cells := 0, slots := 0, locals := 80 } s m args below meth c H locs 0 0 Q (F0 m 12 ls []) := by
    intro n
    induction n with
    | zero =>
      intro z hg l1_4 S_5 H locs ls hw hl hz
      exact bPn_0 hz
    | succ n ih =>
      intro z hg l1_4 S_5 H locs ls hw hl hz
      obtain ⟨q_6, hf, hz⟩ := bPn_e hz
      have hf := u2_e ((congrFun eb _).symm.trans hf)
      refine lv_iload_n hx hb dX10_beginMeet_12 rfl (lv_at hl 1 rfl) ?_
      refine lv_aload_n hx hb dX10_beginMeet_13 rfl (lv_at hl 0 rfl) ?_
      refine gI G hw h0 KX10 5 (by decide) rfl fl_X10_63 dX10_beginMeet_14 ?_
      refine lv_icmp_ge (tgt := 41) hx hb dX10_beginMeet_17 (by decide) (fun c_11 => ?_) (fun c_11 => ?_)
      · have hf := (if_pos c_11).symm.trans hf
        obtain rfl := Option.some.inj hf
        obtain rfl := Option.some.inj (hz : some _ = some _)
        exact R41_12 _ _ _ _ hw (lv_sub hl [] rfl) hg
      · have hf := (if_neg c_11).symm.trans hf
        refine lv_iload_n hx hb dX10_beginMeet_20 rfl (lv_at hl 1 rfl) ?_
        refine lv_bipush hx hb dX10_beginMeet_21 kb_8 ?_
        refine lv_icmp_ge (tgt := 41) hx hb dX10_beginMeet_23 (by decide) (fun c_10 => ?_) (fun c_10 => ?_)
        · have hf := (if_pos c_10).symm.trans hf
          obtain rfl := Option.some.inj hf
          obtain rfl := Option.some.inj (hz : some _ = some _)
          exact R41_12 _ _ _ _ hw (lv_sub hl [] rfl) hg
        · have hf := (if_neg c_10).symm.trans hf
          refine lv_aload_n hx hb dX10_beginMeet_26 rfl (lv_at hl 0 rfl) ?_
          refine gF G hw h0 KX10 11 (k2 := (k0 + 4)) rfl (by decide) rfl fl_X10_23 dX10_beginMeet_27 ?_
          refine lv_iload_n hx hb dX10_beginMeet_30 rfl (lv_at hl 1 rfl) ?_
          obtain ⟨hg_7, hf⟩ := bG_e hf
          refine aR G hw (sub_World_team hZ h0) hg_7 (j := l1_4.toNatClampNeg) (k2 := ((k0 + 28) + 2 * l1_4.toNatClampNeg)) rfl rfl dX10_beginMeet_31 ?_
          obtain ⟨S_8, hS_8, hf⟩ := bL_e hf
          refine kVv (rest := []) G hw (wX8_beginMeet hZ S_5 ((k0 + 28) + 2 * l1_4.toNatClampNeg) S_8 (tm hZ (sub_World_team hZ h0) (vin_lt hg_7)) hS_8.symm) cw_X10_97 (tm hZ (sub_World_team hZ h0) (vin_lt hg_7)) KX8 ⟨Nat.le_of_ble_eq_true rfl, Nat.le_of_ble_eq_true rfl⟩ rfl hl.1 rfl (Nat.le_of_ble_eq_true rfl) ⟨Nat.le_refl _, Nat.le_refl _⟩ dX10_beginMeet_32 (fun H locs hw => ?_)
          obtain ⟨l1_9, el1_9, hf⟩ := bL_e hf
          refine lv_iinc (v := l1_9) (lv' := [(1, .int l1_9), (0, .ref (za Z k0))]) hx hb dX10_beginMeet_35 hl (k := 1) rfl (by rw [el1_9]; rfl) (by decide) rfl (fun ls hl => ?_)
          refine lv_goto (tgt := 12) hx hb dX10_beginMeet_38 (by decide) ?_
          obtain rfl := Option.some.inj hf
          exact ih _ hg _ _ _ _ _ hw (lv_sub hl [1, 0] rfl) hz
  clear eb
  obtain ⟨z, hz, hf⟩ := bB_e hf
  obtain ⟨n, hz⟩ := bP_e hz
  exact RL12 n z hf _ _ _ _ _ hw (lv_sub hl [1, 0] rfl) hz
noncomputable def F11_meet (S : pS) : Option (pS) :=
  bL (F4_forget S 65) fun S_1 =>
  bB (F10_beginMeet S_1 1) fun S_2 =>
  some S_2
set_option maxRecDepth 100000 in
set_option maxHeartbeats 4000000 in
theorem wX11_meet {l : Launch} {Z : pZ}  (hZ : CC Z) (S : pS)  (S2 : pS) (h0 : isA Z K_PF 0) (hf : F11_meet S = some S2) : CV l Z yX11_meet cX11_meet 1 5 101 [.ref (za Z 0)] S S2 := by
  unfold F11_meet at hf
  refine eV (own := RX11) (by decide) rfl (Nat.le_of_ble_eq_true rfl) (fun p e s m args below meth c Q ls G hl hw hret => ?_)
  obtain ⟨hx, hb, hml, hown, hts⟩ := G.1
  have hl : lv_has ls 1 [(0, .ref (za Z 0))] := hl
  refine lv_aload_n hx hb dX11_meet_0 rfl (lv_at hl 0 rfl) ?_
  refine gF G hw h0 KX11 4 (k2 := 65) rfl (by decide) rfl fl_X11_40 dX11_meet_1 ?_
  obtain ⟨S_1, hS_1, hf⟩ := bL_e hf
  refine kVv (rest := []) G hw (wX4_forget hZ S 65 S_1 (sub_PF_past hZ h0) hS_1.symm) cw_X11_48 (sub_PF_past hZ h0) KX4 ⟨Nat.le_of_ble_eq_true rfl, Nat.le_of_ble_eq_true rfl⟩ rfl hl.1 rfl (Nat.le_of_ble_eq_true rfl) ⟨Nat.le_refl _, Nat.le_refl _⟩ dX11_meet_4 (fun H locs hw => ?_)
  refine lv_aload_n hx hb dX11_meet_7 rfl (lv_at hl 0 rfl) ?_
  refine gF G hw h0 KX11 0 (k2 := 1) rfl (by decide) rfl fl_X11_10 dX11_meet_8 ?_
  obtain ⟨S_2, hS_2, hf⟩ := bB_e hf
  refine kVv (rest := []) G hw (wX10_beginMeet hZ S_1 1 S_2 (sub_PF_now hZ h0) hS_2) cw_X11_275 (sub_PF_now hZ h0) KX10 ⟨Nat.le_of_ble_eq_true rfl, Nat.le_of_ble_eq_true rfl⟩ rfl hl.1 rfl (Nat.le_of_ble_eq_true rfl) ⟨Nat.le_refl _, Nat.le_refl _⟩ dX11_meet_11 (fun H locs hw => ?_)
  exact hret _ _ _ _ dX11_meet_14 (by rw [← (Option.some.inj hf)]; exact hw)
noncomputable def F11_mend (S : pS) (o1 : Option Nat) : Option (pS) :=
  bO o1 (
    some S) fun o_1 =>
  bL (F0_ask S 63 o_1 (S 1 2)) fun S_2 =>
  bB2 (F0_tell S_2 63 15 2) fun r_3 S_4 =>
  bL (sU S_4 o_1 1 (jmax 0 ((S_2 o_1 1) - r_3))) fun S_5 =>
  some S_5
set_option maxRecDepth 100000 in
set_option maxHeartbeats 4000000 in
theorem wX11_mend {l : Launch} {Z : pZ}  (hZ : CC Z) (S : pS) (o1 : Option Nat) (S2 : pS) (h0 : isA Z K_PF 0) (h1 : ∀ x, o1 = some x → isA Z K_Thrower x) (hf : F11_mend S o1 = some S2) : CV l Z yX11_mend cX11_mend 2 7 154 [.ref (za Z 0), va_rf (Option.map (za Z) o1)] S S2 := by
  unfold F11_mend at hf
  refine eV (own := RX11) (by decide) rfl (by cases o1 <;> exact Nat.le_of_ble_eq_true rfl) (fun p e s m args below meth c Q ls G hl hw hret => ?_)
  obtain ⟨hx, hb, hml, hown, hts⟩ := G.1
  have hl : lv_has ls 2 [(0, .ref (za Z 0)), (1, va_rf (Option.map (za Z) o1))] := hl
  refine aldQn hx hb dX11_mend_0 rfl (lv_at hl 1 rfl) ?_
  refine ifnQ (tgt := 47) hx hb dX11_mend_1 (by decide) (fun e_6 => ?_) (fun o_1 e_6 => ?_)
  · subst e_6
    have hf := bO_n rfl hf
    exact hret _ _ _ _ dX11_mend_47 (by rw [← (Option.some.inj hf)]; exact hw)
  · subst e_6
    have hf := bO_s rfl hf
    have ho_1 := h1 _ rfl
    refine lv_aload_n hx hb dX11_mend_4 rfl (lv_at hl 0 rfl) ?_
    refine gF G hw h0 KX11 3 (k2 := 63) rfl (by decide) rfl fl_X11_33 dX11_mend_5 ?_
    refine lv_aload_n hx hb dX11_mend_8 rfl (lv_at hl 1 rfl) ?_
    refine lv_aload_n hx hb dX11_mend_9 rfl (lv_at hl 0 rfl) ?_
    refine gF G hw h0 KX11 0 (k2 := 1) rfl (by decide) rfl fl_X11_10 dX11_mend_10 ?_
    refine gI G hw (sub_PF_now hZ h0) KX10 2 (by decide) rfl fl_X11_205 dX11_mend_13 ?_
    obtain ⟨S_2, hS_2, hf⟩ := bL_e hf
    refine kVv (rest := []) G hw (wX0_ask hZ S 63 o_1 (S 1 2) S_2 (sub_PF_arms hZ h0) ho_1 hS_2.symm) cw_X11_208 (sub_PF_arms hZ h0) KX0 ⟨Nat.le_of_ble_eq_true rfl, Nat.le_of_ble_eq_true rfl⟩ rfl hl.1 rfl (Nat.le_of_ble_eq_true rfl) ⟨Nat.le_refl _, Nat.le_refl _⟩ dX11_mend_16 (fun H locs hw => ?_)
    refine lv_aload_n hx hb dX11_mend_19 rfl (lv_at hl 1 rfl) ?_
    refine lv_iconst hx hb dX11_mend_20 ki_0 ?_
    refine lv_aload_n hx hb dX11_mend_21 rfl (lv_at hl 1 rfl) ?_
    refine gI G hw ho_1 KX8 1 (by decide) rfl fl_X11_89 dX11_mend_22 ?_
    refine lv_aload_n hx hb dX11_mend_25 rfl (lv_at hl 0 rfl) ?_
    refine gF G hw h0 KX11 3 (k2 := 63) rfl (by decide) rfl fl_X11_33 dX11_mend_26 ?_
    refine lv_aload_n hx hb dX11_mend_29 rfl (lv_at hl 0 rfl) ?_
    refine gF G hw h0 KX11 0 (k2 := 1) rfl (by decide) rfl fl_X11_10 dX11_mend_30 ?_
    refine gF G hw (sub_PF_now hZ h0) KX10 15 (k2 := 15) rfl (by decide) rfl fl_X11_124 dX11_mend_33 ?_
    refine lv_iconst hx hb dX11_mend_36 ki_2 ?_
    obtain ⟨r_3, S_4, hr_3, hf⟩ := bB2_e hf
    refine kVi (rest := [.int (S_2 o_1 1), .int 0, .ref (za Z o_1)]) G hw (wX0_tell hZ S_2 63 15 2 r_3 S_4 (sub_PF_arms hZ h0) (sub_World_arms hZ (sub_PF_now hZ h0)) hr_3) cw_X11_216 (sub_PF_arms hZ h0) KX0 ⟨Nat.le_of_ble_eq_true rfl, Nat.le_of_ble_eq_true rfl⟩ rfl hl.1 rfl (Nat.le_of_ble_eq_true rfl) ⟨Nat.le_refl _, Nat.le_refl _⟩ dX11_mend_37 (fun H locs hw => ?_)
    refine lv_isub hx hb dX11_mend_40 ?_
    refine xmax G hl.1 ml_X11_256 (Nat.le_of_ble_eq_true rfl) (Nat.le_of_ble_eq_true rfl) ⟨Nat.le_refl _, Nat.le_refl _⟩ dX11_mend_41 ?_
    obtain ⟨S_5, eS_5, hf⟩ := bL_e hf
    refine pI G hw ho_1 KX8 1 (by decide) rfl rfl rfl eS_5 fl_X11_89 dX11_mend_44 (fun H locs hw => ?_)
    exact hret _ _ _ _ dX11_mend_47 (by rw [← (Option.some.inj hf)]; exact hw)
noncomputable def F11_days (S : pS) (a1 : Int32) : Option (Int32 × pS) :=
  if (F11_within a1 1 100) = 0 then
    some ((0 : Int32), S)
  else
    if ((S 1 1) + a1) ≤ 9999 then
      bL (F4_forget S 65) fun S_1 =>
      bL (fun (S_2 : pS) =>
        some ((1 : Int32), S_2)) fun g91_36 =>
      bL (u2 fun (l2_3 : Int32) (S_4 : pS) =>
        if a1 ≤ l2_3 then
          some (.inr S_4)
        else
          bL (fun (S_6 : pS) =>
            bL (sU S_6 1 1 ((S_6 1 1) + 1)) fun S_7 =>
            bL (l2_3 + 1) fun l2_8 =>
            some (.inl (l2_8, S_7))) fun g72_43 =>
          bL (u2 fun (l3_9 : Int32) (S_10 : pS) =>
            if (S_10 1 5) ≤ l3_9 then
              some (.inr S_10)
            else
              bB (F10_one S_10 1 l3_9) fun r_12 =>
              bB (F11_mend S_10 r_12) fun S_13 =>
              bL (l3_9 + 1) fun l3_14 =>
              some (.inl (l3_14, S_13))) fun b43 =>
          bB (bP b43 ((0 : Int32), S_4)) (u1 g72_43)) fun b36 =>
      bB (bP b36 ((0 : Int32), S_1)) (u1 g91_36)
    else
      some ((0 : Int32), S)
set_option maxRecDepth 100000 in
set_option maxHeartbeats 4000000 in
theorem wX11_days {l : Launch} {Z : pZ}  (hZ : CC Z) (S : pS) (a1 : Int32) (r : Int32) (S2 : pS) (h0 : isA Z K_PF 0) (hf : F11_days S a1 = some (r, S2)) : CI l Z yX11_days cX11_days 4 .boolean 8 175 [.ref (za Z 0), .int a1] S r S2 := by
  unfold F11_days at hf
  refine eZ (own := RX11) (by decide) rfl (Nat.le_of_ble_eq_true rfl) (fun p e s m args below meth c Q ls G hl hw hret => ?_)
  obtain ⟨hx, hb, hml, hown, hts⟩ := G.1
  have hl : lv_has ls 4 [(0, .ref (za Z 0)), (1, .int a1)] := hl
  refine lv_iload_n hx hb dX11_days_0 rfl (lv_at hl 1 rfl) ?_
  refine lv_iconst hx hb dX11_days_1 ki_1 ?_
  refine lv_bipush hx hb dX11_days_2 kb_100 ?_
  refine kSi (rest := []) G hw (wX11_within hZ S a1 1 100 (F11_within a1 1 100) rfl) cw_X11_51 ⟨Nat.le_of_ble_eq_true rfl, Nat.le_of_ble_eq_true rfl⟩ rfl hl.1 rfl (Nat.le_of_ble_eq_true rfl) ⟨Nat.le_refl _, Nat.le_refl _⟩ dX11_days_4 (fun H locs hw => ?_)
  refine lv_if_eq (tgt := 25) hx hb dX11_days_7 (by decide) (fun c_18 => ?_) (fun c_18 => ?_)
  · have hf := (if_pos c_18).symm.trans hf
    refine lv_iconst hx hb dX11_days_25 ki_0 ?_
    obtain ⟨e1, e2⟩ := Prod.mk.inj (Option.some.inj hf)
    exact hret _ _ _ _ _ dX11_days_26 ((by decide : (0 : Int32) &&& 1 = 0).trans e1) (by rw [← e2]; exact hw)
  · have hf := (if_neg c_18).symm.trans hf
    refine lv_aload_n hx hb dX11_days_10 rfl (lv_at hl 0 rfl) ?_
    refine gF G hw h0 KX11 0 (k2 := 1) rfl (by decide) rfl fl_X11_10 dX11_days_11 ?_
    refine gI G hw (sub_PF_now hZ h0) KX10 1 (by decide) rfl fl_X11_278 dX11_days_14 ?_
    refine lv_iload_n hx hb dX11_days_17 rfl (lv_at hl 1 rfl) ?_
    refine lv_iadd hx hb dX11_days_18 ?_
    refine lv_sipush hx hb dX11_days_19 ks_9999 ?_
    refine lv_icmp_le (tgt := 27) hx hb dX11_days_22 (by decide) (fun c_17 => ?_) (fun c_17 => ?_)
    · have hf := (if_pos c_17).symm.trans hf
      refine lv_aload_n hx hb dX11_days_27 rfl (lv_at hl 0 rfl) ?_
      refine gF G hw h0 KX11 4 (k2 := 65) rfl (by decide) rfl fl_X11_40 dX11_days_28 ?_
      obtain ⟨S_1, hS_1, hf⟩ := bL_e hf
      refine kVv (rest := []) G hw (wX4_forget hZ S 65 S_1 (sub_PF_past hZ h0) hS_1.symm) cw_X11_48 (sub_PF_past hZ h0) KX4 ⟨Nat.le_of_ble_eq_true rfl, Nat.le_of_ble_eq_true rfl⟩ rfl hl.1 rfl (Nat.le_of_ble_eq_true rfl) ⟨Nat.le_refl _, Nat.le_refl _⟩ dX11_days_31 (fun H locs hw => ?_)
      refine lv_iconst hx hb dX11_days_34 ki_0 ?_
      refine lv_istore_n (lv' := [(2, .int 0), (0, .ref (za Z 0)), (1, .int a1)]) hx hb dX11_days_35 rfl hl (by decide) rfl (fun ls hl => ?_)
      obtain ⟨g91_36, ej, hf⟩ := bL_e hf
      have R91_36 : ∀ (S_2 : pS) (H : Heap) (locs : List Loc) (ls : Array Slot), Wd Z s S_2 H locs → lv_has ls 4 [] → g91_36 S_2 = some (r, S2) → W p l e { frames := 8, cells := 0, slots := 0, locals := 175 } s m args below meth c H locs 0 0 Q (F0 m 91 ls []) := by
        intro S_2 H locs ls hw hl hf
        have hf := (congrFun ej S_2).symm.trans hf
        refine lv_iconst hx hb dX11_days_91 ki_1 ?_
        obtain ⟨e1, e2⟩ := Prod.mk.inj (Option.some.inj hf)
        exact hret _ _ _ _ _ dX11_days_92 ((by decide : (1 : Int32) &&& 1 = 1).trans e1) (by rw [← e2]; exact hw)
      clear ej
      obtain ⟨b36, eb, hf⟩ := bL_e hf
      have RL36 : ∀ (n : Nat) z, (u1 g91_36) z = some (r, S2) → ∀ (l2_3 : Int32) (S_4 : pS) (H : Heap) (locs : List Loc) (ls : Array Slot), Wd Z s S_4 H locs → lv_has ls 4 [(0, .ref (za Z 0)), (1, .int a1), (2, .int l2_3)] → bPn b36 n (l2_3, S_4) = some z → W p l e { frames := 8, cells := 0, slots := 0, locals := 175 } s m args below meth c H locs 0 0 Q (F0 m 36 ls []) := by
        intro n
        induction n with
        | zero =>
          intro z hg l2_3 S_4 H locs ls hw hl hz
          exact bPn_0 hz
        | succ n ih =>
          intro z hg l2_3 S_4 H locs ls hw hl hz
          obtain ⟨q_5, hf, hz⟩ := bPn_e hz
          have hf := u2_e ((congrFun eb _).symm.trans hf)
          refine lv_iload_n hx hb dX11_days_36 rfl (lv_at hl 2 rfl) ?_
          refine lv_iload_n hx hb dX11_days_37 rfl (lv_at hl 1 rfl) ?_
          refine lv_icmp_ge (tgt := 91) hx hb dX11_days_38 (by decide) (fun c_16 => ?_) (fun c_16 => ?_)
          · have hf := (if_pos c_16).symm.trans hf
            obtain rfl := Option.some.inj hf
            obtain rfl := Option.some.inj (hz : some _ = some _)
            exact R91_36 _ _ _ _ hw (lv_sub hl [] rfl) hg
          · have hf := (if_neg c_16).symm.trans hf
            refine lv_iconst hx hb dX11_days_41 ki_0 ?_
            refine lv_istore_n (lv' := [(3, .int 0), (0, .ref (za Z 0)), (1, .int a1), (2, .int l2_3)]) hx hb dX11_days_42 rfl hl (by decide) rfl (fun ls hl => ?_)
            obtain ⟨g72_43, ej, hf⟩ := bL_e hf
            have R72_43 : ∀ (S_6 : pS) (H : Heap) (locs : List Loc) (ls : Array Slot), Wd Z s S_6 H locs → lv_has ls 4 [(0, .ref (za Z 0)), (1, .int a1), (2, .int l2_3)] → g72_43 S_6 = some q_5 → W p l e { frames := 8, cells := 0, slots := 0, locals := 175 } s m args below meth c H locs 0 0 Q (F0 m 72 ls []) := by
              intro S_6 H locs ls hw hl hf
              have hf := (congrFun ej S_6).symm.trans hf
              refine lv_aload_n hx hb dX11_days_72 rfl (lv_at hl 0 rfl) ?_
              refine gF G hw h0 KX11 0 (k2 := 1) rfl (by decide) rfl fl_X11_10 dX11_days_73 ?_
              refine lv_dup hx hb dX11_days_76 rfl ?_
              refine gI G hw (sub_PF_now hZ h0) KX10 1 (by decide) rfl fl_X11_278 dX11_days_77 ?_
              refine lv_iconst hx hb dX11_days_80 ki_1 ?_
              refine lv_iadd hx hb dX11_days_81 ?_
              obtain ⟨S_7, eS_7, hf⟩ := bL_e hf
              refine pI G hw (sub_PF_now hZ h0) KX10 1 (by decide) rfl rfl rfl eS_7 fl_X11_278 dX11_days_82 (fun H locs hw => ?_)
              obtain ⟨l2_8, el2_8, hf⟩ := bL_e hf
              refine lv_iinc (v := l2_8) (lv' := [(2, .int l2_8), (0, .ref (za Z 0)), (1, .int a1)]) hx hb dX11_days_85 hl (k := 2) rfl (by rw [el2_8]; rfl) (by decide) rfl (fun ls hl => ?_)
              refine lv_goto (tgt := 36) hx hb dX11_days_88 (by decide) ?_
              obtain rfl := Option.some.inj hf
              exact ih _ hg _ _ _ _ _ hw (lv_sub hl [1, 2, 0] rfl) hz
            clear ej
            obtain ⟨b43, eb, hf⟩ := bL_e hf
            have RL43 : ∀ (n : Nat) z, (u1 g72_43) z = some q_5 → ∀ (l3_9 : Int32) (S_10 : pS) (H : Heap) (locs : List Loc) (ls : Array Slot), Wd Z s S_10 H locs → lv_has ls 4 [(0, .ref (za Z 0)), (1, .int a1), (2, .int l2_3), (3, .int l3_9)] → bPn b43 n (l3_9, S_10) = some z → W p l e { frames := 8, cells := 0, slots := 0, locals := 175 } s m args below meth c H locs 0 0 Q (F0 m 43 ls []) := by
              intro n
              induction n with
              | zero =>
                intro z hg l3_9 S_10 H locs ls hw hl hz
                exact bPn_0 hz
              | succ n ih =>
                intro z hg l3_9 S_10 H locs ls hw hl hz
                obtain ⟨q_11, hf, hz⟩ := bPn_e hz
                have hf := u2_e ((congrFun eb _).symm.trans hf)
                refine lv_iload_n hx hb dX11_days_43 rfl (lv_at hl 3 rfl) ?_
                refine lv_aload_n hx hb dX11_days_44 rfl (lv_at hl 0 rfl) ?_
                refine gF G hw h0 KX11 0 (k2 := 1) rfl (by decide) rfl fl_X11_10 dX11_days_45 ?_
                refine gI G hw (sub_PF_now hZ h0) KX10 5 (by decide) rfl fl_X11_62 dX11_days_48 ?_
                refine lv_icmp_ge (tgt := 72) hx hb dX11_days_51 (by decide) (fun c_15 => ?_) (fun c_15 => ?_)
                · have hf := (if_pos c_15).symm.trans hf
                  obtain rfl := Option.some.inj hf
                  obtain rfl := Option.some.inj (hz : some _ = some _)
                  exact R72_43 _ _ _ _ hw (lv_sub hl [0, 1, 2] rfl) hg
                · have hf := (if_neg c_15).symm.trans hf
                  refine lv_aload_n hx hb dX11_days_54 rfl (lv_at hl 0 rfl) ?_
                  refine lv_aload_n hx hb dX11_days_55 rfl (lv_at hl 0 rfl) ?_
                  refine gF G hw h0 KX11 0 (k2 := 1) rfl (by decide) rfl fl_X11_10 dX11_days_56 ?_
                  refine lv_iload_n hx hb dX11_days_59 rfl (lv_at hl 3 rfl) ?_
                  obtain ⟨r_12, hr_12, hf⟩ := bB_e hf
                  refine kVq (rest := [.ref (za Z 0)]) G hw (wX10_one hZ S_10 1 l3_9 r_12 (sub_PF_now hZ h0) hr_12) cw_X11_80 (sub_PF_now hZ h0) KX10 ⟨Nat.le_of_ble_eq_true rfl, Nat.le_of_ble_eq_true rfl⟩ rfl hl.1 rfl (Nat.le_of_ble_eq_true rfl) ⟨Nat.le_refl _, Nat.le_refl _⟩ dX11_days_60 (fun H locs hw => ?_)
                  obtain ⟨S_13, hS_13, hf⟩ := bB_e hf
                  refine kVv (rest := []) G hw (wX11_mend hZ S_10 r_12 S_13 h0 (fun x e => ret_X10_one hZ S_10 1 l3_9 (sub_PF_now hZ h0) (hr_12.trans (congrArg some e))) hS_13) cw_X11_281 h0 KX11 ⟨Nat.le_of_ble_eq_true rfl, Nat.le_of_ble_eq_true rfl⟩ rfl hl.1 rfl (Nat.le_of_ble_eq_true rfl) ⟨Nat.le_refl _, Nat.le_refl _⟩ dX11_days_63 (fun H locs hw => ?_)
                  obtain ⟨l3_14, el3_14, hf⟩ := bL_e hf
                  refine lv_iinc (v := l3_14) (lv' := [(3, .int l3_14), (0, .ref (za Z 0)), (1, .int a1), (2, .int l2_3)]) hx hb dX11_days_66 hl (k := 3) rfl (by rw [el3_14]; rfl) (by decide) rfl (fun ls hl => ?_)
                  refine lv_goto (tgt := 43) hx hb dX11_days_69 (by decide) ?_
                  obtain rfl := Option.some.inj hf
                  exact ih _ hg _ _ _ _ _ hw (lv_sub hl [1, 2, 3, 0] rfl) hz
            clear eb
            obtain ⟨z, hz, hf⟩ := bB_e hf
            obtain ⟨n, hz⟩ := bP_e hz
            exact RL43 n z hf _ _ _ _ _ hw (lv_sub hl [1, 2, 3, 0] rfl) hz
      clear eb
      obtain ⟨z, hz, hf⟩ := bB_e hf
      obtain ⟨n, hz⟩ := bP_e hz
      exact RL36 n z hf _ _ _ _ _ hw (lv_sub hl [1, 2, 0] rfl) hz
    · have hf := (if_neg c_17).symm.trans hf
      refine lv_iconst hx hb dX11_days_25 ki_0 ?_
      obtain ⟨e1, e2⟩ := Prod.mk.inj (Option.some.inj hf)
      exact hret _ _ _ _ _ dX11_days_26 ((by decide : (0 : Int32) &&& 1 = 0).trans e1) (by rw [← e2]; exact hw)
noncomputable def F4_goBack (S : pS) (k0 : Nat) (k1 : Nat) : Option (Int32 × pS) :=
  bG (vp_in (S k0 1) 8) <|
  bB (F10_one S k1 (S ((k0 + 2) + (S k0 1).toNatClampNeg) 3)) fun r_2 =>
  if (S k0 0) = 0 then
    some ((0 : Int32), S)
  else
    bO r_2 (
      some ((0 : Int32), S)) fun o_3 =>
    bL (sU S k1 0 (S ((k0 + 2) + (S k0 1).toNatClampNeg) 0)) fun S_4 =>
    bL (sU S_4 k1 6 (S_4 ((k0 + 2) + (S k0 1).toNatClampNeg) 1)) fun S_5 =>
    bL (sU S_5 k1 2 (S_5 ((k0 + 2) + (S k0 1).toNatClampNeg) 2)) fun S_6 =>
    bL (sU S_6 k1 3 (S_6 ((k0 + 2) + (S k0 1).toNatClampNeg) 3)) fun S_7 =>
    bL (sU S_7 o_3 1 (S_7 ((k0 + 2) + (S k0 1).toNatClampNeg) 4)) fun S_8 =>
    bL (sU S_8 o_3 2 (S_8 ((k0 + 2) + (S k0 1).toNatClampNeg) 5)) fun S_9 =>
    bL (sU S_9 o_3 3 (S_9 ((k0 + 2) + (S k0 1).toNatClampNeg) 6)) fun S_10 =>
    bL (sU S_10 o_3 5 (S_10 ((k0 + 2) + (S k0 1).toNatClampNeg) 7)) fun S_11 =>
    bL (sU S_11 k0 0 ((S_11 k0 0) - 1)) fun S_12 =>
    bL (sU S_12 k0 1 ((((S_12 k0 1) + 8) - 1) - (((S_12 k0 1) + 8) - 1) / 8 * 8)) fun S_13 =>
    some ((1 : Int32), S_13)
set_option maxRecDepth 100000 in
set_option maxHeartbeats 4000000 in
theorem wX4_goBack {l : Launch} {Z : pZ}  (hZ : CC Z) (S : pS) (k0 : Nat) (k1 : Nat) (r : Int32) (S2 : pS) (h0 : isA Z K_Past k0) (h1 : isA Z K_World k1) (hf : F4_goBack S k0 k1 = some (r, S2)) : CI l Z yX4_goBack cX4_goBack 4 .boolean 4 81 [.ref (za Z k0), .ref (za Z k1)] S r S2 := by
  unfold F4_goBack at hf
  refine eZ (own := RX4) (by decide) rfl (Nat.le_of_ble_eq_true rfl) (fun p e s m args below meth c Q ls G hl hw hret => ?_)
  obtain ⟨hx, hb, hml, hown, hts⟩ := G.1
  have hl : lv_has ls 4 [(0, .ref (za Z k0)), (1, .ref (za Z k1))] := hl
  refine lv_aload_n hx hb dX4_goBack_0 rfl (lv_at hl 0 rfl) ?_
  refine gF G hw h0 KX4 2 (k2 := (k0 + 1)) rfl (by decide) rfl fl_X4_11 dX4_goBack_1 ?_
  refine lv_aload_n hx hb dX4_goBack_4 rfl (lv_at hl 0 rfl) ?_
  refine gI G hw h0 KX4 1 (by decide) rfl fl_X4_18 dX4_goBack_5 ?_
  obtain ⟨hg_1, hf⟩ := bG_e hf
  refine aG G hw (sub_Past_rows hZ h0) hg_1 (j := (S k0 1).toNatClampNeg) (k2 := ((k0 + 2) + (S k0 1).toNatClampNeg)) rfl rfl dX4_goBack_8 ?_
  refine lv_astore_n (lv' := [(2, .ref (za Z ((k0 + 2) + (S k0 1).toNatClampNeg))), (0, .ref (za Z k0)), (1, .ref (za Z k1))]) hx hb dX4_goBack_9 rfl hl (by decide) rfl (fun ls hl => ?_)
  refine lv_aload_n hx hb dX4_goBack_10 rfl (lv_at hl 2 rfl) ?_
  refine lv_aload_n hx hb dX4_goBack_11 rfl (lv_at hl 0 rfl) ?_
  refine lv_iconst hx hb dX4_goBack_12 ki_3 ?_
  refine aI G hw (gr_G8x8 hZ (sub_Past_rows hZ h0) (vin_lt hg_1)) (vin_e (by decide)) (j := 3) (by decide) dX4_goBack_13 ?_
  obtain ⟨r_2, hr_2, hf⟩ := bB_e hf
  refine kVq (rest := []) G hw (wX10_one hZ S k1 (S ((k0 + 2) + (S k0 1).toNatClampNeg) 3) r_2 h1 hr_2) cw_X4_55 h1 KX10 ⟨Nat.le_of_ble_eq_true rfl, Nat.le_of_ble_eq_true rfl⟩ rfl hl.1 rfl (Nat.le_of_ble_eq_true rfl) ⟨Nat.le_refl _, Nat.le_refl _⟩ dX4_goBack_14 (fun H locs hw => ?_)
  refine astQn (lv' := [(3, va_rf (Option.map (za Z) r_2)), (2, .ref (za Z ((k0 + 2) + (S k0 1).toNatClampNeg))), (0, .ref (za Z k0)), (1, .ref (za Z k1))]) hx hb dX4_goBack_17 rfl hl (by decide) rfl (fun ls hl => ?_)
  refine lv_aload_n hx hb dX4_goBack_18 rfl (lv_at hl 2 rfl) ?_
  refine gI G hw h0 KX4 0 (by decide) rfl fl_X4_14 dX4_goBack_19 ?_
  refine lv_if_eq (tgt := 29) hx hb dX4_goBack_22 (by decide) (fun c_15 => ?_) (fun c_15 => ?_)
  · have hf := (if_pos c_15).symm.trans hf
    refine lv_iconst hx hb dX4_goBack_29 ki_0 ?_
    obtain ⟨e1, e2⟩ := Prod.mk.inj (Option.some.inj hf)
    exact hret _ _ _ _ _ dX4_goBack_30 ((by decide : (0 : Int32) &&& 1 = 0).trans e1) (by rw [← e2]; exact hw)
  · have hf := (if_neg c_15).symm.trans hf
    refine aldQn hx hb dX4_goBack_25 rfl (lv_at hl 0 rfl) ?_
    refine ifnnQ (tgt := 31) hx hb dX4_goBack_26 (by decide) (fun e_14 => ?_) (fun o_3 e_14 => ?_)
    · subst e_14
      have hf := bO_n rfl hf
      refine lv_iconst hx hb dX4_goBack_29 ki_0 ?_
      obtain ⟨e1, e2⟩ := Prod.mk.inj (Option.some.inj hf)
      exact hret _ _ _ _ _ dX4_goBack_30 ((by decide : (0 : Int32) &&& 1 = 0).trans e1) (by rw [← e2]; exact hw)
    · subst e_14
      have hf := bO_s rfl hf
      have ho_3 := ret_X10_one hZ S k1 (S ((k0 + 2) + (S k0 1).toNatClampNeg) 3) h1 (hr_2.trans (congrArg some rfl))
      refine lv_aload_n hx hb dX4_goBack_31 rfl (lv_at hl 3 rfl) ?_
      refine lv_aload_n hx hb dX4_goBack_32 rfl (lv_at hl 1 rfl) ?_
      refine lv_iconst hx hb dX4_goBack_33 ki_0 ?_
      refine aI G hw (gr_G8x8 hZ (sub_Past_rows hZ h0) (vin_lt hg_1)) (vin_e (by decide)) (j := 0) (by decide) dX4_goBack_34 ?_
      obtain ⟨S_4, eS_4, hf⟩ := bL_e hf
      refine pI G hw h1 KX10 0 (by decide) rfl rfl rfl eS_4 fl_X4_27 dX4_goBack_35 (fun H locs hw => ?_)
      refine lv_aload_n hx hb dX4_goBack_38 rfl (lv_at hl 3 rfl) ?_
      refine lv_aload_n hx hb dX4_goBack_39 rfl (lv_at hl 1 rfl) ?_
      refine lv_iconst hx hb dX4_goBack_40 ki_1 ?_
      refine aI G hw (gr_G8x8 hZ (sub_Past_rows hZ h0) (vin_lt hg_1)) (vin_e (by decide)) (j := 1) (by decide) dX4_goBack_41 ?_
      obtain ⟨S_5, eS_5, hf⟩ := bL_e hf
      refine pI G hw h1 KX10 6 (by decide) rfl rfl rfl eS_5 fl_X4_32 dX4_goBack_42 (fun H locs hw => ?_)
      refine lv_aload_n hx hb dX4_goBack_45 rfl (lv_at hl 3 rfl) ?_
      refine lv_aload_n hx hb dX4_goBack_46 rfl (lv_at hl 1 rfl) ?_
      refine lv_iconst hx hb dX4_goBack_47 ki_2 ?_
      refine aI G hw (gr_G8x8 hZ (sub_Past_rows hZ h0) (vin_lt hg_1)) (vin_e (by decide)) (j := 2) (by decide) dX4_goBack_48 ?_
      obtain ⟨S_6, eS_6, hf⟩ := bL_e hf
      refine pI G hw h1 KX10 2 (by decide) rfl rfl rfl eS_6 fl_X4_35 dX4_goBack_49 (fun H locs hw => ?_)
      refine lv_aload_n hx hb dX4_goBack_52 rfl (lv_at hl 3 rfl) ?_
      refine lv_aload_n hx hb dX4_goBack_53 rfl (lv_at hl 1 rfl) ?_
      refine lv_iconst hx hb dX4_goBack_54 ki_3 ?_
      refine aI G hw (gr_G8x8 hZ (sub_Past_rows hZ h0) (vin_lt hg_1)) (vin_e (by decide)) (j := 3) (by decide) dX4_goBack_55 ?_
      obtain ⟨S_7, eS_7, hf⟩ := bL_e hf
      refine pI G hw h1 KX10 3 (by decide) rfl rfl rfl eS_7 fl_X4_38 dX4_goBack_56 (fun H locs hw => ?_)
      refine lv_aload_n hx hb dX4_goBack_59 rfl (lv_at hl 0 rfl) ?_
      refine lv_aload_n hx hb dX4_goBack_60 rfl (lv_at hl 1 rfl) ?_
      refine lv_iconst hx hb dX4_goBack_61 ki_4 ?_
      refine aI G hw (gr_G8x8 hZ (sub_Past_rows hZ h0) (vin_lt hg_1)) (vin_e (by decide)) (j := 4) (by decide) dX4_goBack_62 ?_
      obtain ⟨S_8, eS_8, hf⟩ := bL_e hf
      refine pI G hw ho_3 KX8 1 (by decide) rfl rfl rfl eS_8 fl_X4_41 dX4_goBack_63 (fun H locs hw => ?_)
      refine lv_aload_n hx hb dX4_goBack_66 rfl (lv_at hl 0 rfl) ?_
      refine lv_aload_n hx hb dX4_goBack_67 rfl (lv_at hl 1 rfl) ?_
      refine lv_iconst hx hb dX4_goBack_68 ki_5 ?_
      refine aI G hw (gr_G8x8 hZ (sub_Past_rows hZ h0) (vin_lt hg_1)) (vin_e (by decide)) (j := 5) (by decide) dX4_goBack_69 ?_
      obtain ⟨S_9, eS_9, hf⟩ := bL_e hf
      refine pI G hw ho_3 KX8 2 (by decide) rfl rfl rfl eS_9 fl_X4_46 dX4_goBack_70 (fun H locs hw => ?_)
      refine lv_aload_n hx hb dX4_goBack_73 rfl (lv_at hl 0 rfl) ?_
      refine lv_aload_n hx hb dX4_goBack_74 rfl (lv_at hl 1 rfl) ?_
      refine lv_bipush hx hb dX4_goBack_75 kb_6 ?_
      refine aI G hw (gr_G8x8 hZ (sub_Past_rows hZ h0) (vin_lt hg_1)) (vin_e (by decide)) (j := 6) (by decide) dX4_goBack_77 ?_
      obtain ⟨S_10, eS_10, hf⟩ := bL_e hf
      refine pI G hw ho_3 KX8 3 (by decide) rfl rfl rfl eS_10 fl_X4_49 dX4_goBack_78 (fun H locs hw => ?_)
      refine lv_aload_n hx hb dX4_goBack_81 rfl (lv_at hl 0 rfl) ?_
      refine lv_aload_n hx hb dX4_goBack_82 rfl (lv_at hl 1 rfl) ?_
      refine lv_bipush hx hb dX4_goBack_83 kb_7 ?_
      refine aI G hw (gr_G8x8 hZ (sub_Past_rows hZ h0) (vin_lt hg_1)) (vin_e (by decide)) (j := 7) (by decide) dX4_goBack_85 ?_
      obtain ⟨S_11, eS_11, hf⟩ := bL_e hf
      refine pI G hw ho_3 KX8 5 (by decide) rfl rfl rfl eS_11 fl_X4_52 dX4_goBack_86 (fun H locs hw => ?_)
      refine lv_aload_n hx hb dX4_goBack_89 rfl (lv_at hl 2 rfl) ?_
      refine lv_dup hx hb dX4_goBack_90 rfl ?_
      refine gI G hw h0 KX4 0 (by decide) rfl fl_X4_14 dX4_goBack_91 ?_
      refine lv_iconst hx hb dX4_goBack_94 ki_1 ?_
      refine lv_isub hx hb dX4_goBack_95 ?_
      obtain ⟨S_12, eS_12, hf⟩ := bL_e hf
      refine pI G hw h0 KX4 0 (by decide) rfl rfl rfl eS_12 fl_X4_14 dX4_goBack_96 (fun H locs hw => ?_)
      refine lv_aload_n hx hb dX4_goBack_99 rfl (lv_at hl 2 rfl) ?_
      refine lv_aload_n hx hb dX4_goBack_100 rfl (lv_at hl 2 rfl) ?_
      refine gI G hw h0 KX4 1 (by decide) rfl fl_X4_18 dX4_goBack_101 ?_
      refine lv_bipush hx hb dX4_goBack_104 kb_8 ?_
      refine lv_iadd hx hb dX4_goBack_106 ?_
      refine lv_iconst hx hb dX4_goBack_107 ki_1 ?_
      refine lv_isub hx hb dX4_goBack_108 ?_
      refine lv_bipush hx hb dX4_goBack_109 kb_8 ?_
      refine lv_irem hx hb dX4_goBack_111 (by decide) ?_
      obtain ⟨S_13, eS_13, hf⟩ := bL_e hf
      refine pI G hw h0 KX4 1 (by decide) rfl rfl rfl eS_13 fl_X4_18 dX4_goBack_112 (fun H locs hw => ?_)
      refine lv_iconst hx hb dX4_goBack_115 ki_1 ?_
      obtain ⟨e1, e2⟩ := Prod.mk.inj (Option.some.inj hf)
      exact hret _ _ _ _ _ dX4_goBack_116 ((by decide : (1 : Int32) &&& 1 = 1).trans e1) (by rw [← e2]; exact hw)
noncomputable def F11_undo (S : pS) : Option (Int32 × pS) :=
  bB2 (F4_goBack S 65 1) fun r_1 S_2 =>
  some ((r_1 &&& 1), S_2)
set_option maxRecDepth 100000 in
set_option maxHeartbeats 4000000 in
theorem wX11_undo {l : Launch} {Z : pZ}  (hZ : CC Z) (S : pS)  (r : Int32) (S2 : pS) (h0 : isA Z K_PF 0) (hf : F11_undo S = some (r, S2)) : CI l Z yX11_undo cX11_undo 1 .boolean 5 104 [.ref (za Z 0)] S r S2 := by
  unfold F11_undo at hf
  refine eZ (own := RX11) (by decide) rfl (Nat.le_of_ble_eq_true rfl) (fun p e s m args below meth c Q ls G hl hw hret => ?_)
  obtain ⟨hx, hb, hml, hown, hts⟩ := G.1
  have hl : lv_has ls 1 [(0, .ref (za Z 0))] := hl
  refine lv_aload_n hx hb dX11_undo_0 rfl (lv_at hl 0 rfl) ?_
  refine gF G hw h0 KX11 4 (k2 := 65) rfl (by decide) rfl fl_X11_40 dX11_undo_1 ?_
  refine lv_aload_n hx hb dX11_undo_4 rfl (lv_at hl 0 rfl) ?_
  refine gF G hw h0 KX11 0 (k2 := 1) rfl (by decide) rfl fl_X11_10 dX11_undo_5 ?_
  obtain ⟨r_1, S_2, hr_1, hf⟩ := bB2_e hf
  refine kVi (rest := []) G hw (wX4_goBack hZ S 65 1 r_1 S_2 (sub_PF_past hZ h0) (sub_PF_now hZ h0) hr_1) cw_X11_285 (sub_PF_past hZ h0) KX4 ⟨Nat.le_of_ble_eq_true rfl, Nat.le_of_ble_eq_true rfl⟩ rfl hl.1 rfl (Nat.le_of_ble_eq_true rfl) ⟨Nat.le_refl _, Nat.le_refl _⟩ dX11_undo_8 (fun H locs hw => ?_)
  obtain ⟨e1, e2⟩ := Prod.mk.inj (Option.some.inj hf)
  exact hret _ _ _ _ _ dX11_undo_11 e1 (by rw [← e2]; exact hw)
noncomputable def F8_copy (S : pS) (k0 : Nat) (k1 : Nat) : pS :=
  bL (sU S k0 0 (S k1 0)) fun S_1 =>
  bL (sU S_1 k0 1 (S_1 k1 1)) fun S_2 =>
  bL (sU S_2 k0 2 (S_2 k1 2)) fun S_3 =>
  bL (sU S_3 k0 3 (S_3 k1 3)) fun S_4 =>
  bL (sU S_4 k0 4 (S_4 k1 4)) fun S_5 =>
  bL (sU S_5 k0 5 (S_5 k1 5)) fun S_6 =>
  bL (sR S_6 (k0 + 1) (va_cpy (S_6 (k1 + 1)) (S_6 (k0 + 1)) 0 0 60)) fun S_7 =>
  S_7
set_option maxRecDepth 100000 in
set_option maxHeartbeats 4000000 in
theorem wX8_copy {l : Launch} {Z : pZ}  (hZ : CC Z) (S : pS) (k0 : Nat) (k1 : Nat) (S2 : pS) (h0 : isA Z K_Thrower k0) (h1 : isA Z K_Thrower k1) (hf : F8_copy S k0 k1 = S2) : CV l Z yX8_copy cX8_copy 2 3 60 [.ref (za Z k0), .ref (za Z k1)] S S2 := by
  unfold F8_copy at hf
  refine eV (own := RX8) (by decide) rfl (Nat.le_of_ble_eq_true rfl) (fun p e s m args below meth c Q ls G hl hw hret => ?_)
  obtain ⟨hx, hb, hml, hown, hts⟩ := G.1
  have hl : lv_has ls 2 [(0, .ref (za Z k0)), (1, .ref (za Z k1))] := hl
  refine lv_aload_n hx hb dX8_copy_0 rfl (lv_at hl 0 rfl) ?_
  refine lv_aload_n hx hb dX8_copy_1 rfl (lv_at hl 1 rfl) ?_
  refine gI G hw h1 KX8 0 (by decide) rfl fl_X8_15 dX8_copy_2 ?_
  obtain ⟨S_1, eS_1, hf⟩ := bL_e hf
  refine pI G hw h0 KX8 0 (by decide) rfl rfl rfl eS_1 fl_X8_15 dX8_copy_5 (fun H locs hw => ?_)
  refine lv_aload_n hx hb dX8_copy_8 rfl (lv_at hl 0 rfl) ?_
  refine lv_aload_n hx hb dX8_copy_9 rfl (lv_at hl 1 rfl) ?_
  refine gI G hw h1 KX8 1 (by decide) rfl fl_X8_19 dX8_copy_10 ?_
  obtain ⟨S_2, eS_2, hf⟩ := bL_e hf
  refine pI G hw h0 KX8 1 (by decide) rfl rfl rfl eS_2 fl_X8_19 dX8_copy_13 (fun H locs hw => ?_)
  refine lv_aload_n hx hb dX8_copy_16 rfl (lv_at hl 0 rfl) ?_
  refine lv_aload_n hx hb dX8_copy_17 rfl (lv_at hl 1 rfl) ?_
  refine gI G hw h1 KX8 2 (by decide) rfl fl_X8_28 dX8_copy_18 ?_
  obtain ⟨S_3, eS_3, hf⟩ := bL_e hf
  refine pI G hw h0 KX8 2 (by decide) rfl rfl rfl eS_3 fl_X8_28 dX8_copy_21 (fun H locs hw => ?_)
  refine lv_aload_n hx hb dX8_copy_24 rfl (lv_at hl 0 rfl) ?_
  refine lv_aload_n hx hb dX8_copy_25 rfl (lv_at hl 1 rfl) ?_
  refine gI G hw h1 KX8 3 (by decide) rfl fl_X8_31 dX8_copy_26 ?_
  obtain ⟨S_4, eS_4, hf⟩ := bL_e hf
  refine pI G hw h0 KX8 3 (by decide) rfl rfl rfl eS_4 fl_X8_31 dX8_copy_29 (fun H locs hw => ?_)
  refine lv_aload_n hx hb dX8_copy_32 rfl (lv_at hl 0 rfl) ?_
  refine lv_aload_n hx hb dX8_copy_33 rfl (lv_at hl 1 rfl) ?_
  refine gI G hw h1 KX8 4 (by decide) rfl fl_X8_22 dX8_copy_34 ?_
  obtain ⟨S_5, eS_5, hf⟩ := bL_e hf
  refine pI G hw h0 KX8 4 (by decide) rfl rfl rfl eS_5 fl_X8_22 dX8_copy_37 (fun H locs hw => ?_)
  refine lv_aload_n hx hb dX8_copy_40 rfl (lv_at hl 0 rfl) ?_
  refine lv_aload_n hx hb dX8_copy_41 rfl (lv_at hl 1 rfl) ?_
  refine gI G hw h1 KX8 5 (by decide) rfl fl_X8_34 dX8_copy_42 ?_
  obtain ⟨S_6, eS_6, hf⟩ := bL_e hf
  refine pI G hw h0 KX8 5 (by decide) rfl rfl rfl eS_6 fl_X8_34 dX8_copy_45 (fun H locs hw => ?_)
  refine lv_aload_n hx hb dX8_copy_48 rfl (lv_at hl 1 rfl) ?_
  refine gF G hw h1 KX8 6 (k2 := (k1 + 1)) rfl (by decide) rfl fl_X8_11 dX8_copy_49 ?_
  refine lv_iconst hx hb dX8_copy_52 ki_0 ?_
  refine lv_aload_n hx hb dX8_copy_53 rfl (lv_at hl 0 rfl) ?_
  refine gF G hw h0 KX8 6 (k2 := (k0 + 1)) rfl (by decide) rfl fl_X8_11 dX8_copy_54 ?_
  refine lv_iconst hx hb dX8_copy_57 ki_0 ?_
  refine lv_aload_n hx hb dX8_copy_58 rfl (lv_at hl 0 rfl) ?_
  refine gF G hw h0 KX8 6 (k2 := (k0 + 1)) rfl (by decide) rfl fl_X8_11 dX8_copy_59 ?_
  refine aL G hw (t := 0) (sub_Thrower_plan hZ h0) rfl (v := 60) (by decide) dX8_copy_62 ?_
  obtain ⟨S_7, eS_7, hf⟩ := bL_e hf
  refine xcpy G hw hl.1 (sub_Thrower_plan hZ h1) (sub_Thrower_plan hZ h0) ml_X8_37 (Nat.le_of_ble_eq_true rfl) (by decide) (by decide) (by decide) (by decide) eS_7 dX8_copy_63 (fun H locs hw => ?_)
  exact hret _ _ _ _ dX8_copy_66 (by rw [← hf]; exact hw)
noncomputable def F10_copy (S : pS) (k0 : Nat) (k1 : Nat) : Option (pS) :=
  bL (sU S k0 0 (S k1 0)) fun S_1 =>
  bL (sU S_1 k0 1 (S_1 k1 1)) fun S_2 =>
  bL (sU S_2 k0 2 (S_2 k1 2)) fun S_3 =>
  bL (sU S_3 k0 3 (S_3 k1 3)) fun S_4 =>
  bL (sU S_4 k0 4 (S_4 k1 4)) fun S_5 =>
  bL (sU S_5 k0 5 (S_5 k1 5)) fun S_6 =>
  bL (sU S_6 k0 6 (S_6 k1 6)) fun S_7 =>
  bL (sU S_7 k0 7 (S_7 k1 7)) fun S_8 =>
  bL (sR S_8 (k0 + 1) (va_cpy (S_8 (k1 + 1)) (S_8 (k0 + 1)) 0 0 5)) fun S_9 =>
  bL (sR S_9 (k0 + 2) (va_cpy (S_9 (k1 + 2)) (S_9 (k0 + 2)) 0 0 6)) fun S_10 =>
  bL (sR S_10 (k0 + 3) (va_cpy (S_10 (k1 + 3)) (S_10 (k0 + 3)) 0 0 6)) fun S_11 =>
  bL (sR S_11 (k0 + 5) (va_cpy (S_11 (k1 + 5)) (S_11 (k0 + 5)) 0 0 900)) fun S_12 =>
  bL (sR S_12 (k0 + 6) (va_cpy (S_12 (k1 + 6)) (S_12 (k0 + 6)) 0 0 60)) fun S_13 =>
  bL (fun (S_14 : pS) =>
    bL (F3_copy S_14 (k0 + 7) (k1 + 7)) fun S_15 =>
    bL (F3_copy S_15 (k0 + 14) (k1 + 14)) fun S_16 =>
    bL (F3_copy S_16 (k0 + 21) (k1 + 21)) fun S_17 =>
    some S_17) fun g183_156 =>
  bL (u2 fun (l2_18 : Int32) (S_19 : pS) =>
    if 8 ≤ l2_18 then
      some (.inr S_19)
    else
      bG (vp_in l2_18 8) <|
      bG (vp_in l2_18 8) <|
      bL (F8_copy S_19 ((k0 + 28) + 2 * l2_18.toNatClampNeg) ((k1 + 28) + 2 * l2_18.toNatClampNeg)) fun S_23 =>
      bL (l2_18 + 1) fun l2_24 =>
      some (.inl (l2_24, S_23))) fun b156 =>
  bB (bP b156 ((0 : Int32), S_13)) (u1 g183_156)
set_option maxRecDepth 100000 in
set_option maxHeartbeats 4000000 in
theorem wX10_copy {l : Launch} {Z : pZ}  (hZ : CC Z) (S : pS) (k0 : Nat) (k1 : Nat) (S2 : pS) (h0 : isA Z K_World k0) (h1 : isA Z K_World k1) (hf : F10_copy S k0 k1 = some S2) : CV l Z yX10_copy cX10_copy 3 4 81 [.ref (za Z k0), .ref (za Z k1)] S S2 := by
  unfold F10_copy at hf
  refine eV (own := RX10) (by decide) rfl (Nat.le_of_ble_eq_true rfl) (fun p e s m args below meth c Q ls G hl hw hret => ?_)
  obtain ⟨hx, hb, hml, hown, hts⟩ := G.1
  have hl : lv_has ls 3 [(0, .ref (za Z k0)), (1, .ref (za Z k1))] := hl
  refine lv_aload_n hx hb dX10_copy_0 rfl (lv_at hl 0 rfl) ?_
  refine lv_aload_n hx hb dX10_copy_1 rfl (lv_at hl 1 rfl) ?_
  refine gI G hw h1 KX10 0 (by decide) rfl fl_X10_47 dX10_copy_2 ?_
  obtain ⟨S_1, eS_1, hf⟩ := bL_e hf
  refine pI G hw h0 KX10 0 (by decide) rfl rfl rfl eS_1 fl_X10_47 dX10_copy_5 (fun H locs hw => ?_)
  refine lv_aload_n hx hb dX10_copy_8 rfl (lv_at hl 0 rfl) ?_
  refine lv_aload_n hx hb dX10_copy_9 rfl (lv_at hl 1 rfl) ?_
  refine gI G hw h1 KX10 1 (by decide) rfl fl_X10_51 dX10_copy_10 ?_
  obtain ⟨S_2, eS_2, hf⟩ := bL_e hf
  refine pI G hw h0 KX10 1 (by decide) rfl rfl rfl eS_2 fl_X10_51 dX10_copy_13 (fun H locs hw => ?_)
  refine lv_aload_n hx hb dX10_copy_16 rfl (lv_at hl 0 rfl) ?_
  refine lv_aload_n hx hb dX10_copy_17 rfl (lv_at hl 1 rfl) ?_
  refine gI G hw h1 KX10 2 (by decide) rfl fl_X10_54 dX10_copy_18 ?_
  obtain ⟨S_3, eS_3, hf⟩ := bL_e hf
  refine pI G hw h0 KX10 2 (by decide) rfl rfl rfl eS_3 fl_X10_54 dX10_copy_21 (fun H locs hw => ?_)
  refine lv_aload_n hx hb dX10_copy_24 rfl (lv_at hl 0 rfl) ?_
  refine lv_aload_n hx hb dX10_copy_25 rfl (lv_at hl 1 rfl) ?_
  refine gI G hw h1 KX10 3 (by decide) rfl fl_X10_57 dX10_copy_26 ?_
  obtain ⟨S_4, eS_4, hf⟩ := bL_e hf
  refine pI G hw h0 KX10 3 (by decide) rfl rfl rfl eS_4 fl_X10_57 dX10_copy_29 (fun H locs hw => ?_)
  refine lv_aload_n hx hb dX10_copy_32 rfl (lv_at hl 0 rfl) ?_
  refine lv_aload_n hx hb dX10_copy_33 rfl (lv_at hl 1 rfl) ?_
  refine gI G hw h1 KX10 4 (by decide) rfl fl_X10_60 dX10_copy_34 ?_
  obtain ⟨S_5, eS_5, hf⟩ := bL_e hf
  refine pI G hw h0 KX10 4 (by decide) rfl rfl rfl eS_5 fl_X10_60 dX10_copy_37 (fun H locs hw => ?_)
  refine lv_aload_n hx hb dX10_copy_40 rfl (lv_at hl 0 rfl) ?_
  refine lv_aload_n hx hb dX10_copy_41 rfl (lv_at hl 1 rfl) ?_
  refine gI G hw h1 KX10 5 (by decide) rfl fl_X10_63 dX10_copy_42 ?_
  obtain ⟨S_6, eS_6, hf⟩ := bL_e hf
  refine pI G hw h0 KX10 5 (by decide) rfl rfl rfl eS_6 fl_X10_63 dX10_copy_45 (fun H locs hw => ?_)
  refine lv_aload_n hx hb dX10_copy_48 rfl (lv_at hl 0 rfl) ?_
  refine lv_aload_n hx hb dX10_copy_49 rfl (lv_at hl 1 rfl) ?_
  refine gI G hw h1 KX10 6 (by decide) rfl fl_X10_66 dX10_copy_50 ?_
  obtain ⟨S_7, eS_7, hf⟩ := bL_e hf
  refine pI G hw h0 KX10 6 (by decide) rfl rfl rfl eS_7 fl_X10_66 dX10_copy_53 (fun H locs hw => ?_)
  refine lv_aload_n hx hb dX10_copy_56 rfl (lv_at hl 0 rfl) ?_
  refine lv_aload_n hx hb dX10_copy_57 rfl (lv_at hl 1 rfl) ?_
  refine gI G hw h1 KX10 7 (by decide) rfl fl_X10_69 dX10_copy_58 ?_
  obtain ⟨S_8, eS_8, hf⟩ := bL_e hf
  refine pI G hw h0 KX10 7 (by decide) rfl rfl rfl eS_8 fl_X10_69 dX10_copy_61 (fun H locs hw => ?_)
  refine lv_aload_n hx hb dX10_copy_64 rfl (lv_at hl 1 rfl) ?_
  refine gF G hw h1 KX10 8 (k2 := (k1 + 1)) rfl (by decide) rfl fl_X10_9 dX10_copy_65 ?_
  refine lv_iconst hx hb dX10_copy_68 ki_0 ?_
  refine lv_aload_n hx hb dX10_copy_69 rfl (lv_at hl 0 rfl) ?_
  refine gF G hw h0 KX10 8 (k2 := (k0 + 1)) rfl (by decide) rfl fl_X10_9 dX10_copy_70 ?_
  refine lv_iconst hx hb dX10_copy_73 ki_0 ?_
  refine lv_aload_n hx hb dX10_copy_74 rfl (lv_at hl 0 rfl) ?_
  refine gF G hw h0 KX10 8 (k2 := (k0 + 1)) rfl (by decide) rfl fl_X10_9 dX10_copy_75 ?_
  refine aL G hw (t := 0) (sub_World_told hZ h0) rfl (v := 5) (by decide) dX10_copy_78 ?_
  obtain ⟨S_9, eS_9, hf⟩ := bL_e hf
  refine xcpy G hw hl.1 (sub_World_told hZ h1) (sub_World_told hZ h0) ml_X10_72 (Nat.le_of_ble_eq_true rfl) (by decide) (by decide) (by decide) (by decide) eS_9 dX10_copy_79 (fun H locs hw => ?_)
  refine lv_aload_n hx hb dX10_copy_82 rfl (lv_at hl 1 rfl) ?_
  refine gF G hw h1 KX10 9 (k2 := (k1 + 2)) rfl (by decide) rfl fl_X10_15 dX10_copy_83 ?_
  refine lv_iconst hx hb dX10_copy_86 ki_0 ?_
  refine lv_aload_n hx hb dX10_copy_87 rfl (lv_at hl 0 rfl) ?_
  refine gF G hw h0 KX10 9 (k2 := (k0 + 2)) rfl (by decide) rfl fl_X10_15 dX10_copy_88 ?_
  refine lv_iconst hx hb dX10_copy_91 ki_0 ?_
  refine lv_aload_n hx hb dX10_copy_92 rfl (lv_at hl 0 rfl) ?_
  refine gF G hw h0 KX10 9 (k2 := (k0 + 2)) rfl (by decide) rfl fl_X10_15 dX10_copy_93 ?_
  refine aL G hw (t := 0) (sub_World_soft hZ h0) rfl (v := 6) (by decide) dX10_copy_96 ?_
  obtain ⟨S_10, eS_10, hf⟩ := bL_e hf
  refine xcpy G hw hl.1 (sub_World_soft hZ h1) (sub_World_soft hZ h0) ml_X10_72 (Nat.le_of_ble_eq_true rfl) (by decide) (by decide) (by decide) (by decide) eS_10 dX10_copy_97 (fun H locs hw => ?_)
  refine lv_aload_n hx hb dX10_copy_100 rfl (lv_at hl 1 rfl) ?_
  refine gF G hw h1 KX10 10 (k2 := (k1 + 3)) rfl (by decide) rfl fl_X10_18 dX10_copy_101 ?_
  refine lv_iconst hx hb dX10_copy_104 ki_0 ?_
  refine lv_aload_n hx hb dX10_copy_105 rfl (lv_at hl 0 rfl) ?_
  refine gF G hw h0 KX10 10 (k2 := (k0 + 3)) rfl (by decide) rfl fl_X10_18 dX10_copy_106 ?_
  refine lv_iconst hx hb dX10_copy_109 ki_0 ?_
  refine lv_aload_n hx hb dX10_copy_110 rfl (lv_at hl 0 rfl) ?_
  refine gF G hw h0 KX10 10 (k2 := (k0 + 3)) rfl (by decide) rfl fl_X10_18 dX10_copy_111 ?_
  refine aL G hw (t := 0) (sub_World_tip hZ h0) rfl (v := 6) (by decide) dX10_copy_114 ?_
  obtain ⟨S_11, eS_11, hf⟩ := bL_e hf
  refine xcpy G hw hl.1 (sub_World_tip hZ h1) (sub_World_tip hZ h0) ml_X10_72 (Nat.le_of_ble_eq_true rfl) (by decide) (by decide) (by decide) (by decide) eS_11 dX10_copy_115 (fun H locs hw => ?_)
  refine lv_aload_n hx hb dX10_copy_118 rfl (lv_at hl 1 rfl) ?_
  refine gF G hw h1 KX10 12 (k2 := (k1 + 5)) rfl (by decide) rfl fl_X10_27 dX10_copy_119 ?_
  refine lv_iconst hx hb dX10_copy_122 ki_0 ?_
  refine lv_aload_n hx hb dX10_copy_123 rfl (lv_at hl 0 rfl) ?_
  refine gF G hw h0 KX10 12 (k2 := (k0 + 5)) rfl (by decide) rfl fl_X10_27 dX10_copy_124 ?_
  refine lv_iconst hx hb dX10_copy_127 ki_0 ?_
  refine lv_aload_n hx hb dX10_copy_128 rfl (lv_at hl 0 rfl) ?_
  refine gF G hw h0 KX10 12 (k2 := (k0 + 5)) rfl (by decide) rfl fl_X10_27 dX10_copy_129 ?_
  refine aL G hw (t := 0) (sub_World_lineOf hZ h0) rfl (v := 900) (by decide) dX10_copy_132 ?_
  obtain ⟨S_12, eS_12, hf⟩ := bL_e hf
  refine xcpy G hw hl.1 (sub_World_lineOf hZ h1) (sub_World_lineOf hZ h0) ml_X10_72 (Nat.le_of_ble_eq_true rfl) (by decide) (by decide) (by decide) (by decide) eS_12 dX10_copy_133 (fun H locs hw => ?_)
  refine lv_aload_n hx hb dX10_copy_136 rfl (lv_at hl 1 rfl) ?_
  refine gF G hw h1 KX10 13 (k2 := (k1 + 6)) rfl (by decide) rfl fl_X10_30 dX10_copy_137 ?_
  refine lv_iconst hx hb dX10_copy_140 ki_0 ?_
  refine lv_aload_n hx hb dX10_copy_141 rfl (lv_at hl 0 rfl) ?_
  refine gF G hw h0 KX10 13 (k2 := (k0 + 6)) rfl (by decide) rfl fl_X10_30 dX10_copy_142 ?_
  refine lv_iconst hx hb dX10_copy_145 ki_0 ?_
  refine lv_aload_n hx hb dX10_copy_146 rfl (lv_at hl 0 rfl) ?_
  refine gF G hw h0 KX10 13 (k2 := (k0 + 6)) rfl (by decide) rfl fl_X10_30 dX10_copy_147 ?_
  refine aL G hw (t := 0) (sub_World_minute hZ h0) rfl (v := 60) (by decide) dX10_copy_150 ?_
  obtain ⟨S_13, eS_13, hf⟩ := bL_e hf
  refine xcpy G hw hl.1 (sub_World_minute hZ h1) (sub_World_minute hZ h0) ml_X10_72 (Nat.le_of_ble_eq_true rfl) (by decide) (by decide) (by decide) (by decide) eS_13 dX10_copy_151 (fun H locs hw => ?_)
  refine lv_iconst hx hb dX10_copy_154 ki_0 ?_
  refine lv_istore_n (lv' := [(2, .int 0), (0, .ref (za Z k0)), (1, .ref (za Z k1))]) hx hb dX10_copy_155 rfl hl (by decide) rfl (fun ls hl => ?_)
  obtain ⟨g183_156, ej, hf⟩ := bL_e hf
  have R183_156 : ∀ (S_14 : pS) (H : Heap) (locs : List Loc) (ls : Array Slot), Wd Z s S_14 H locs → lv_has ls 3 [(0, .ref (za Z k0)), (1, .ref (za Z k1))] → g183_156 S_14 = some S2 → W p l e { frames := 4, cells := 0, slots := 0, locals := 81 } s m args below meth c H locs 0 0 Q (F0 m 183 ls []) := by
    intro S_14 H locs ls hw hl hf
    have hf := (congrFun ej S_14).symm.trans hf
    refine lv_aload_n hx hb dX10_copy_183 rfl (lv_at hl 0 rfl) ?_
    refine gF G hw h0 KX10 14 (k2 := (k0 + 7)) rfl (by decide) rfl fl_X10_36 dX10_copy_184 ?_
    refine lv_aload_n hx hb dX10_copy_187 rfl (lv_at hl 1 rfl) ?_
    refine gF G hw h1 KX10 14 (k2 := (k1 + 7)) rfl (by decide) rfl fl_X10_36 dX10_copy_188 ?_
    obtain ⟨S_15, hS_15, hf⟩ := bL_e hf
    refine kVv (rest := []) G hw (wX3_copy hZ S_14 (k0 + 7) (k1 + 7) S_15 (sub_World_flight hZ h0) (sub_World_flight hZ h1) hS_15.symm) cw_X10_82 (sub_World_flight hZ h0) KX3 ⟨Nat.le_of_ble_eq_true rfl, Nat.le_of_ble_eq_true rfl⟩ rfl hl.1 rfl (Nat.le_of_ble_eq_true rfl) ⟨Nat.le_refl _, Nat.le_refl _⟩ dX10_copy_191 (fun H locs hw => ?_)
    refine lv_aload_n hx hb dX10_copy_194 rfl (lv_at hl 0 rfl) ?_
    refine gF G hw h0 KX10 15 (k2 := (k0 + 14)) rfl (by decide) rfl fl_X10_40 dX10_copy_195 ?_
    refine lv_aload_n hx hb dX10_copy_198 rfl (lv_at hl 1 rfl) ?_
    refine gF G hw h1 KX10 15 (k2 := (k1 + 14)) rfl (by decide) rfl fl_X10_40 dX10_copy_199 ?_
    obtain ⟨S_16, hS_16, hf⟩ := bL_e hf
    refine kVv (rest := []) G hw (wX3_copy hZ S_15 (k0 + 14) (k1 + 14) S_16 (sub_World_arms hZ h0) (sub_World_arms hZ h1) hS_16.symm) cw_X10_82 (sub_World_arms hZ h0) KX3 ⟨Nat.le_of_ble_eq_true rfl, Nat.le_of_ble_eq_true rfl⟩ rfl hl.1 rfl (Nat.le_of_ble_eq_true rfl) ⟨Nat.le_refl _, Nat.le_refl _⟩ dX10_copy_202 (fun H locs hw => ?_)
    refine lv_aload_n hx hb dX10_copy_205 rfl (lv_at hl 0 rfl) ?_
    refine gF G hw h0 KX10 16 (k2 := (k0 + 21)) rfl (by decide) rfl fl_X10_43 dX10_copy_206 ?_
    refine lv_aload_n hx hb dX10_copy_209 rfl (lv_at hl 1 rfl) ?_
    refine gF G hw h1 KX10 16 (k2 := (k1 + 21)) rfl (by decide) rfl fl_X10_43 dX10_copy_210 ?_
    obtain ⟨S_17, hS_17, hf⟩ := bL_e hf
    refine kVv (rest := []) G hw (wX3_copy hZ S_16 (k0 + 21) (k1 + 21) S_17 (sub_World_training hZ h0) (sub_World_training hZ h1) hS_17.symm) cw_X10_82 (sub_World_training hZ h0) KX3 ⟨Nat.le_of_ble_eq_true rfl, Nat.le_of_ble_eq_true rfl⟩ rfl hl.1 rfl (Nat.le_of_ble_eq_true rfl) ⟨Nat.le_refl _, Nat.le_refl _⟩ dX10_copy_213 (fun H locs hw => ?_)
    exact hret _ _ _ _ dX10_copy_216 (by rw [← (Option.some.inj hf)]; exact hw)
  clear ej
  obtain ⟨b156, eb, hf⟩ := bL_e hf
  have RL156 : ∀ (n : Nat) z, (u1 g183_156) z = some S2 → ∀ (l2_18 : Int32) (S_19 : pS) (H : Heap) (locs : List Loc) (ls : Array Slot), Wd Z s S_19 H locs → lv_has ls 3 [(0, .ref (za Z k0)), (1, .ref (za Z k1)), (2, .int l2_18)] → bPn b156 n (l2_18, S_19) = some z → W p l e { frames := 4, cells := 0, slots := 0, locals := 81 } s m args below meth c H locs 0 0 Q (F0 m 156 ls []) := by
    intro n
    induction n with
    | zero =>
      intro z hg l2_18 S_19 H locs ls hw hl hz
      exact bPn_0 hz
    | succ n ih =>
      intro z hg l2_18 S_19 H locs ls hw hl hz
      obtain ⟨q_20, hf, hz⟩ := bPn_e hz
      have hf := u2_e ((congrFun eb _).symm.trans hf)
      refine lv_iload_n hx hb dX10_copy_156 rfl (lv_at hl 2 rfl) ?_
      refine lv_bipush hx hb dX10_copy_157 kb_8 ?_
      refine lv_icmp_ge (tgt := 183) hx hb dX10_copy_159 (by decide) (fun c_25 => ?_) (fun c_25 => ?_)
      · have hf := (if_pos c_25).symm.trans hf
        obtain rfl := Option.some.inj hf
        obtain rfl := Option.some.inj (hz : some _ = some _)
        exact R183_156 _ _ _ _ hw (lv_sub hl [0, 1] rfl) hg
      · have hf := (if_neg c_25).symm.trans hf
        refine lv_aload_n hx hb dX10_copy_162 rfl (lv_at hl 0 rfl) ?_
        refine gF G hw h0 KX10 11 (k2 := (k0 + 4)) rfl (by decide) rfl fl_X10_23 dX10_copy_163 ?_
        refine lv_iload_n hx hb dX10_copy_166 rfl (lv_at hl 2 rfl) ?_
        obtain ⟨hg_21, hf⟩ := bG_e hf
        refine aR G hw (sub_World_team hZ h0) hg_21 (j := l2_18.toNatClampNeg) (k2 := ((k0 + 28) + 2 * l2_18.toNatClampNeg)) rfl rfl dX10_copy_167 ?_
        refine lv_aload_n hx hb dX10_copy_168 rfl (lv_at hl 1 rfl) ?_
        refine gF G hw h1 KX10 11 (k2 := (k1 + 4)) rfl (by decide) rfl fl_X10_23 dX10_copy_169 ?_
        refine lv_iload_n hx hb dX10_copy_172 rfl (lv_at hl 2 rfl) ?_
        obtain ⟨hg_22, hf⟩ := bG_e hf
        refine aR G hw (sub_World_team hZ h1) hg_22 (j := l2_18.toNatClampNeg) (k2 := ((k1 + 28) + 2 * l2_18.toNatClampNeg)) rfl rfl dX10_copy_173 ?_
        obtain ⟨S_23, hS_23, hf⟩ := bL_e hf
        refine kVv (rest := []) G hw (wX8_copy hZ S_19 ((k0 + 28) + 2 * l2_18.toNatClampNeg) ((k1 + 28) + 2 * l2_18.toNatClampNeg) S_23 (tm hZ (sub_World_team hZ h0) (vin_lt hg_21)) (tm hZ (sub_World_team hZ h1) (vin_lt hg_22)) hS_23.symm) cw_X10_78 (tm hZ (sub_World_team hZ h0) (vin_lt hg_21)) KX8 ⟨Nat.le_of_ble_eq_true rfl, Nat.le_of_ble_eq_true rfl⟩ rfl hl.1 rfl (Nat.le_of_ble_eq_true rfl) ⟨Nat.le_refl _, Nat.le_refl _⟩ dX10_copy_174 (fun H locs hw => ?_)
        obtain ⟨l2_24, el2_24, hf⟩ := bL_e hf
        refine lv_iinc (v := l2_24) (lv' := [(2, .int l2_24), (0, .ref (za Z k0)), (1, .ref (za Z k1))]) hx hb dX10_copy_177 hl (k := 2) rfl (by rw [el2_24]; rfl) (by decide) rfl (fun ls hl => ?_)
        refine lv_goto (tgt := 156) hx hb dX10_copy_180 (by decide) ?_
        obtain rfl := Option.some.inj hf
        exact ih _ hg _ _ _ _ _ hw (lv_sub hl [1, 2, 0] rfl) hz
  clear eb
  obtain ⟨z, hz, hf⟩ := bB_e hf
  obtain ⟨n, hz⟩ := bP_e hz
  exact RL156 n z hf _ _ _ _ _ hw (lv_sub hl [1, 2, 0] rfl) hz
noncomputable def F11_image (S : pS) (a1 : Int32) : Option (Int32 × pS) :=
  if a1 = 0 then
    bG (pmu (S 0 5) = some 75) <|
    bG (pmu (S 0 5) = some 75) <|
    bB (F10_copy S 1 75) fun S_3 =>
    bL (F4_forget S_3 65) fun S_4 =>
    some ((1 : Int32), S_4)
  else
    bG (pmu (S 0 5) = some 75) <|
    bL (fun (S_1 : pS) =>
      bG (pmu (S_1 0 5) = some 75) <|
      bB (F10_copy S_1 75 1) fun S_2 =>
      some ((1 : Int32), S_2)) fun j51 =>
    j51 S
set_option maxRecDepth 100000 in
set_option maxHeartbeats 4000000 in
theorem wX11_image {l : Launch} {Z : pZ}  (hZ : CC Z) (S : pS) (a1 : Int32) (r : Int32) (S2 : pS) (h0 : isA Z K_PF 0) (h75 : isA Z K_World 75) (hf : F11_image S a1 = some (r, S2)) : CI l Z yX11_image cX11_image 2 .boolean 5 103 [.ref (za Z 0), .int a1] S r S2 := by
  unfold F11_image at hf
  refine eZ (own := RX11) (by decide) rfl (Nat.le_of_ble_eq_true rfl) (fun p e s m args below meth c Q ls G hl hw hret => ?_)
  obtain ⟨hx, hb, hml, hown, hts⟩ := G.1
  have hl : lv_has ls 2 [(0, .ref (za Z 0)), (1, .int a1)] := hl
  refine lv_iload_n hx hb dX11_image_0 rfl (lv_at hl 1 rfl) ?_
  refine lv_if_ne (tgt := 33) hx hb dX11_image_1 (by decide) (fun c_5 => ?_) (fun c_5 => ?_)
  · have hf := (if_neg c_5).symm.trans hf
    refine lv_aload_n hx hb dX11_image_33 rfl (lv_at hl 0 rfl) ?_
    obtain ⟨hg1, hf⟩ := bG_e hf
    refine gMs G hw h0 KX11 5 (by decide) rfl hg1 fl_X11_289 dX11_image_34 ?_
    obtain ⟨j51, ej, hf⟩ := bL_e hf
    have R51 : ∀ (S_1 : pS) (H : Heap) (locs : List Loc) (ls : Array Slot), Wd Z s S_1 H locs → lv_has ls 2 [(0, .ref (za Z 0))] → j51 S_1 = some (r, S2) → W p l e { frames := 5, cells := 0, slots := 0, locals := 103 } s m args below meth c H locs 0 0 Q (F0 m 51 ls []) := by
      intro S_1 H locs ls hw hl hf
      have hf := (congrFun ej S_1).symm.trans hf
      refine lv_aload_n hx hb dX11_image_51 rfl (lv_at hl 0 rfl) ?_
      obtain ⟨hg1, hf⟩ := bG_e hf
      refine gMs G hw h0 KX11 5 (by decide) rfl hg1 fl_X11_289 dX11_image_52 ?_
      refine lv_aload_n hx hb dX11_image_55 rfl (lv_at hl 0 rfl) ?_
      refine gF G hw h0 KX11 0 (k2 := 1) rfl (by decide) rfl fl_X11_10 dX11_image_56 ?_
      obtain ⟨S_2, hS_2, hf⟩ := bB_e hf
      refine kVv (rest := []) G hw (wX10_copy hZ S_1 75 1 S_2 h75 (sub_PF_now hZ h0) hS_2) cw_X11_292 h75 KX10 ⟨Nat.le_of_ble_eq_true rfl, Nat.le_of_ble_eq_true rfl⟩ rfl hl.1 rfl (Nat.le_of_ble_eq_true rfl) ⟨Nat.le_refl _, Nat.le_refl _⟩ dX11_image_59 (fun H locs hw => ?_)
      refine lv_iconst hx hb dX11_image_62 ki_1 ?_
      obtain ⟨e1, e2⟩ := Prod.mk.inj (Option.some.inj hf)
      exact hret _ _ _ _ _ dX11_image_63 ((by decide : (1 : Int32) &&& 1 = 1).trans e1) (by rw [← e2]; exact hw)
    clear ej
    refine lv_ifnonnull (tgt := 51) hx hb dX11_image_37 (by decide) ?_
    exact R51 _ _ _ _ hw (lv_sub hl [0] rfl) hf
  · have hf := (if_pos c_5).symm.trans hf
    refine lv_aload_n hx hb dX11_image_4 rfl (lv_at hl 0 rfl) ?_
    obtain ⟨hg1, hf⟩ := bG_e hf
    refine gMs G hw h0 KX11 5 (by decide) rfl hg1 fl_X11_289 dX11_image_5 ?_
    refine lv_ifnonnull (tgt := 13) hx hb dX11_image_8 (by decide) ?_
    refine lv_aload_n hx hb dX11_image_13 rfl (lv_at hl 0 rfl) ?_
    refine gF G hw h0 KX11 0 (k2 := 1) rfl (by decide) rfl fl_X11_10 dX11_image_14 ?_
    refine lv_aload_n hx hb dX11_image_17 rfl (lv_at hl 0 rfl) ?_
    obtain ⟨hg1, hf⟩ := bG_e hf
    refine gMs G hw h0 KX11 5 (by decide) rfl hg1 fl_X11_289 dX11_image_18 ?_
    obtain ⟨S_3, hS_3, hf⟩ := bB_e hf
    refine kVv (rest := []) G hw (wX10_copy hZ S 1 75 S_3 (sub_PF_now hZ h0) h75 hS_3) cw_X11_292 (sub_PF_now hZ h0) KX10 ⟨Nat.le_of_ble_eq_true rfl, Nat.le_of_ble_eq_true rfl⟩ rfl hl.1 rfl (Nat.le_of_ble_eq_true rfl) ⟨Nat.le_refl _, Nat.le_refl _⟩ dX11_image_21 (fun H locs hw => ?_)
    refine lv_aload_n hx hb dX11_image_24 rfl (lv_at hl 0 rfl) ?_
    refine gF G hw h0 KX11 4 (k2 := 65) rfl (by decide) rfl fl_X11_40 dX11_image_25 ?_
    obtain ⟨S_4, hS_4, hf⟩ := bL_e hf
    refine kVv (rest := []) G hw (wX4_forget hZ S_3 65 S_4 (sub_PF_past hZ h0) hS_4.symm) cw_X11_48 (sub_PF_past hZ h0) KX4 ⟨Nat.le_of_ble_eq_true rfl, Nat.le_of_ble_eq_true rfl⟩ rfl hl.1 rfl (Nat.le_of_ble_eq_true rfl) ⟨Nat.le_refl _, Nat.le_refl _⟩ dX11_image_28 (fun H locs hw => ?_)
    refine lv_iconst hx hb dX11_image_31 ki_1 ?_
    obtain ⟨e1, e2⟩ := Prod.mk.inj (Option.some.inj hf)
    exact hret _ _ _ _ _ dX11_image_32 ((by decide : (1 : Int32) &&& 1 = 1).trans e1) (by rw [← e2]; exact hw)
noncomputable def F10_needs (S : pS) (k0 : Nat) (a1 : Int32) : Option (Int32) :=
  bB (F10_one S k0 a1) fun r_1 =>
  bO r_1 (
    some ((-1) : Int32)) fun o_2 =>
  bL (fun (l3_3 : Int32) =>
    some l3_3) fun g67_17 =>
  bL (u2 fun (l3_4 : Int32) (l4_5 : Int32) =>
    if (S k0 5) ≤ l4_5 then
      some (.inr l3_4)
    else
      if 8 ≤ l4_5 then
        some (.inr l3_4)
      else
        bL (fun (l3_7 : Int32) =>
          bL (l4_5 + 1) fun l4_8 =>
          some (.inl (l3_7, l4_8))) fun j61 =>
        if l4_5 = a1 then
          j61 l3_4
        else
          bG (vp_in l4_5 8) <|
          bL (jmax l3_4 (((S ((k0 + 28) + 2 * l4_5.toNatClampNeg) 2) + 1) - (S o_2 2))) fun l3_10 =>
          j61 l3_10) fun b17 =>
  bB (bP b17 ((0 : Int32), (0 : Int32))) (u1 g67_17)
set_option maxRecDepth 100000 in
set_option maxHeartbeats 4000000 in
theorem wX10_needs {l : Launch} {Z : pZ}  (hZ : CC Z) (S : pS) (k0 : Nat) (a1 : Int32) (r : Int32) (h0 : isA Z K_World k0) (hf : F10_needs S k0 a1 = some r) : CI l Z yX10_needs cX10_needs 5 .int 4 81 [.ref (za Z k0), .int a1] S r S := by
  unfold F10_needs at hf
  refine eI (own := RX10) (by decide) rfl (Nat.le_of_ble_eq_true rfl) (fun p e s m args below meth c Q ls G hl hw hret => ?_)
  obtain ⟨hx, hb, hml, hown, hts⟩ := G.1
  have hl : lv_has ls 5 [(0, .ref (za Z k0)), (1, .int a1)] := hl
  refine lv_aload_n hx hb dX10_needs_0 rfl (lv_at hl 0 rfl) ?_
  refine lv_iload_n hx hb dX10_needs_1 rfl (lv_at hl 1 rfl) ?_
  obtain ⟨r_1, hr_1, hf⟩ := bB_e hf
  refine kVq (rest := []) G hw (wX10_one hZ S k0 a1 r_1 h0 hr_1) cw_X10_93 h0 KX10 ⟨Nat.le_of_ble_eq_true rfl, Nat.le_of_ble_eq_true rfl⟩ rfl hl.1 rfl (Nat.le_of_ble_eq_true rfl) ⟨Nat.le_refl _, Nat.le_refl _⟩ dX10_needs_2 (fun H locs hw => ?_)
  refine astQn (lv' := [(2, va_rf (Option.map (za Z) r_1)), (0, .ref (za Z k0)), (1, .int a1)]) hx hb dX10_needs_5 rfl hl (by decide) rfl (fun ls hl => ?_)
  refine aldQn hx hb dX10_needs_6 rfl (lv_at hl 0 rfl) ?_
  refine ifnnQ (tgt := 12) hx hb dX10_needs_7 (by decide) (fun e_14 => ?_) (fun o_2 e_14 => ?_)
  · subst e_14
    have hf := bO_n rfl hf
    refine lv_iconst hx hb dX10_needs_10 ki_m1 ?_
    exact hret _ _ _ _ _ dX10_needs_11 (Option.some.inj hf) hw
  · subst e_14
    have hf := bO_s rfl hf
    have ho_2 := ret_X10_one hZ S k0 a1 h0 (hr_1.trans (congrArg some rfl))
    refine lv_iconst hx hb dX10_needs_12 ki_0 ?_
    refine lv_istore_n (lv' := [(3, .int 0), (2, .ref (za Z o_2)), (0, .ref (za Z k0)), (1, .int a1)]) hx hb dX10_needs_13 rfl hl (by decide) rfl (fun ls hl => ?_)
    refine lv_iconst hx hb dX10_needs_14 ki_0 ?_
    refine lv_istore (lv' := [(4, .int 0), (3, .int 0), (2, .ref (za Z o_2)), (0, .ref (za Z k0)), (1, .int a1)]) hx hb dX10_needs_15 hl (by decide) rfl (fun ls hl => ?_)
    obtain ⟨g67_17, ej, hf⟩ := bL_e hf
    have R67_17 : ∀ (l3_3 : Int32) (H : Heap) (locs : List Loc) (ls : Array Slot), Wd Z s S H locs → lv_has ls 5 [(3, .int l3_3)] → g67_17 l3_3 = some r → W p l e { frames := 4, cells := 0, slots := 0, locals := 81 } s m args below meth c H locs 0 0 Q (F0 m 67 ls []) := by
      intro l3_3 H locs ls hw hl hf
      have hf := (congrFun ej l3_3).symm.trans hf
      refine lv_iload_n hx hb dX10_needs_67 rfl (lv_at hl 0 rfl) ?_
      exact hret _ _ _ _ _ dX10_needs_68 (Option.some.inj hf) hw
    clear ej
    obtain ⟨b17, eb, hf⟩ := bL_e hf
    have RL17 : ∀ (n : Nat) z, (u1 g67_17) z = some r → ∀ (l3_4 : Int32) (l4_5 : Int32) (H : Heap) (locs : List Loc) (ls : Array Slot), Wd Z s S H locs → lv_has ls 5 [(0, .ref (za Z k0)), (1, .int a1), (2, .ref (za Z o_2)), (3, .int l3_4), (4, .int l4_5)] → bPn b17 n (l3_4, l4_5) = some z → W p l e { frames := 4, cells := 0, slots := 0, locals := 81 } s m args below meth c H locs 0 0 Q (F0 m 17 ls []) := by
      intro n
      induction n with
      | zero =>
        intro z hg l3_4 l4_5 H locs ls hw hl hz
        exact bPn_0 hz
      | succ n ih =>
        intro z hg l3_4 l4_5 H locs ls hw hl hz
        obtain ⟨q_6, hf, hz⟩ := bPn_e hz
        have hf := u2_e ((congrFun eb _).symm.trans hf)
        refine lv_iload hx hb dX10_needs_17 (lv_at hl 4 rfl) ?_
        refine lv_aload_n hx hb dX10_needs_19 rfl (lv_at hl 0 rfl) ?_
        refine gI G hw h0 KX10 5 (by decide) rfl fl_X10_63 dX10_needs_20 ?_
        refine lv_icmp_ge (tgt := 67) hx hb dX10_needs_23 (by decide) (fun c_13 => ?_) (fun c_13 => ?_)
        · have hf := (if_pos c_13).symm.trans hf
          obtain rfl := Option.some.inj hf
          obtain rfl := Option.some.inj (hz : some _ = some _)
          exact R67_17 _ _ _ _ hw (lv_sub hl [3] rfl) hg
        · have hf := (if_neg c_13).symm.trans hf
          refine lv_iload hx hb dX10_needs_26 (lv_at hl 4 rfl) ?_
          refine lv_bipush hx hb dX10_needs_28 kb_8 ?_
          refine lv_icmp_ge (tgt := 67) hx hb dX10_needs_30 (by decide) (fun c_12 => ?_) (fun c_12 => ?_)
          · have hf := (if_pos c_12).symm.trans hf
            obtain rfl := Option.some.inj hf
            obtain rfl := Option.some.inj (hz : some _ = some _)
            exact R67_17 _ _ _ _ hw (lv_sub hl [3] rfl) hg
          · have hf := (if_neg c_12).symm.trans hf
            refine lv_iload hx hb dX10_needs_33 (lv_at hl 4 rfl) ?_
            refine lv_iload_n hx hb dX10_needs_35 rfl (lv_at hl 1 rfl) ?_
            obtain ⟨j61, ej, hf⟩ := bL_e hf
            have R61 : ∀ (l3_7 : Int32) (H : Heap) (locs : List Loc) (ls : Array Slot), Wd Z s S H locs → lv_has ls 5 [(0, .ref (za Z k0)), (1, .int a1), (2, .ref (za Z o_2)), (3, .int l3_7), (4, .int l4_5)] → j61 l3_7 = some q_6 → W p l e { frames := 4, cells := 0, slots := 0, locals := 81 } s m args below meth c H locs 0 0 Q (F0 m 61 ls []) := by
              intro l3_7 H locs ls hw hl hf
              have hf := (congrFun ej l3_7).symm.trans hf
              obtain ⟨l4_8, el4_8, hf⟩ := bL_e hf
              refine lv_iinc (v := l4_8) (lv' := [(4, .int l4_8), (0, .ref (za Z k0)), (1, .int a1), (2, .ref (za Z o_2)), (3, .int l3_7)]) hx hb dX10_needs_61 hl (k := 4) rfl (by rw [el4_8]; rfl) (by decide) rfl (fun ls hl => ?_)
              refine lv_goto (tgt := 17) hx hb dX10_needs_64 (by decide) ?_
              obtain rfl := Option.some.inj hf
              exact ih _ hg _ _ _ _ _ hw (lv_sub hl [1, 2, 3, 4, 0] rfl) hz
            clear ej
            refine lv_icmp_eq (tgt := 61) hx hb dX10_needs_36 (by decide) (fun c_11 => ?_) (fun c_11 => ?_)
            · have hf := (if_pos c_11).symm.trans hf
              exact R61 _ _ _ _ hw (lv_sub hl [0, 1, 2, 3, 4] rfl) hf
            · have hf := (if_neg c_11).symm.trans hf
              refine lv_iload_n hx hb dX10_needs_39 rfl (lv_at hl 3 rfl) ?_
              refine lv_aload_n hx hb dX10_needs_40 rfl (lv_at hl 0 rfl) ?_
              refine gF G hw h0 KX10 11 (k2 := (k0 + 4)) rfl (by decide) rfl fl_X10_23 dX10_needs_41 ?_
              refine lv_iload hx hb dX10_needs_44 (lv_at hl 4 rfl) ?_
              obtain ⟨hg_9, hf⟩ := bG_e hf
              refine aR G hw (sub_World_team hZ h0) hg_9 (j := l4_5.toNatClampNeg) (k2 := ((k0 + 28) + 2 * l4_5.toNatClampNeg)) rfl rfl dX10_needs_46 ?_
              refine gI G hw (tm hZ (sub_World_team hZ h0) (vin_lt hg_9)) KX8 2 (by decide) rfl fl_X10_123 dX10_needs_47 ?_
              refine lv_iconst hx hb dX10_needs_50 ki_1 ?_
              refine lv_iadd hx hb dX10_needs_51 ?_
              refine lv_aload_n hx hb dX10_needs_52 rfl (lv_at hl 2 rfl) ?_
              refine gI G hw ho_2 KX8 2 (by decide) rfl fl_X10_123 dX10_needs_53 ?_
              refine lv_isub hx hb dX10_needs_56 ?_
              refine xmax G hl.1 ml_X10_118 (Nat.le_of_ble_eq_true rfl) (Nat.le_of_ble_eq_true rfl) ⟨Nat.le_refl _, Nat.le_refl _⟩ dX10_needs_57 ?_
              obtain ⟨l3_10, el3_10, hf⟩ := bL_e hf
              refine top_i el3_10 ?_
              refine lv_istore_n (lv' := [(3, .int l3_10), (0, .ref (za Z k0)), (1, .int a1), (2, .ref (za Z o_2)), (4, .int l4_5)]) hx hb dX10_needs_60 rfl hl (by decide) rfl (fun ls hl => ?_)
              exact R61 _ _ _ _ hw (lv_sub hl [1, 2, 3, 0, 4] rfl) hf
    clear eb
    obtain ⟨z, hz, hf⟩ := bB_e hf
    obtain ⟨n, hz⟩ := bP_e hz
    exact RL17 n z hf _ _ _ _ _ hw (lv_sub hl [3, 4, 2, 1, 0] rfl) hz
noncomputable def F10_rank (S : pS) (k0 : Nat) (k1 : Nat) : Option (Int32) :=
  bL (fun (l2_1 : Int32) =>
    some l2_1) fun g43_4 =>
  bL (u2 fun (l2_2 : Int32) (l3_3 : Int32) =>
    if (S k0 5) ≤ l3_3 then
      some (.inr l2_2)
    else
      if 8 ≤ l3_3 then
        some (.inr l2_2)
      else
        bG (vp_in l3_3 8) <|
        bL (fun (l2_6 : Int32) =>
          bL (l3_3 + 1) fun l3_7 =>
          some (.inl (l2_6, l3_7))) fun j37 =>
        if (S ((k0 + 28) + 2 * l3_3.toNatClampNeg) 2) ≤ (S k1 2) then
          j37 l2_2
        else
          bL (l2_2 + 1) fun l2_8 =>
          j37 l2_8) fun b4 =>
  bB (bP b4 ((1 : Int32), (0 : Int32))) (u1 g43_4)
set_option maxRecDepth 100000 in
set_option maxHeartbeats 4000000 in
theorem wX10_rank {l : Launch} {Z : pZ}  (hZ : CC Z) (S : pS) (k0 : Nat) (k1 : Nat) (r : Int32) (h0 : isA Z K_World k0) (h1 : isA Z K_Thrower k1) (hf : F10_rank S k0 k1 = some r) : CI l Z yX10_rank cX10_rank 4 .int 3 60 [.ref (za Z k0), .ref (za Z k1)] S r S := by
  unfold F10_rank at hf
  refine eI (own := RX10) (by decide) rfl (Nat.le_of_ble_eq_true rfl) (fun p e s m args below meth c Q ls G hl hw hret => ?_)
  obtain ⟨hx, hb, hml, hown, hts⟩ := G.1
  have hl : lv_has ls 4 [(0, .ref (za Z k0)), (1, .ref (za Z k1))] := hl
  refine lv_iconst hx hb dX10_rank_0 ki_1 ?_
  refine lv_istore_n (lv' := [(2, .int 1), (0, .ref (za Z k0)), (1, .ref (za Z k1))]) hx hb dX10_rank_1 rfl hl (by decide) rfl (fun ls hl => ?_)
  refine lv_iconst hx hb dX10_rank_2 ki_0 ?_
  refine lv_istore_n (lv' := [(3, .int 0), (2, .int 1), (0, .ref (za Z k0)), (1, .ref (za Z k1))]) hx hb dX10_rank_3 rfl hl (by decide) rfl (fun ls hl => ?_)
  obtain ⟨g43_4, ej, hf⟩ := bL_e hf
  have R43_4 : ∀ (l2_1 : Int32) (H : Heap) (locs : List Loc) (ls : Array Slot), Wd Z s S H locs → lv_has ls 4 [(2, .int l2_1)] → g43_4 l2_1 = some r → W p l e { frames := 3, cells := 0, slots := 0, locals := 60 } s m args below meth c H locs 0 0 Q (F0 m 43 ls []) := by
    intro l2_1 H locs ls hw hl hf
    have hf := (congrFun ej l2_1).symm.trans hf
    refine lv_iload_n hx hb dX10_rank_43 rfl (lv_at hl 0 rfl) ?_
    exact hret _ _ _ _ _ dX10_rank_44 (Option.some.inj hf) hw
  clear ej
  obtain ⟨b4, eb, hf⟩ := bL_e hf
  have RL4 : ∀ (n : Nat) z, (u1 g43_4) z = some r → ∀ (l2_2 : Int32) (l3_3 : Int32) (H : Heap) (locs : List Loc) (ls : Array Slot), Wd Z s S H locs → lv_has ls 4 [(0, .ref (za Z k0)), (1, .ref (za Z k1)), (2, .int l2_2), (3, .int l3_3)] → bPn b4 n (l2_2, l3_3) = some z → W p l e { frames := 3, cells := 0, slots := 0, locals := 60 } s m args below meth c H locs 0 0 Q (F0 m 4 ls []) := by
    intro n
    induction n with
    | zero =>
      intro z hg l2_2 l3_3 H locs ls hw hl hz
      exact bPn_0 hz
    | succ n ih =>
      intro z hg l2_2 l3_3 H locs ls hw hl hz
      obtain ⟨q_4, hf, hz⟩ := bPn_e hz
      have hf := u2_e ((congrFun eb _).symm.trans hf)
      refine lv_iload_n hx hb dX10_rank_4 rfl (lv_at hl 3 rfl) ?_
      refine lv_aload_n hx hb dX10_rank_5 rfl (lv_at hl 0 rfl) ?_
      refine gI G hw h0 KX10 5 (by decide) rfl fl_X10_63 dX10_rank_6 ?_
      refine lv_icmp_ge (tgt := 43) hx hb dX10_rank_9 (by decide) (fun c_11 => ?_) (fun c_11 => ?_)
      · have hf := (if_pos c_11).symm.trans hf
        obtain rfl := Option.some.inj hf
        obtain rfl := Option.some.inj (hz : some _ = some _)
        exact R43_4 _ _ _ _ hw (lv_sub hl [2] rfl) hg
      · have hf := (if_neg c_11).symm.trans hf
        refine lv_iload_n hx hb dX10_rank_12 rfl (lv_at hl 3 rfl) ?_
        refine lv_bipush hx hb dX10_rank_13 kb_8 ?_
        refine lv_icmp_ge (tgt := 43) hx hb dX10_rank_15 (by decide) (fun c_10 => ?_) (fun c_10 => ?_)
        · have hf := (if_pos c_10).symm.trans hf
          obtain rfl := Option.some.inj hf
          obtain rfl := Option.some.inj (hz : some _ = some _)
          exact R43_4 _ _ _ _ hw (lv_sub hl [2] rfl) hg
        · have hf := (if_neg c_10).symm.trans hf
          refine lv_aload_n hx hb dX10_rank_18 rfl (lv_at hl 0 rfl) ?_
          refine gF G hw h0 KX10 11 (k2 := (k0 + 4)) rfl (by decide) rfl fl_X10_23 dX10_rank_19 ?_
          refine lv_iload_n hx hb dX10_rank_22 rfl (lv_at hl 3 rfl) ?_
          obtain ⟨hg_5, hf⟩ := bG_e hf
          refine aR G hw (sub_World_team hZ h0) hg_5 (j := l3_3.toNatClampNeg) (k2 := ((k0 + 28) + 2 * l3_3.toNatClampNeg)) rfl rfl dX10_rank_23 ?_
          refine gI G hw (tm hZ (sub_World_team hZ h0) (vin_lt hg_5)) KX8 2 (by decide) rfl fl_X10_123 dX10_rank_24 ?_
          refine lv_aload_n hx hb dX10_rank_27 rfl (lv_at hl 1 rfl) ?_
          refine gI G hw h1 KX8 2 (by decide) rfl fl_X10_123 dX10_rank_28 ?_
          obtain ⟨j37, ej, hf⟩ := bL_e hf
          have R37 : ∀ (l2_6 : Int32) (H : Heap) (locs : List Loc) (ls : Array Slot), Wd Z s S H locs → lv_has ls 4 [(0, .ref (za Z k0)), (1, .ref (za Z k1)), (2, .int l2_6), (3, .int l3_3)] → j37 l2_6 = some q_4 → W p l e { frames := 3, cells := 0, slots := 0, locals := 60 } s m args below meth c H locs 0 0 Q (F0 m 37 ls []) := by
            intro l2_6 H locs ls hw hl hf
            have hf := (congrFun ej l2_6).symm.trans hf
            obtain ⟨l3_7, el3_7, hf⟩ := bL_e hf
            refine lv_iinc (v := l3_7) (lv' := [(3, .int l3_7), (0, .ref (za Z k0)), (1, .ref (za Z k1)), (2, .int l2_6)]) hx hb dX10_rank_37 hl (k := 3) rfl (by rw [el3_7]; rfl) (by decide) rfl (fun ls hl => ?_)
            refine lv_goto (tgt := 4) hx hb dX10_rank_40 (by decide) ?_
            obtain rfl := Option.some.inj hf
            exact ih _ hg _ _ _ _ _ hw (lv_sub hl [1, 2, 3, 0] rfl) hz
          clear ej
          refine lv_icmp_le (tgt := 37) hx hb dX10_rank_31 (by decide) (fun c_9 => ?_) (fun c_9 => ?_)
          · have hf := (if_pos c_9).symm.trans hf
            exact R37 _ _ _ _ hw (lv_sub hl [0, 1, 2, 3] rfl) hf
          · have hf := (if_neg c_9).symm.trans hf
            obtain ⟨l2_8, el2_8, hf⟩ := bL_e hf
            refine lv_iinc (v := l2_8) (lv' := [(2, .int l2_8), (0, .ref (za Z k0)), (1, .ref (za Z k1)), (3, .int l3_3)]) hx hb dX10_rank_34 hl (k := 2) rfl (by rw [el2_8]; rfl) (by decide) rfl (fun ls hl => ?_)
            exact R37 _ _ _ _ hw (lv_sub hl [1, 2, 0, 3] rfl) hf
  clear eb
  obtain ⟨z, hz, hf⟩ := bB_e hf
  obtain ⟨n, hz⟩ := bP_e hz
  exact RL4 n z hf _ _ _ _ _ hw (lv_sub hl [2, 3, 1, 0] rfl) hz
noncomputable def F10_hasLine (S : pS) (k0 : Nat) (a1 : Int32) : Int32 :=
  bL (fun (_ : Unit) =>
    (0 : Int32)) fun j22 =>
  if a1 < 0 then
    j22 ()
  else
    if (S k0 6) ≤ a1 then
      j22 ()
    else
      if 100 ≤ a1 then
        j22 ()
      else
        (1 : Int32)
set_option maxRecDepth 100000 in
set_option maxHeartbeats 4000000 in
theorem wX10_hasLine {l : Launch} {Z : pZ}  (hZ : CC Z) (S : pS) (k0 : Nat) (a1 : Int32) (r : Int32) (h0 : isA Z K_World k0) (hf : F10_hasLine S k0 a1 = r) : CI l Z yX10_hasLine cX10_hasLine 2 .boolean 3 60 [.ref (za Z k0), .int a1] S r S := by
  unfold F10_hasLine at hf
  refine eZ (own := RX10) (by decide) rfl (Nat.le_of_ble_eq_true rfl) (fun p e s m args below meth c Q ls G hl hw hret => ?_)
  obtain ⟨hx, hb, hml, hown, hts⟩ := G.1
  have hl : lv_has ls 2 [(0, .ref (za Z k0)), (1, .int a1)] := hl
  refine lv_iload_n hx hb dX10_hasLine_0 rfl (lv_at hl 1 rfl) ?_
  obtain ⟨j22, ej, hf⟩ := bL_e hf
  have R22 : ∀ (H : Heap) (locs : List Loc) (ls : Array Slot), Wd Z s S H locs → lv_has ls 2 [] → j22 () = r → W p l e { frames := 3, cells := 0, slots := 0, locals := 60 } s m args below meth c H locs 0 0 Q (F0 m 22 ls []) := by
    intro  H locs ls hw hl hf
    have hf := (congrFun ej ()).symm.trans hf
    refine lv_iconst hx hb dX10_hasLine_22 ki_0 ?_
    exact hret _ _ _ _ _ dX10_hasLine_23 ((by decide : (0 : Int32) &&& 1 = 0).trans hf) hw
  clear ej
  refine lv_if_lt (tgt := 22) hx hb dX10_hasLine_1 (by decide) (fun c_3 => ?_) (fun c_3 => ?_)
  · have hf := (if_pos c_3).symm.trans hf
    exact R22 _ _ _ hw (lv_sub hl [] rfl) hf
  · have hf := (if_neg c_3).symm.trans hf
    refine lv_iload_n hx hb dX10_hasLine_4 rfl (lv_at hl 1 rfl) ?_
    refine lv_aload_n hx hb dX10_hasLine_5 rfl (lv_at hl 0 rfl) ?_
    refine gI G hw h0 KX10 6 (by decide) rfl fl_X10_66 dX10_hasLine_6 ?_
    refine lv_icmp_ge (tgt := 22) hx hb dX10_hasLine_9 (by decide) (fun c_2 => ?_) (fun c_2 => ?_)
    · have hf := (if_pos c_2).symm.trans hf
      exact R22 _ _ _ hw (lv_sub hl [] rfl) hf
    · have hf := (if_neg c_2).symm.trans hf
      refine lv_iload_n hx hb dX10_hasLine_12 rfl (lv_at hl 1 rfl) ?_
      refine lv_bipush hx hb dX10_hasLine_13 kb_100 ?_
      refine lv_icmp_ge (tgt := 22) hx hb dX10_hasLine_15 (by decide) (fun c_1 => ?_) (fun c_1 => ?_)
      · have hf := (if_pos c_1).symm.trans hf
        exact R22 _ _ _ hw (lv_sub hl [] rfl) hf
      · have hf := (if_neg c_1).symm.trans hf
        refine lv_iconst hx hb dX10_hasLine_18 ki_1 ?_
        refine lv_goto (tgt := 23) hx hb dX10_hasLine_19 (by decide) ?_
        exact hret _ _ _ _ _ dX10_hasLine_23 ((by decide : (1 : Int32) &&& 1 = 1).trans hf) hw
noncomputable def F10_column (S : pS) (k0 : Nat) (a1 : Int32) (a2 : Int32) : Option (Int32) :=
  bL (fun (_ : Unit) =>
    some ((-1) : Int32)) fun j32 =>
  if (F10_hasLine S k0 a1) = 0 then
    j32 ()
  else
    if (F11_within a2 0 8) = 0 then
      j32 ()
    else
      bG (vp_in ((a1 * 9) + a2) 900) <|
      some (S (k0 + 5) (((a1 * 9) + a2).toNatClampNeg))
set_option maxRecDepth 100000 in
set_option maxHeartbeats 4000000 in
theorem wX10_column {l : Launch} {Z : pZ}  (hZ : CC Z) (S : pS) (k0 : Nat) (a1 : Int32) (a2 : Int32) (r : Int32) (h0 : isA Z K_World k0) (hf : F10_column S k0 a1 a2 = some r) : CI l Z yX10_column cX10_column 3 .int 4 82 [.ref (za Z k0), .int a1, .int a2] S r S := by
  unfold F10_column at hf
  refine eI (own := RX10) (by decide) rfl (Nat.le_of_ble_eq_true rfl) (fun p e s m args below meth c Q ls G hl hw hret => ?_)
  obtain ⟨hx, hb, hml, hown, hts⟩ := G.1
  have hl : lv_has ls 3 [(0, .ref (za Z k0)), (1, .int a1), (2, .int a2)] := hl
  refine lv_aload_n hx hb dX10_column_0 rfl (lv_at hl 0 rfl) ?_
  refine lv_iload_n hx hb dX10_column_1 rfl (lv_at hl 1 rfl) ?_
  refine kVi (rest := []) G hw (wX10_hasLine hZ S k0 a1 (F10_hasLine S k0 a1) h0 rfl) cw_X10_106 h0 KX10 ⟨Nat.le_of_ble_eq_true rfl, Nat.le_of_ble_eq_true rfl⟩ rfl hl.1 rfl (Nat.le_of_ble_eq_true rfl) ⟨Nat.le_refl _, Nat.le_refl _⟩ dX10_column_2 (fun H locs hw => ?_)
  obtain ⟨j32, ej, hf⟩ := bL_e hf
  have R32 : ∀ (H : Heap) (locs : List Loc) (ls : Array Slot), Wd Z s S H locs → lv_has ls 3 [] → j32 () = some r → W p l e { frames := 4, cells := 0, slots := 0, locals := 82 } s m args below meth c H locs 0 0 Q (F0 m 32 ls []) := by
    intro  H locs ls hw hl hf
    have hf := (congrFun ej ()).symm.trans hf
    refine lv_iconst hx hb dX10_column_32 ki_m1 ?_
    exact hret _ _ _ _ _ dX10_column_33 (Option.some.inj hf) hw
  clear ej
  refine lv_if_eq (tgt := 32) hx hb dX10_column_5 (by decide) (fun c_3 => ?_) (fun c_3 => ?_)
  · have hf := (if_pos c_3).symm.trans hf
    exact R32 _ _ _ hw (lv_sub hl [] rfl) hf
  · have hf := (if_neg c_3).symm.trans hf
    refine lv_iload_n hx hb dX10_column_8 rfl (lv_at hl 2 rfl) ?_
    refine lv_iconst hx hb dX10_column_9 ki_0 ?_
    refine lv_bipush hx hb dX10_column_10 kb_8 ?_
    refine kNi (rest := []) G hw (wX11_within hZ S a2 0 8 (F11_within a2 0 8) rfl) cw_X10_89 ⟨Nat.le_of_ble_eq_true rfl, Nat.le_of_ble_eq_true rfl⟩ rfl hl.1 rfl (Nat.le_of_ble_eq_true rfl) ⟨Nat.le_refl _, Nat.le_refl _⟩ dX10_column_12 (fun H locs hw => ?_)
    refine lv_if_eq (tgt := 32) hx hb dX10_column_15 (by decide) (fun c_2 => ?_) (fun c_2 => ?_)
    · have hf := (if_pos c_2).symm.trans hf
      exact R32 _ _ _ hw (lv_sub hl [] rfl) hf
    · have hf := (if_neg c_2).symm.trans hf
      refine lv_aload_n hx hb dX10_column_18 rfl (lv_at hl 0 rfl) ?_
      refine gF G hw h0 KX10 12 (k2 := (k0 + 5)) rfl (by decide) rfl fl_X10_27 dX10_column_19 ?_
      refine lv_iload_n hx hb dX10_column_22 rfl (lv_at hl 1 rfl) ?_
      refine lv_bipush hx hb dX10_column_23 kb_9 ?_
      refine lv_imul hx hb dX10_column_25 ?_
      refine lv_iload_n hx hb dX10_column_26 rfl (lv_at hl 2 rfl) ?_
      refine lv_iadd hx hb dX10_column_27 ?_
      obtain ⟨hg_1, hf⟩ := bG_e hf
      refine aI G hw (sub_World_lineOf hZ h0) hg_1 (j := ((a1 * 9) + a2).toNatClampNeg) rfl dX10_column_28 ?_
      refine lv_goto (tgt := 33) hx hb dX10_column_29 (by decide) ?_
      exact hret _ _ _ _ _ dX10_column_33 (Option.some.inj hf) hw
noncomputable def F10_isToday (S : pS) (k0 : Nat) (a1 : Int32) (a2 : Int32) : Option (Int32) :=
  bB (F10_column S k0 a1 2) fun r_1 =>
  bL (fun (_ : Unit) =>
    some (0 : Int32)) fun j27 =>
  if r_1 = a2 then
    bB (F10_column S k0 a1 0) fun r_2 =>
    if r_2 = (S k0 1) then
      some (1 : Int32)
    else
      j27 ()
  else
    j27 ()
set_option maxRecDepth 100000 in
set_option maxHeartbeats 4000000 in
theorem wX10_isToday {l : Launch} {Z : pZ}  (hZ : CC Z) (S : pS) (k0 : Nat) (a1 : Int32) (a2 : Int32) (r : Int32) (h0 : isA Z K_World k0) (hf : F10_isToday S k0 a1 a2 = some r) : CI l Z yX10_isToday cX10_isToday 3 .boolean 5 104 [.ref (za Z k0), .int a1, .int a2] S r S := by
  unfold F10_isToday at hf
  refine eZ (own := RX10) (by decide) rfl (Nat.le_of_ble_eq_true rfl) (fun p e s m args below meth c Q ls G hl hw hret => ?_)
  obtain ⟨hx, hb, hml, hown, hts⟩ := G.1
  have hl : lv_has ls 3 [(0, .ref (za Z k0)), (1, .int a1), (2, .int a2)] := hl
  refine lv_aload_n hx hb dX10_isToday_0 rfl (lv_at hl 0 rfl) ?_
  refine lv_iload_n hx hb dX10_isToday_1 rfl (lv_at hl 1 rfl) ?_
  refine lv_iconst hx hb dX10_isToday_2 ki_2 ?_
  obtain ⟨r_1, hr_1, hf⟩ := bB_e hf
  refine kVi (rest := []) G hw (wX10_column hZ S k0 a1 2 r_1 h0 hr_1) cw_X10_110 h0 KX10 ⟨Nat.le_of_ble_eq_true rfl, Nat.le_of_ble_eq_true rfl⟩ rfl hl.1 rfl (Nat.le_of_ble_eq_true rfl) ⟨Nat.le_refl _, Nat.le_refl _⟩ dX10_isToday_3 (fun H locs hw => ?_)
  refine lv_iload_n hx hb dX10_isToday_6 rfl (lv_at hl 2 rfl) ?_
  obtain ⟨j27, ej, hf⟩ := bL_e hf
  have R27 : ∀ (H : Heap) (locs : List Loc) (ls : Array Slot), Wd Z s S H locs → lv_has ls 3 [] → j27 () = some r → W p l e { frames := 5, cells := 0, slots := 0, locals := 104 } s m args below meth c H locs 0 0 Q (F0 m 27 ls []) := by
    intro  H locs ls hw hl hf
    have hf := (congrFun ej ()).symm.trans hf
    refine lv_iconst hx hb dX10_isToday_27 ki_0 ?_
    exact hret _ _ _ _ _ dX10_isToday_28 ((by decide : (0 : Int32) &&& 1 = 0).trans (Option.some.inj hf)) hw
  clear ej
  refine lv_icmp_ne (tgt := 27) hx hb dX10_isToday_7 (by decide) (fun c_4 => ?_) (fun c_4 => ?_)
  · have hf := (if_neg c_4).symm.trans hf
    exact R27 _ _ _ hw (lv_sub hl [] rfl) hf
  · have hf := (if_pos c_4).symm.trans hf
    refine lv_aload_n hx hb dX10_isToday_10 rfl (lv_at hl 0 rfl) ?_
    refine lv_iload_n hx hb dX10_isToday_11 rfl (lv_at hl 1 rfl) ?_
    refine lv_iconst hx hb dX10_isToday_12 ki_0 ?_
    obtain ⟨r_2, hr_2, hf⟩ := bB_e hf
    refine kVi (rest := []) G hw (wX10_column hZ S k0 a1 0 r_2 h0 hr_2) cw_X10_110 h0 KX10 ⟨Nat.le_of_ble_eq_true rfl, Nat.le_of_ble_eq_true rfl⟩ rfl hl.1 rfl (Nat.le_of_ble_eq_true rfl) ⟨Nat.le_refl _, Nat.le_refl _⟩ dX10_isToday_13 (fun H locs hw => ?_)
    refine lv_aload_n hx hb dX10_isToday_16 rfl (lv_at hl 0 rfl) ?_
    refine gI G hw h0 KX10 1 (by decide) rfl fl_X10_51 dX10_isToday_17 ?_
    refine lv_icmp_ne (tgt := 27) hx hb dX10_isToday_20 (by decide) (fun c_3 => ?_) (fun c_3 => ?_)
    · have hf := (if_neg c_3).symm.trans hf
      exact R27 _ _ _ hw (lv_sub hl [] rfl) hf
    · have hf := (if_pos c_3).symm.trans hf
      refine lv_iconst hx hb dX10_isToday_23 ki_1 ?_
      refine lv_goto (tgt := 28) hx hb dX10_isToday_24 (by decide) ?_
      exact hret _ _ _ _ _ dX10_isToday_28 ((by decide : (1 : Int32) &&& 1 = 1).trans (Option.some.inj hf)) hw
noncomputable def F10_rule (S : pS) (k0 : Nat) (a1 : Int32) : Option (Int32) :=
  bL (fun (l2_1 : Int32) =>
    some l2_1) fun g59_4 =>
  bL (u2 fun (l2_2 : Int32) (l3_3 : Int32) =>
    if (S k0 6) ≤ l3_3 then
      some (.inr l2_2)
    else
      bB (F10_column S k0 l3_3 8) fun r_5 =>
      bB (F10_isToday S k0 l3_3 a1) fun r_6 =>
      bL (fun (l2_7 : Int32) =>
        bL (l3_3 + 1) fun l3_8 =>
        some (.inl (l2_7, l3_8))) fun j53 =>
      if r_6 = 0 then
        j53 l2_2
      else
        bL (fun (_ : Unit) =>
          bB (F10_column S k0 l3_3 7) fun r_9 =>
          bL (jmax l2_2 r_9) fun l2_10 =>
          j53 l2_10) fun j41 =>
        if r_5 = 0 then
          j41 ()
        else
          if r_5 = 2 then
            j41 ()
          else
            j53 l2_2) fun b4 =>
  bB (bP b4 ((0 : Int32), (0 : Int32))) (u1 g59_4)
set_option maxRecDepth 100000 in
set_option maxHeartbeats 4000000 in
theorem wX10_rule {l : Launch} {Z : pZ}  (hZ : CC Z) (S : pS) (k0 : Nat) (a1 : Int32) (r : Int32) (h0 : isA Z K_World k0) (hf : F10_rule S k0 a1 = some r) : CI l Z yX10_rule cX10_rule 5 .int 6 126 [.ref (za Z k0), .int a1] S r S := by
  unfold F10_rule at hf
  refine eI (own := RX10) (by decide) rfl (Nat.le_of_ble_eq_true rfl) (fun p e s m args below meth c Q ls G hl hw hret => ?_)
  obtain ⟨hx, hb, hml, hown, hts⟩ := G.1
  have hl : lv_has ls 5 [(0, .ref (za Z k0)), (1, .int a1)] := hl
  refine lv_iconst hx hb dX10_rule_0 ki_0 ?_
  refine lv_istore_n (lv' := [(2, .int 0), (0, .ref (za Z k0)), (1, .int a1)]) hx hb dX10_rule_1 rfl hl (by decide) rfl (fun ls hl => ?_)
  refine lv_iconst hx hb dX10_rule_2 ki_0 ?_
  refine lv_istore_n (lv' := [(3, .int 0), (2, .int 0), (0, .ref (za Z k0)), (1, .int a1)]) hx hb dX10_rule_3 rfl hl (by decide) rfl (fun ls hl => ?_)
  obtain ⟨g59_4, ej, hf⟩ := bL_e hf
  have R59_4 : ∀ (l2_1 : Int32) (H : Heap) (locs : List Loc) (ls : Array Slot), Wd Z s S H locs → lv_has ls 5 [(2, .int l2_1)] → g59_4 l2_1 = some r → W p l e { frames := 6, cells := 0, slots := 0, locals := 126 } s m args below meth c H locs 0 0 Q (F0 m 59 ls []) := by
    intro l2_1 H locs ls hw hl hf
    have hf := (congrFun ej l2_1).symm.trans hf
    refine lv_iload_n hx hb dX10_rule_59 rfl (lv_at hl 0 rfl) ?_
    exact hret _ _ _ _ _ dX10_rule_60 (Option.some.inj hf) hw
  clear ej
  obtain ⟨b4, eb, hf⟩ := bL_e hf
  have RL4 : ∀ (n : Nat) z, (u1 g59_4) z = some r → ∀ (l2_2 : Int32) (l3_3 : Int32) (H : Heap) (locs : List Loc) (ls : Array Slot), Wd Z s S H locs → lv_has ls 5 [(0, .ref (za Z k0)), (1, .int a1), (2, .int l2_2), (3, .int l3_3)] → bPn b4 n (l2_2, l3_3) = some z → W p l e { frames := 6, cells := 0, slots := 0, locals := 126 } s m args below meth c H locs 0 0 Q (F0 m 4 ls []) := by
    intro n
    induction n with
    | zero =>
      intro z hg l2_2 l3_3 H locs ls hw hl hz
      exact bPn_0 hz
    | succ n ih =>
      intro z hg l2_2 l3_3 H locs ls hw hl hz
      obtain ⟨q_4, hf, hz⟩ := bPn_e hz
      have hf := u2_e ((congrFun eb _).symm.trans hf)
      refine lv_iload_n hx hb dX10_rule_4 rfl (lv_at hl 3 rfl) ?_
      refine lv_aload_n hx hb dX10_rule_5 rfl (lv_at hl 0 rfl) ?_
      refine gI G hw h0 KX10 6 (by decide) rfl fl_X10_66 dX10_rule_6 ?_
      refine lv_icmp_ge (tgt := 59) hx hb dX10_rule_9 (by decide) (fun c_14 => ?_) (fun c_14 => ?_)
      · have hf := (if_pos c_14).symm.trans hf
        obtain rfl := Option.some.inj hf
        obtain rfl := Option.some.inj (hz : some _ = some _)
        exact R59_4 _ _ _ _ hw (lv_sub hl [2] rfl) hg
      · have hf := (if_neg c_14).symm.trans hf
        refine lv_aload_n hx hb dX10_rule_12 rfl (lv_at hl 0 rfl) ?_
        refine lv_iload_n hx hb dX10_rule_13 rfl (lv_at hl 3 rfl) ?_
        refine lv_bipush hx hb dX10_rule_14 kb_8 ?_
        obtain ⟨r_5, hr_5, hf⟩ := bB_e hf
        refine kVi (rest := []) G hw (wX10_column hZ S k0 l3_3 8 r_5 h0 hr_5) cw_X10_110 h0 KX10 ⟨Nat.le_of_ble_eq_true rfl, Nat.le_of_ble_eq_true rfl⟩ rfl hl.1 rfl (Nat.le_of_ble_eq_true rfl) ⟨Nat.le_refl _, Nat.le_refl _⟩ dX10_rule_16 (fun H locs hw => ?_)
        refine lv_istore (lv' := [(4, .int r_5), (0, .ref (za Z k0)), (1, .int a1), (2, .int l2_2), (3, .int l3_3)]) hx hb dX10_rule_19 hl (by decide) rfl (fun ls hl => ?_)
        refine lv_aload_n hx hb dX10_rule_21 rfl (lv_at hl 1 rfl) ?_
        refine lv_iload_n hx hb dX10_rule_22 rfl (lv_at hl 4 rfl) ?_
        refine lv_iload_n hx hb dX10_rule_23 rfl (lv_at hl 2 rfl) ?_
        obtain ⟨r_6, hr_6, hf⟩ := bB_e hf
        refine kVi (rest := []) G hw (wX10_isToday hZ S k0 l3_3 a1 r_6 h0 hr_6) cw_X10_114 h0 KX10 ⟨Nat.le_of_ble_eq_true rfl, Nat.le_of_ble_eq_true rfl⟩ rfl hl.1 rfl (Nat.le_of_ble_eq_true rfl) ⟨Nat.le_refl _, Nat.le_refl _⟩ dX10_rule_24 (fun H locs hw => ?_)
        obtain ⟨j53, ej, hf⟩ := bL_e hf
        have R53 : ∀ (l2_7 : Int32) (H : Heap) (locs : List Loc) (ls : Array Slot), Wd Z s S H locs → lv_has ls 5 [(0, .ref (za Z k0)), (1, .int a1), (2, .int l2_7), (3, .int l3_3)] → j53 l2_7 = some q_4 → W p l e { frames := 6, cells := 0, slots := 0, locals := 126 } s m args below meth c H locs 0 0 Q (F0 m 53 ls []) := by
          intro l2_7 H locs ls hw hl hf
          have hf := (congrFun ej l2_7).symm.trans hf
          obtain ⟨l3_8, el3_8, hf⟩ := bL_e hf
          refine lv_iinc (v := l3_8) (lv' := [(3, .int l3_8), (0, .ref (za Z k0)), (1, .int a1), (2, .int l2_7)]) hx hb dX10_rule_53 hl (k := 3) rfl (by rw [el3_8]; rfl) (by decide) rfl (fun ls hl => ?_)
          refine lv_goto (tgt := 4) hx hb dX10_rule_56 (by decide) ?_
          obtain rfl := Option.some.inj hf
          exact ih _ hg _ _ _ _ _ hw (lv_sub hl [1, 2, 3, 0] rfl) hz
        clear ej
        refine lv_if_eq (tgt := 53) hx hb dX10_rule_27 (by decide) (fun c_13 => ?_) (fun c_13 => ?_)
        · have hf := (if_pos c_13).symm.trans hf
          exact R53 _ _ _ _ hw (lv_sub hl [1, 2, 3, 4] rfl) hf
        · have hf := (if_neg c_13).symm.trans hf
          refine lv_iload hx hb dX10_rule_30 (lv_at hl 0 rfl) ?_
          obtain ⟨j41, ej, hf⟩ := bL_e hf
          have R41 : ∀ (H : Heap) (locs : List Loc) (ls : Array Slot), Wd Z s S H locs → lv_has ls 5 [(0, .ref (za Z k0)), (1, .int a1), (2, .int l2_2), (3, .int l3_3)] → j41 () = some q_4 → W p l e { frames := 6, cells := 0, slots := 0, locals := 126 } s m args below meth c H locs 0 0 Q (F0 m 41 ls []) := by
            intro  H locs ls hw hl hf
            have hf := (congrFun ej ()).symm.trans hf
            refine lv_iload_n hx hb dX10_rule_41 rfl (lv_at hl 2 rfl) ?_
            refine lv_aload_n hx hb dX10_rule_42 rfl (lv_at hl 0 rfl) ?_
            refine lv_iload_n hx hb dX10_rule_43 rfl (lv_at hl 3 rfl) ?_
            refine lv_bipush hx hb dX10_rule_44 kb_7 ?_
            obtain ⟨r_9, hr_9, hf⟩ := bB_e hf
            refine kVi (rest := [.int l2_2]) G hw (wX10_column hZ S k0 l3_3 7 r_9 h0 hr_9) cw_X10_110 h0 KX10 ⟨Nat.le_of_ble_eq_true rfl, Nat.le_of_ble_eq_true rfl⟩ rfl hl.1 rfl (Nat.le_of_ble_eq_true rfl) ⟨Nat.le_refl _, Nat.le_refl _⟩ dX10_rule_46 (fun H locs hw => ?_)
            refine xmax G hl.1 ml_X10_118 (Nat.le_of_ble_eq_true rfl) (Nat.le_of_ble_eq_true rfl) ⟨Nat.le_refl _, Nat.le_refl _⟩ dX10_rule_49 ?_
            obtain ⟨l2_10, el2_10, hf⟩ := bL_e hf
            refine top_i el2_10 ?_
            refine lv_istore_n (lv' := [(2, .int l2_10), (0, .ref (za Z k0)), (1, .int a1), (3, .int l3_3)]) hx hb dX10_rule_52 rfl hl (by decide) rfl (fun ls hl => ?_)
            exact R53 _ _ _ _ hw (lv_sub hl [1, 2, 0, 3] rfl) hf
          clear ej
          refine lv_if_eq (tgt := 41) hx hb dX10_rule_32 (by decide) (fun c_12 => ?_) (fun c_12 => ?_)
          · have hf := (if_pos c_12).symm.trans hf
            exact R41 _ _ _ hw (lv_sub hl [1, 2, 3, 4] rfl) hf
          · have hf := (if_neg c_12).symm.trans hf
            refine lv_iload hx hb dX10_rule_35 (lv_at hl 0 rfl) ?_
            refine lv_iconst hx hb dX10_rule_37 ki_2 ?_
            refine lv_icmp_ne (tgt := 53) hx hb dX10_rule_38 (by decide) (fun c_11 => ?_) (fun c_11 => ?_)
            · have hf := (if_neg c_11).symm.trans hf
              exact R53 _ _ _ _ hw (lv_sub hl [1, 2, 3, 4] rfl) hf
            · have hf := (if_pos c_11).symm.trans hf
              exact R41 _ _ _ hw (lv_sub hl [1, 2, 3, 4] rfl) hf
  clear eb
  obtain ⟨z, hz, hf⟩ := bB_e hf
  obtain ⟨n, hz⟩ := bP_e hz
  exact RL4 n z hf _ _ _ _ _ hw (lv_sub hl [2, 3, 1, 0] rfl) hz
noncomputable def F11_of (S : pS) (a1 : Int32) (a2 : Int32) : Option (Int32) :=
  bB (F10_one S 1 a1) fun r_1 =>
  bO r_1 (
    some ((-1) : Int32)) fun o_2 =>
  if a2 = 0 then
    some (S o_2 0)
  else if a2 = 1 then
    some (S o_2 1)
  else if a2 = 2 then
    some (S o_2 2)
  else if a2 = 3 then
    some (S o_2 3)
  else if a2 = 4 then
    bB (F10_rank S 1 o_2) fun r_7 =>
    some r_7
  else if a2 = 5 then
    bB (F10_needs S 1 a1) fun r_9 =>
    some r_9
  else if a2 = 6 then
    some ((S o_2 4) - (S o_2 5))
  else if a2 = 7 then
    bB (F10_rule S 1 a1) fun r_12 =>
    some r_12
  else 
    some ((-1) : Int32)
set_option maxRecDepth 100000 in
set_option maxHeartbeats 4000000 in
theorem wX11_of {l : Launch} {Z : pZ}  (hZ : CC Z) (S : pS) (a1 : Int32) (a2 : Int32) (r : Int32) (h0 : isA Z K_PF 0) (hf : F11_of S a1 a2 = some r) : CI l Z yX11_of cX11_of 4 .int 7 150 [.ref (za Z 0), .int a1, .int a2] S r S := by
  unfold F11_of at hf
  refine eI (own := RX11) (by decide) rfl (Nat.le_of_ble_eq_true rfl) (fun p e s m args below meth c Q ls G hl hw hret => ?_)
  obtain ⟨hx, hb, hml, hown, hts⟩ := G.1
  have hl : lv_has ls 4 [(0, .ref (za Z 0)), (1, .int a1), (2, .int a2)] := hl
  refine lv_aload_n hx hb dX11_of_0 rfl (lv_at hl 0 rfl) ?_
  refine gF G hw h0 KX11 0 (k2 := 1) rfl (by decide) rfl fl_X11_10 dX11_of_1 ?_
  refine lv_iload_n hx hb dX11_of_4 rfl (lv_at hl 1 rfl) ?_
  obtain ⟨r_1, hr_1, hf⟩ := bB_e hf
  refine kVq (rest := []) G hw (wX10_one hZ S 1 a1 r_1 (sub_PF_now hZ h0) hr_1) cw_X11_80 (sub_PF_now hZ h0) KX10 ⟨Nat.le_of_ble_eq_true rfl, Nat.le_of_ble_eq_true rfl⟩ rfl hl.1 rfl (Nat.le_of_ble_eq_true rfl) ⟨Nat.le_refl _, Nat.le_refl _⟩ dX11_of_5 (fun H locs hw => ?_)
  refine astQn (lv' := [(3, va_rf (Option.map (za Z) r_1)), (0, .ref (za Z 0)), (1, .int a1), (2, .int a2)]) hx hb dX11_of_8 rfl hl (by decide) rfl (fun ls hl => ?_)
  refine aldQn hx hb dX11_of_9 rfl (lv_at hl 0 rfl) ?_
  refine ifnnQ (tgt := 15) hx hb dX11_of_10 (by decide) (fun e_14 => ?_) (fun o_2 e_14 => ?_)
  · subst e_14
    have hf := bO_n rfl hf
    refine lv_iconst hx hb dX11_of_13 ki_m1 ?_
    exact hret _ _ _ _ _ dX11_of_14 (Option.some.inj hf) hw
  · subst e_14
    have hf := bO_s rfl hf
    have ho_2 := ret_X10_one hZ S 1 a1 (sub_PF_now hZ h0) (hr_1.trans (congrArg some rfl))
    refine lv_iload_n hx hb dX11_of_15 rfl (lv_at hl 3 rfl) ?_
    by_cases c_3 : a2 = 0
    · have hf := (if_pos c_3).symm.trans hf
      refine lv_tableIn (tgt := 64) hx hb dX11_of_16 (by rw [c_3]; decide) (by rw [c_3]; decide) (off := 48) (by rw [c_3]; decide) (by decide) ?_
      refine lv_aload_n hx hb dX11_of_64 rfl (lv_at hl 0 rfl) ?_
      refine gI G hw ho_2 KX8 0 (by decide) rfl fl_X11_84 dX11_of_65 ?_
      exact hret _ _ _ _ _ dX11_of_68 (Option.some.inj hf) hw
    have hf := (if_neg c_3).symm.trans hf
    by_cases c_4 : a2 = 1
    · have hf := (if_pos c_4).symm.trans hf
      refine lv_tableIn (tgt := 69) hx hb dX11_of_16 (by rw [c_4]; decide) (by rw [c_4]; decide) (off := 53) (by rw [c_4]; decide) (by decide) ?_
      refine lv_aload_n hx hb dX11_of_69 rfl (lv_at hl 0 rfl) ?_
      refine gI G hw ho_2 KX8 1 (by decide) rfl fl_X11_89 dX11_of_70 ?_
      exact hret _ _ _ _ _ dX11_of_73 (Option.some.inj hf) hw
    have hf := (if_neg c_4).symm.trans hf
    by_cases c_5 : a2 = 2
    · have hf := (if_pos c_5).symm.trans hf
      refine lv_tableIn (tgt := 74) hx hb dX11_of_16 (by rw [c_5]; decide) (by rw [c_5]; decide) (off := 58) (by rw [c_5]; decide) (by decide) ?_
      refine lv_aload_n hx hb dX11_of_74 rfl (lv_at hl 0 rfl) ?_
      refine gI G hw ho_2 KX8 2 (by decide) rfl fl_X11_250 dX11_of_75 ?_
      exact hret _ _ _ _ _ dX11_of_78 (Option.some.inj hf) hw
    have hf := (if_neg c_5).symm.trans hf
    by_cases c_6 : a2 = 3
    · have hf := (if_pos c_6).symm.trans hf
      refine lv_tableIn (tgt := 79) hx hb dX11_of_16 (by rw [c_6]; decide) (by rw [c_6]; decide) (off := 63) (by rw [c_6]; decide) (by decide) ?_
      refine lv_aload_n hx hb dX11_of_79 rfl (lv_at hl 0 rfl) ?_
      refine gI G hw ho_2 KX8 3 (by decide) rfl fl_X11_247 dX11_of_80 ?_
      exact hret _ _ _ _ _ dX11_of_83 (Option.some.inj hf) hw
    have hf := (if_neg c_6).symm.trans hf
    by_cases c_8 : a2 = 4
    · have hf := (if_pos c_8).symm.trans hf
      refine lv_tableIn (tgt := 84) hx hb dX11_of_16 (by rw [c_8]; decide) (by rw [c_8]; decide) (off := 68) (by rw [c_8]; decide) (by decide) ?_
      refine lv_aload_n hx hb dX11_of_84 rfl (lv_at hl 1 rfl) ?_
      refine gF G hw h0 KX11 0 (k2 := 1) rfl (by decide) rfl fl_X11_10 dX11_of_85 ?_
      refine lv_aload_n hx hb dX11_of_88 rfl (lv_at hl 0 rfl) ?_
      obtain ⟨r_7, hr_7, hf⟩ := bB_e hf
      refine kVi (rest := []) G hw (wX10_rank hZ S 1 o_2 r_7 (sub_PF_now hZ h0) ho_2 hr_7) cw_X11_295 (sub_PF_now hZ h0) KX10 ⟨Nat.le_of_ble_eq_true rfl, Nat.le_of_ble_eq_true rfl⟩ rfl hl.1 rfl (Nat.le_of_ble_eq_true rfl) ⟨Nat.le_refl _, Nat.le_refl _⟩ dX11_of_89 (fun H locs hw => ?_)
      exact hret _ _ _ _ _ dX11_of_92 (Option.some.inj hf) hw
    have hf := (if_neg c_8).symm.trans hf
    by_cases c_10 : a2 = 5
    · have hf := (if_pos c_10).symm.trans hf
      refine lv_tableIn (tgt := 93) hx hb dX11_of_16 (by rw [c_10]; decide) (by rw [c_10]; decide) (off := 77) (by rw [c_10]; decide) (by decide) ?_
      refine lv_aload_n hx hb dX11_of_93 rfl (lv_at hl 1 rfl) ?_
      refine gF G hw h0 KX11 0 (k2 := 1) rfl (by decide) rfl fl_X11_10 dX11_of_94 ?_
      refine lv_iload_n hx hb dX11_of_97 rfl (lv_at hl 2 rfl) ?_
      obtain ⟨r_9, hr_9, hf⟩ := bB_e hf
      refine kVi (rest := []) G hw (wX10_needs hZ S 1 a1 r_9 (sub_PF_now hZ h0) hr_9) cw_X11_298 (sub_PF_now hZ h0) KX10 ⟨Nat.le_of_ble_eq_true rfl, Nat.le_of_ble_eq_true rfl⟩ rfl hl.1 rfl (Nat.le_of_ble_eq_true rfl) ⟨Nat.le_refl _, Nat.le_refl _⟩ dX11_of_98 (fun H locs hw => ?_)
      exact hret _ _ _ _ _ dX11_of_101 (Option.some.inj hf) hw
    have hf := (if_neg c_10).symm.trans hf
    by_cases c_11 : a2 = 6
    · have hf := (if_pos c_11).symm.trans hf
      refine lv_tableIn (tgt := 102) hx hb dX11_of_16 (by rw [c_11]; decide) (by rw [c_11]; decide) (off := 86) (by rw [c_11]; decide) (by decide) ?_
      refine lv_aload_n hx hb dX11_of_102 rfl (lv_at hl 0 rfl) ?_
      refine gI G hw ho_2 KX8 4 (by decide) rfl fl_X11_165 dX11_of_103 ?_
      refine lv_aload_n hx hb dX11_of_106 rfl (lv_at hl 0 rfl) ?_
      refine gI G hw ho_2 KX8 5 (by decide) rfl fl_X11_167 dX11_of_107 ?_
      refine lv_isub hx hb dX11_of_110 ?_
      exact hret _ _ _ _ _ dX11_of_111 (Option.some.inj hf) hw
    have hf := (if_neg c_11).symm.trans hf
    by_cases c_13 : a2 = 7
    · have hf := (if_pos c_13).symm.trans hf
      refine lv_tableIn (tgt := 112) hx hb dX11_of_16 (by rw [c_13]; decide) (by rw [c_13]; decide) (off := 96) (by rw [c_13]; decide) (by decide) ?_
      refine lv_aload_n hx hb dX11_of_112 rfl (lv_at hl 1 rfl) ?_
      refine gF G hw h0 KX11 0 (k2 := 1) rfl (by decide) rfl fl_X11_10 dX11_of_113 ?_
      refine lv_iload_n hx hb dX11_of_116 rfl (lv_at hl 2 rfl) ?_
      obtain ⟨r_12, hr_12, hf⟩ := bB_e hf
      refine kVi (rest := []) G hw (wX10_rule hZ S 1 a1 r_12 (sub_PF_now hZ h0) hr_12) cw_X11_301 (sub_PF_now hZ h0) KX10 ⟨Nat.le_of_ble_eq_true rfl, Nat.le_of_ble_eq_true rfl⟩ rfl hl.1 rfl (Nat.le_of_ble_eq_true rfl) ⟨Nat.le_refl _, Nat.le_refl _⟩ dX11_of_117 (fun H locs hw => ?_)
      exact hret _ _ _ _ _ dX11_of_120 (Option.some.inj hf) hw
    have hf := (if_neg c_13).symm.trans hf
    refine lv_tableOut (tgt := 121) hx hb dX11_of_16 (sw_out [0, 1, 2, 3, 4, 5, 6, 7] (by decide +kernel) (List.forall_mem_cons.mpr ⟨c_3, (List.forall_mem_cons.mpr ⟨c_4, (List.forall_mem_cons.mpr ⟨c_5, (List.forall_mem_cons.mpr ⟨c_6, (List.forall_mem_cons.mpr ⟨c_8, (List.forall_mem_cons.mpr ⟨c_10, (List.forall_mem_cons.mpr ⟨c_11, (List.forall_mem_cons.mpr ⟨c_13, (fun _ h => absurd h List.not_mem_nil)⟩)⟩)⟩)⟩)⟩)⟩)⟩)⟩)) (by decide) ?_
    refine lv_iconst hx hb dX11_of_121 ki_m1 ?_
    exact hret _ _ _ _ _ dX11_of_122 (Option.some.inj hf) hw

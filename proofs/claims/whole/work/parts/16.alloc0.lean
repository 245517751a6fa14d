/-! chance and train that stop before they make an object -/
set_option maxRecDepth 100000 in
set_option maxHeartbeats 4000000 in
theorem wX11_train0 {l : Launch} {Z : pZ}  (hZ : CC Z) (S : pS) (a1 : Int32) (a2 : Int32) (a3 : Int32) (a4 : Int32) (r : Int32) (S2 : pS) (h0 : isA Z K_PF 0) (hn : pmu (S 0 7) = none) (hf : F11_train S a1 a2 a3 a4 = some (r, S2)) : CI l Z yX11_train cX11_train 7 .int 8 189 [.ref (za Z 0), .int a1, .int a2, .int a3, .int a4] S r S2 := by
  unfold F11_train at hf
  refine eI (own := RX11) (by decide) rfl (Nat.le_of_ble_eq_true rfl) (fun p e s m args below meth c Q ls G hl hw hret => ?_)
  obtain ⟨hx, hb, hml, hown, hts⟩ := G.1
  have hl : lv_has ls 7 [(0, .ref (za Z 0)), (1, .int a1), (2, .int a2), (3, .int a3), (4, .int a4)] := hl
  refine lv_aload_n hx hb dX11_train_0 rfl (lv_at hl 0 rfl) ?_
  refine gF G hw h0 KX11 0 (k2 := 1) rfl (by decide) rfl fl_X11_10 dX11_train_1 ?_
  refine lv_iload_n hx hb dX11_train_4 rfl (lv_at hl 1 rfl) ?_
  obtain ⟨r_1, hr_1, hf⟩ := bB_e hf
  refine kVq (rest := []) G hw (wX10_one hZ S 1 a1 r_1 (sub_PF_now hZ h0) hr_1) cw_X11_80 (sub_PF_now hZ h0) KX10 ⟨Nat.le_of_ble_eq_true rfl, Nat.le_of_ble_eq_true rfl⟩ rfl hl.1 rfl (Nat.le_of_ble_eq_true rfl) ⟨Nat.le_refl _, Nat.le_refl _⟩ dX11_train_5 (fun H locs hw => ?_)
  refine astQ (lv' := [(5, va_rf (Option.map (za Z) r_1)), (0, .ref (za Z 0)), (1, .int a1), (2, .int a2), (3, .int a3), (4, .int a4)]) hx hb dX11_train_8 hl (by decide) rfl (fun ls hl => ?_)
  refine aldQ hx hb dX11_train_10 (lv_at hl 0 rfl) ?_
  refine ifnQ (tgt := 46) hx hb dX11_train_12 (by decide) (fun e_17 => ?_) (fun o_2 e_17 => ?_)
  · subst e_17
    have hf := bO_n rfl hf
    refine lv_iconst hx hb dX11_train_46 ki_m1 ?_
    obtain ⟨e1, e2⟩ := Prod.mk.inj (Option.some.inj hf)
    exact hret _ _ _ _ _ dX11_train_47 e1 (by rw [← e2]; exact hw)
  · subst e_17
    have hf := bO_s rfl hf
    have ho_2 := ret_X10_one hZ S 1 a1 (sub_PF_now hZ h0) (hr_1.trans (congrArg some rfl))
    refine lv_iload_n hx hb dX11_train_15 rfl (lv_at hl 3 rfl) ?_
    refine lv_iconst hx hb dX11_train_16 ki_1 ?_
    refine lv_bipush hx hb dX11_train_17 kb_12 ?_
    refine kSi (rest := []) G hw (wX11_within hZ S a2 1 12 (F11_within a2 1 12) rfl) cw_X11_51 ⟨Nat.le_of_ble_eq_true rfl, Nat.le_of_ble_eq_true rfl⟩ rfl hl.1 rfl (Nat.le_of_ble_eq_true rfl) ⟨Nat.le_refl _, Nat.le_refl _⟩ dX11_train_19 (fun H locs hw => ?_)
    refine lv_if_eq (tgt := 46) hx hb dX11_train_22 (by decide) (fun c_16 => ?_) (fun c_16 => ?_)
    · have hf := (if_pos c_16).symm.trans hf
      refine lv_iconst hx hb dX11_train_46 ki_m1 ?_
      obtain ⟨e1, e2⟩ := Prod.mk.inj (Option.some.inj hf)
      exact hret _ _ _ _ _ dX11_train_47 e1 (by rw [← e2]; exact hw)
    · have hf := (if_neg c_16).symm.trans hf
      refine lv_iload_n hx hb dX11_train_25 rfl (lv_at hl 4 rfl) ?_
      refine lv_iconst hx hb dX11_train_26 ki_0 ?_
      refine lv_sipush hx hb dX11_train_27 ks_1000 ?_
      refine kSi (rest := []) G hw (wX11_within hZ S a3 0 1000 (F11_within a3 0 1000) rfl) cw_X11_51 ⟨Nat.le_of_ble_eq_true rfl, Nat.le_of_ble_eq_true rfl⟩ rfl hl.1 rfl (Nat.le_of_ble_eq_true rfl) ⟨Nat.le_refl _, Nat.le_refl _⟩ dX11_train_30 (fun H locs hw => ?_)
      refine lv_if_eq (tgt := 46) hx hb dX11_train_33 (by decide) (fun c_15 => ?_) (fun c_15 => ?_)
      · have hf := (if_pos c_15).symm.trans hf
        refine lv_iconst hx hb dX11_train_46 ki_m1 ?_
        obtain ⟨e1, e2⟩ := Prod.mk.inj (Option.some.inj hf)
        exact hret _ _ _ _ _ dX11_train_47 e1 (by rw [← e2]; exact hw)
      · have hf := (if_neg c_15).symm.trans hf
        refine lv_iload hx hb dX11_train_36 (lv_at hl 5 rfl) ?_
        refine lv_iconst hx hb dX11_train_38 ki_0 ?_
        refine lv_iconst hx hb dX11_train_39 ki_1 ?_
        refine kSi (rest := []) G hw (wX11_within hZ S a4 0 1 (F11_within a4 0 1) rfl) cw_X11_51 ⟨Nat.le_of_ble_eq_true rfl, Nat.le_of_ble_eq_true rfl⟩ rfl hl.1 rfl (Nat.le_of_ble_eq_true rfl) ⟨Nat.le_refl _, Nat.le_refl _⟩ dX11_train_40 (fun H locs hw => ?_)
        refine lv_if_ne (tgt := 48) hx hb dX11_train_43 (by decide) (fun c_14 => ?_) (fun c_14 => ?_)
        · have hf := (if_neg c_14).symm.trans hf
          refine lv_aload_n hx hb dX11_train_48 rfl (lv_at hl 1 rfl) ?_
          obtain ⟨hg1, hf⟩ := bG_e hf
          exact absurd (hn.symm.trans hg1) (by simp)
        · have hf := (if_pos c_14).symm.trans hf
          refine lv_iconst hx hb dX11_train_46 ki_m1 ?_
          obtain ⟨e1, e2⟩ := Prod.mk.inj (Option.some.inj hf)
          exact hret _ _ _ _ _ dX11_train_47 e1 (by rw [← e2]; exact hw)
set_option maxRecDepth 100000 in
set_option maxHeartbeats 4000000 in
theorem wX11_chance0 {l : Launch} {Z : pZ}  (hZ : CC Z) (S : pS) (a1 : Int32) (a2 : Int32) (a3 : Int32) (a4 : Int32) (a5 : Int32) (a6 : Int32) (r : Int32) (S2 : pS) (h0 : isA Z K_PF 0) (h15 : isA Z K_Law 15) (hn : pmu (S 0 6) = none) (hf : F11_chance S a1 a2 a3 a4 a5 a6 = some (r, S2)) : CI l Z yX11_chance cX11_chance 10 .int 49 2605 [.ref (za Z 0), .int a1, .int a2, .int a3, .int a4, .int a5, .int a6] S r S2 := by
  unfold F11_chance at hf
  refine eI (own := RX11) (by decide) rfl (Nat.le_of_ble_eq_true rfl) (fun p e s m args below meth c Q ls G hl hw hret => ?_)
  obtain ⟨hx, hb, hml, hown, hts⟩ := G.1
  have hl : lv_has ls 10 [(0, .ref (za Z 0)), (1, .int a1), (2, .int a2), (3, .int a3), (4, .int a4), (5, .int a5), (6, .int a6)] := hl
  refine lv_aload_n hx hb dX11_chance_0 rfl (lv_at hl 0 rfl) ?_
  refine gF G hw h0 KX11 0 (k2 := 1) rfl (by decide) rfl fl_X11_10 dX11_chance_1 ?_
  refine lv_iload_n hx hb dX11_chance_4 rfl (lv_at hl 1 rfl) ?_
  obtain ⟨r_1, hr_1, hf⟩ := bB_e hf
  refine kVq (rest := []) G hw (wX10_one hZ S 1 a1 r_1 (sub_PF_now hZ h0) hr_1) cw_X11_80 (sub_PF_now hZ h0) KX10 ⟨Nat.le_of_ble_eq_true rfl, Nat.le_of_ble_eq_true rfl⟩ rfl hl.1 rfl (Nat.le_of_ble_eq_true rfl) ⟨Nat.le_refl _, Nat.le_refl _⟩ dX11_chance_5 (fun H locs hw => ?_)
  refine astQ (lv' := [(7, va_rf (Option.map (za Z) r_1)), (0, .ref (za Z 0)), (1, .int a1), (2, .int a2), (3, .int a3), (4, .int a4), (5, .int a5), (6, .int a6)]) hx hb dX11_chance_8 hl (by decide) rfl (fun ls hl => ?_)
  refine aldQ hx hb dX11_chance_10 (lv_at hl 0 rfl) ?_
  refine ifnQ (tgt := 47) hx hb dX11_chance_12 (by decide) (fun e_22 => ?_) (fun o_2 e_22 => ?_)
  · subst e_22
    have hf := bO_n rfl hf
    refine lv_iconst hx hb dX11_chance_47 ki_m1 ?_
    obtain ⟨e1, e2⟩ := Prod.mk.inj (Option.some.inj hf)
    exact hret _ _ _ _ _ dX11_chance_48 e1 (by rw [← e2]; exact hw)
  · subst e_22
    have hf := bO_s rfl hf
    have ho_2 := ret_X10_one hZ S 1 a1 (sub_PF_now hZ h0) (hr_1.trans (congrArg some rfl))
    refine lv_iload_n hx hb dX11_chance_15 rfl (lv_at hl 4 rfl) ?_
    refine lv_iconst hx hb dX11_chance_16 ki_0 ?_
    refine lv_bipush hx hb dX11_chance_17 kb_6 ?_
    refine kSi (rest := []) G hw (wX11_within hZ S a3 0 6 (F11_within a3 0 6) rfl) cw_X11_51 ⟨Nat.le_of_ble_eq_true rfl, Nat.le_of_ble_eq_true rfl⟩ rfl hl.1 rfl (Nat.le_of_ble_eq_true rfl) ⟨Nat.le_refl _, Nat.le_refl _⟩ dX11_chance_19 (fun H locs hw => ?_)
    refine lv_if_eq (tgt := 47) hx hb dX11_chance_22 (by decide) (fun c_21 => ?_) (fun c_21 => ?_)
    · have hf := (if_pos c_21).symm.trans hf
      refine lv_iconst hx hb dX11_chance_47 ki_m1 ?_
      obtain ⟨e1, e2⟩ := Prod.mk.inj (Option.some.inj hf)
      exact hret _ _ _ _ _ dX11_chance_48 e1 (by rw [← e2]; exact hw)
    · have hf := (if_neg c_21).symm.trans hf
      refine lv_aload_n hx hb dX11_chance_25 rfl (lv_at hl 1 rfl) ?_
      refine lv_iconst hx hb dX11_chance_26 ki_0 ?_
      refine lv_iload hx hb dX11_chance_27 (lv_at hl 5 rfl) ?_
      refine lv_iload hx hb dX11_chance_29 (lv_at hl 6 rfl) ?_
      refine kVi (rest := []) G hw (wX11_canThrow hZ S 0 a4 a5 (F11_canThrow S 0 a4 a5) h0 rfl) cw_X11_186 h0 KX11 ⟨Nat.le_of_ble_eq_true rfl, Nat.le_of_ble_eq_true rfl⟩ rfl hl.1 rfl (Nat.le_of_ble_eq_true rfl) ⟨Nat.le_refl _, Nat.le_refl _⟩ dX11_chance_31 (fun H locs hw => ?_)
      refine lv_if_eq (tgt := 47) hx hb dX11_chance_34 (by decide) (fun c_20 => ?_) (fun c_20 => ?_)
      · have hf := (if_pos c_20).symm.trans hf
        refine lv_iconst hx hb dX11_chance_47 ki_m1 ?_
        obtain ⟨e1, e2⟩ := Prod.mk.inj (Option.some.inj hf)
        exact hret _ _ _ _ _ dX11_chance_48 e1 (by rw [← e2]; exact hw)
      · have hf := (if_neg c_20).symm.trans hf
        refine lv_iload hx hb dX11_chance_37 (lv_at hl 7 rfl) ?_
        refine lv_iconst hx hb dX11_chance_39 ki_0 ?_
        refine lv_iconst hx hb dX11_chance_40 ki_1 ?_
        refine kSi (rest := []) G hw (wX11_within hZ S a6 0 1 (F11_within a6 0 1) rfl) cw_X11_51 ⟨Nat.le_of_ble_eq_true rfl, Nat.le_of_ble_eq_true rfl⟩ rfl hl.1 rfl (Nat.le_of_ble_eq_true rfl) ⟨Nat.le_refl _, Nat.le_refl _⟩ dX11_chance_41 (fun H locs hw => ?_)
        refine lv_if_ne (tgt := 49) hx hb dX11_chance_44 (by decide) (fun c_19 => ?_) (fun c_19 => ?_)
        · have hf := (if_neg c_19).symm.trans hf
          refine lv_aload_n hx hb dX11_chance_49 rfl (lv_at hl 1 rfl) ?_
          obtain ⟨hg1, hf⟩ := bG_e hf
          exact absurd (hn.symm.trans hg1) (by simp)
        · have hf := (if_pos c_19).symm.trans hf
          refine lv_iconst hx hb dX11_chance_47 ki_m1 ?_
          obtain ⟨e1, e2⟩ := Prod.mk.inj (Option.some.inj hf)
          exact hret _ _ _ _ _ dX11_chance_48 e1 (by rw [← e2]; exact hw)

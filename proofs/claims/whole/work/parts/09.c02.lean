noncomputable def F6_put (S : pS) (k0 : Nat) (a1 : Int32) (a2 : Int32) (a3 : Int32) : Option (pS) :=
  if 400 < (S k0 5) then
    some S
  else
    bG (vp_in (S k0 5) 401) <|
    bL (sU S (k0 + 2) ((S k0 5).toNatClampNeg) a1) fun S_2 =>
    bG (vp_in (S_2 k0 5) 401) <|
    bL (sU S_2 (k0 + 3) ((S_2 k0 5).toNatClampNeg) a2) fun S_4 =>
    bG (vp_in (S_4 k0 5) 401) <|
    bL (sU S_4 (k0 + 4) ((S_4 k0 5).toNatClampNeg) a3) fun S_6 =>
    bL (sU S_6 k0 5 ((S_6 k0 5) + 1)) fun S_7 =>
    some S_7
set_option maxRecDepth 100000 in
set_option maxHeartbeats 4000000 in
theorem wX6_put {l : Launch} {Z : pZ}  (hZ : CC Z) (S : pS) (k0 : Nat) (a1 : Int32) (a2 : Int32) (a3 : Int32) (S2 : pS) (h0 : isA Z K_Tape k0) (hf : F6_put S k0 a1 a2 a3 = some S2) : CV l Z yX6_put cX6_put 4 3 60 [.ref (za Z k0), .int a1, .int a2, .int a3] S S2 := by
  unfold F6_put at hf
  refine eV (own := RX6) (by decide) rfl (Nat.le_of_ble_eq_true rfl) (fun p e s m args below meth c Q ls G hl hw hret => ?_)
  obtain ⟨hx, hb, hml, hown, hts⟩ := G.1
  have hl : lv_has ls 4 [(0, .ref (za Z k0)), (1, .int a1), (2, .int a2), (3, .int a3)] := hl
  refine lv_aload_n hx hb dX6_put_0 rfl (lv_at hl 0 rfl) ?_
  refine gI G hw h0 KX6 5 (by decide) rfl fl_X6_32 dX6_put_1 ?_
  refine lv_sipush hx hb dX6_put_4 ks_400 ?_
  refine lv_icmp_gt (tgt := 50) hx hb dX6_put_7 (by decide) (fun c_8 => ?_) (fun c_8 => ?_)
  · have hf := (if_pos c_8).symm.trans hf
    exact hret _ _ _ _ dX6_put_50 (by rw [← (Option.some.inj hf)]; exact hw)
  · have hf := (if_neg c_8).symm.trans hf
    refine lv_aload_n hx hb dX6_put_10 rfl (lv_at hl 0 rfl) ?_
    refine gF G hw h0 KX6 7 (k2 := (k0 + 2)) rfl (by decide) rfl fl_X6_15 dX6_put_11 ?_
    refine lv_aload_n hx hb dX6_put_14 rfl (lv_at hl 0 rfl) ?_
    refine gI G hw h0 KX6 5 (by decide) rfl fl_X6_32 dX6_put_15 ?_
    refine lv_iload_n hx hb dX6_put_18 rfl (lv_at hl 1 rfl) ?_
    obtain ⟨hg_1, hf⟩ := bG_e hf
    obtain ⟨S_2, eS_2, hf⟩ := bL_e hf
    refine sI G hw (sub_Tape_kinds hZ h0) hg_1 (j := (S k0 5).toNatClampNeg) rfl eS_2 dX6_put_19 (fun H locs hw => ?_)
    refine lv_aload_n hx hb dX6_put_20 rfl (lv_at hl 0 rfl) ?_
    refine gF G hw h0 KX6 8 (k2 := (k0 + 3)) rfl (by decide) rfl fl_X6_19 dX6_put_21 ?_
    refine lv_aload_n hx hb dX6_put_24 rfl (lv_at hl 0 rfl) ?_
    refine gI G hw h0 KX6 5 (by decide) rfl fl_X6_32 dX6_put_25 ?_
    refine lv_iload_n hx hb dX6_put_28 rfl (lv_at hl 2 rfl) ?_
    obtain ⟨hg_3, hf⟩ := bG_e hf
    obtain ⟨S_4, eS_4, hf⟩ := bL_e hf
    refine sI G hw (sub_Tape_values hZ h0) hg_3 (j := (S_2 k0 5).toNatClampNeg) rfl eS_4 dX6_put_29 (fun H locs hw => ?_)
    refine lv_aload_n hx hb dX6_put_30 rfl (lv_at hl 0 rfl) ?_
    refine gF G hw h0 KX6 9 (k2 := (k0 + 4)) rfl (by decide) rfl fl_X6_22 dX6_put_31 ?_
    refine lv_aload_n hx hb dX6_put_34 rfl (lv_at hl 0 rfl) ?_
    refine gI G hw h0 KX6 5 (by decide) rfl fl_X6_32 dX6_put_35 ?_
    refine lv_iload_n hx hb dX6_put_38 rfl (lv_at hl 3 rfl) ?_
    obtain ⟨hg_5, hf⟩ := bG_e hf
    obtain ⟨S_6, eS_6, hf⟩ := bL_e hf
    refine sI G hw (sub_Tape_places hZ h0) hg_5 (j := (S_4 k0 5).toNatClampNeg) rfl eS_6 dX6_put_39 (fun H locs hw => ?_)
    refine lv_aload_n hx hb dX6_put_40 rfl (lv_at hl 0 rfl) ?_
    refine lv_dup hx hb dX6_put_41 rfl ?_
    refine gI G hw h0 KX6 5 (by decide) rfl fl_X6_32 dX6_put_42 ?_
    refine lv_iconst hx hb dX6_put_45 ki_1 ?_
    refine lv_iadd hx hb dX6_put_46 ?_
    obtain ⟨S_7, eS_7, hf⟩ := bL_e hf
    refine pI G hw h0 KX6 5 (by decide) rfl rfl rfl eS_7 fl_X6_32 dX6_put_47 (fun H locs hw => ?_)
    exact hret _ _ _ _ dX6_put_50 (by rw [← (Option.some.inj hf)]; exact hw)
noncomputable def F6_runFrom (S : pS) (k0 : Nat) (a1 : Int32) (a2 : Int32) : Option (Int32) :=
  bL (fun (l3_1 : Int32) =>
    some l3_1) fun g54_5 =>
  bL (fun (l3_2 : Int32) =>
    some l3_2) fun g32_5 =>
  bL (fun (l3_3 : Int32) =>
    some l3_3) fun g43_5 =>
  bL (u2 fun (l3_4 : Int32) (l4_5 : Int32) =>
    if 400 ≤ l4_5 then
      some (.inr (.inl l3_4))
    else
      bB (F6_byteAt S k0 l3_4) fun r_7 =>
      bL (fun (_ : Unit) =>
        bL (l3_4 + 1) fun l3_8 =>
        bL (l4_5 + 1) fun l4_9 =>
        some (.inl (l3_8, l4_9))) fun j45 =>
      if a2 = 0 then
        if (F6_isDigit r_7) = 0 then
          some (.inr (.inr (.inr l3_4)))
        else
          j45 ()
      else
        if (F6_isLetter r_7) = 0 then
          some (.inr (.inr (.inl l3_4)))
        else
          j45 ()) fun b5 =>
  bB (bP b5 (a1, (0 : Int32))) (Sum.elim (u1 g54_5) (Sum.elim (u1 g32_5) (u1 g43_5)))
set_option maxRecDepth 100000 in
set_option maxHeartbeats 4000000 in
theorem wX6_runFrom {l : Launch} {Z : pZ}  (hZ : CC Z) (S : pS) (k0 : Nat) (a1 : Int32) (a2 : Int32) (r : Int32) (h0 : isA Z K_Tape k0) (hf : F6_runFrom S k0 a1 a2 = some r) : CI l Z yX6_runFrom cX6_runFrom 6 .int 5 102 [.ref (za Z k0), .int a1, .int a2] S r S := by
  unfold F6_runFrom at hf
  refine eI (own := RX6) (by decide) rfl (Nat.le_of_ble_eq_true rfl) (fun p e s m args below meth c Q ls G hl hw hret => ?_)
  obtain ⟨hx, hb, hml, hown, hts⟩ := G.1
  have hl : lv_has ls 6 [(0, .ref (za Z k0)), (1, .int a1), (2, .int a2)] := hl
  refine lv_iload_n hx hb dX6_runFrom_0 rfl (lv_at hl 1 rfl) ?_
  refine lv_istore_n (lv' := [(3, .int a1), (0, .ref (za Z k0)), (1, .int a1), (2, .int a2)]) hx hb dX6_runFrom_1 rfl hl (by decide) rfl (fun ls hl => ?_)
  refine lv_iconst hx hb dX6_runFrom_2 ki_0 ?_
  refine lv_istore (lv' := [(4, .int 0), (3, .int a1), (0, .ref (za Z k0)), (1, .int a1), (2, .int a2)]) hx hb dX6_runFrom_3 hl (by decide) rfl (fun ls hl => ?_)
  obtain ⟨g54_5, ej, hf⟩ := bL_e hf
  have R54_5 : ∀ (l3_1 : Int32) (H : Heap) (locs : List Loc) (ls : Array Slot), Wd Z s S H locs → lv_has ls 6 [(3, .int l3_1)] → g54_5 l3_1 = some r → W p l e { frames := 5, cells := 0, slots := 0, locals := 102 } s m args below meth c H locs 0 0 Q (F0 m 54 ls []) := by
    intro l3_1 H locs ls hw hl hf
    have hf := (congrFun ej l3_1).symm.trans hf
    refine lv_iload_n hx hb dX6_runFrom_54 rfl (lv_at hl 0 rfl) ?_
    exact hret _ _ _ _ _ dX6_runFrom_55 (Option.some.inj hf) hw
  clear ej
  obtain ⟨g32_5, ej, hf⟩ := bL_e hf
  have R32_5 : ∀ (l3_2 : Int32) (H : Heap) (locs : List Loc) (ls : Array Slot), Wd Z s S H locs → lv_has ls 6 [(3, .int l3_2)] → g32_5 l3_2 = some r → W p l e { frames := 5, cells := 0, slots := 0, locals := 102 } s m args below meth c H locs 0 0 Q (F0 m 32 ls []) := by
    intro l3_2 H locs ls hw hl hf
    have hf := (congrFun ej l3_2).symm.trans hf
    refine lv_goto (tgt := 43) hx hb dX6_runFrom_32 (by decide) ?_
    refine lv_iload_n hx hb dX6_runFrom_43 rfl (lv_at hl 0 rfl) ?_
    exact hret _ _ _ _ _ dX6_runFrom_44 (Option.some.inj hf) hw
  clear ej
  obtain ⟨g43_5, ej, hf⟩ := bL_e hf
  have R43_5 : ∀ (l3_3 : Int32) (H : Heap) (locs : List Loc) (ls : Array Slot), Wd Z s S H locs → lv_has ls 6 [(3, .int l3_3)] → g43_5 l3_3 = some r → W p l e { frames := 5, cells := 0, slots := 0, locals := 102 } s m args below meth c H locs 0 0 Q (F0 m 43 ls []) := by
    intro l3_3 H locs ls hw hl hf
    have hf := (congrFun ej l3_3).symm.trans hf
    refine lv_iload_n hx hb dX6_runFrom_43 rfl (lv_at hl 0 rfl) ?_
    exact hret _ _ _ _ _ dX6_runFrom_44 (Option.some.inj hf) hw
  clear ej
  obtain ⟨b5, eb, hf⟩ := bL_e hf
  have RL5 : ∀ (n : Nat) z, (Sum.elim (u1 g54_5) (Sum.elim (u1 g32_5) (u1 g43_5))) z = some r → ∀ (l3_4 : Int32) (l4_5 : Int32) (H : Heap) (locs : List Loc) (ls : Array Slot), Wd Z s S H locs → lv_has ls 6 [(0, .ref (za Z k0)), (2, .int a2), (3, .int l3_4), (4, .int l4_5)] → bPn b5 n (l3_4, l4_5) = some z → W p l e { frames := 5, cells := 0, slots := 0, locals := 102 } s m args below meth c H locs 0 0 Q (F0 m 5 ls []) := by
    intro n
    induction n with
    | zero =>
      intro z hg l3_4 l4_5 H locs ls hw hl hz
      exact bPn_0 hz
    | succ n ih =>
      intro z hg l3_4 l4_5 H locs ls hw hl hz
      obtain ⟨q_6, hf, hz⟩ := bPn_e hz
      have hf := u2_e ((congrFun eb _).symm.trans hf)
      refine lv_iload hx hb dX6_runFrom_5 (lv_at hl 3 rfl) ?_
      refine lv_sipush hx hb dX6_runFrom_7 ks_400 ?_
      refine lv_icmp_ge (tgt := 54) hx hb dX6_runFrom_10 (by decide) (fun c_13 => ?_) (fun c_13 => ?_)
      · have hf := (if_pos c_13).symm.trans hf
        obtain rfl := Option.some.inj hf
        obtain rfl := Option.some.inj (hz : some _ = some _)
        exact R54_5 _ _ _ _ hw (lv_sub hl [2] rfl) hg
      · have hf := (if_neg c_13).symm.trans hf
        refine lv_aload_n hx hb dX6_runFrom_13 rfl (lv_at hl 0 rfl) ?_
        refine lv_iload_n hx hb dX6_runFrom_14 rfl (lv_at hl 2 rfl) ?_
        obtain ⟨r_7, hr_7, hf⟩ := bB_e hf
        refine kVi (rest := []) G hw (wX6_byteAt hZ S k0 l3_4 r_7 h0 hr_7) cw_X6_44 h0 KX6 ⟨Nat.le_of_ble_eq_true rfl, Nat.le_of_ble_eq_true rfl⟩ rfl hl.1 rfl (Nat.le_of_ble_eq_true rfl) ⟨Nat.le_refl _, Nat.le_refl _⟩ dX6_runFrom_15 (fun H locs hw => ?_)
        refine lv_istore (lv' := [(5, .int r_7), (0, .ref (za Z k0)), (2, .int a2), (3, .int l3_4), (4, .int l4_5)]) hx hb dX6_runFrom_18 hl (by decide) rfl (fun ls hl => ?_)
        refine lv_iload_n hx hb dX6_runFrom_20 rfl (lv_at hl 2 rfl) ?_
        obtain ⟨j45, ej, hf⟩ := bL_e hf
        have R45 : ∀ (H : Heap) (locs : List Loc) (ls : Array Slot), Wd Z s S H locs → lv_has ls 6 [(0, .ref (za Z k0)), (2, .int a2), (3, .int l3_4), (4, .int l4_5)] → j45 () = some q_6 → W p l e { frames := 5, cells := 0, slots := 0, locals := 102 } s m args below meth c H locs 0 0 Q (F0 m 45 ls []) := by
          intro  H locs ls hw hl hf
          have hf := (congrFun ej ()).symm.trans hf
          obtain ⟨l3_8, el3_8, hf⟩ := bL_e hf
          refine lv_iinc (v := l3_8) (lv' := [(3, .int l3_8), (0, .ref (za Z k0)), (2, .int a2), (4, .int l4_5)]) hx hb dX6_runFrom_45 hl (k := 2) rfl (by rw [el3_8]; rfl) (by decide) rfl (fun ls hl => ?_)
          obtain ⟨l4_9, el4_9, hf⟩ := bL_e hf
          refine lv_iinc (v := l4_9) (lv' := [(4, .int l4_9), (3, .int l3_8), (0, .ref (za Z k0)), (2, .int a2)]) hx hb dX6_runFrom_48 hl (k := 3) rfl (by rw [el4_9]; rfl) (by decide) rfl (fun ls hl => ?_)
          refine lv_goto (tgt := 5) hx hb dX6_runFrom_51 (by decide) ?_
          obtain rfl := Option.some.inj hf
          exact ih _ hg _ _ _ _ _ hw (lv_sub hl [2, 3, 1, 0] rfl) hz
        clear ej
        refine lv_if_eq (tgt := 35) hx hb dX6_runFrom_21 (by decide) (fun c_12 => ?_) (fun c_12 => ?_)
        · have hf := (if_pos c_12).symm.trans hf
          refine lv_iload hx hb dX6_runFrom_35 (lv_at hl 0 rfl) ?_
          refine kSi (rest := []) G hw (wX6_isDigit hZ S r_7 (F6_isDigit r_7) rfl) cw_X6_64 ⟨Nat.le_of_ble_eq_true rfl, Nat.le_of_ble_eq_true rfl⟩ rfl hl.1 rfl (Nat.le_of_ble_eq_true rfl) ⟨Nat.le_refl _, Nat.le_refl _⟩ dX6_runFrom_37 (fun H locs hw => ?_)
          refine lv_if_ne (tgt := 45) hx hb dX6_runFrom_40 (by decide) (fun c_10 => ?_) (fun c_10 => ?_)
          · have hf := (if_neg c_10).symm.trans hf
            exact R45 _ _ _ hw (lv_sub hl [1, 2, 3, 4] rfl) hf
          · have hf := (if_pos c_10).symm.trans hf
            obtain rfl := Option.some.inj hf
            obtain rfl := Option.some.inj (hz : some _ = some _)
            exact R43_5 _ _ _ _ hw (lv_sub hl [3] rfl) hg
        · have hf := (if_neg c_12).symm.trans hf
          refine lv_iload hx hb dX6_runFrom_24 (lv_at hl 0 rfl) ?_
          refine kSi (rest := []) G hw (wX6_isLetter hZ S r_7 (F6_isLetter r_7) rfl) cw_X6_48 ⟨Nat.le_of_ble_eq_true rfl, Nat.le_of_ble_eq_true rfl⟩ rfl hl.1 rfl (Nat.le_of_ble_eq_true rfl) ⟨Nat.le_refl _, Nat.le_refl _⟩ dX6_runFrom_26 (fun H locs hw => ?_)
          refine lv_if_ne (tgt := 45) hx hb dX6_runFrom_29 (by decide) (fun c_11 => ?_) (fun c_11 => ?_)
          · have hf := (if_neg c_11).symm.trans hf
            exact R45 _ _ _ hw (lv_sub hl [1, 2, 3, 4] rfl) hf
          · have hf := (if_pos c_11).symm.trans hf
            obtain rfl := Option.some.inj hf
            obtain rfl := Option.some.inj (hz : some _ = some _)
            exact R32_5 _ _ _ _ hw (lv_sub hl [3] rfl) hg
  clear eb
  obtain ⟨z, hz, hf⟩ := bB_e hf
  obtain ⟨n, hz⟩ := bP_e hz
  exact RL5 n z hf _ _ _ _ _ hw (lv_sub hl [2, 4, 1, 0] rfl) hz
noncomputable def F6_cut (S : pS) (k0 : Nat) (a1 : Nat) : Option (pS) :=
  bL (sU S k0 5 0) fun S_1 =>
  bL (fun (S_2 : pS) =>
    bB (F6_put S_2 k0 2 0 (S_2 k0 0)) fun S_3 =>
    bL (sU S_3 k0 6 (-1)) fun S_4 =>
    bB (F6_next S_4 k0) fun S_5 =>
    some S_5) fun g181_9 =>
  bL (u3 fun (l2_6 : Int32) (l3_7 : Int32) (S_8 : pS) =>
    if 400 ≤ l3_7 then
      some (.inr S_8)
    else
      if (S_8 k0 0) ≤ l2_6 then
        some (.inr S_8)
      else
        bB (F6_byteAt S_8 k0 l2_6) fun r_10 =>
        bL (fun (l2_11 : Int32) (S_12 : pS) =>
          bL (l3_7 + 1) fun l3_13 =>
          some (.inl (l2_11, l3_13, S_12))) fun j175 =>
        bL (fun (_ : Unit) =>
          bL (l2_6 + 1) fun l2_14 =>
          j175 l2_14 S_8) fun j45 =>
        if r_10 = 32 then
          j45 ()
        else
          if r_10 = 10 then
            j45 ()
          else
            if (F6_isLetter r_10) = 0 then
              if (F6_isDigit r_10) = 0 then
                bL (fun (t_15 : Int32) =>
                  bB (F6_put S_8 k0 t_15 0 l2_6) fun S_16 =>
                  bL (l2_6 + 1) fun l2_17 =>
                  j175 l2_17 S_16) fun j167 =>
                if (F6_isSign r_10) = 0 then
                  j167 0
                else
                  j167 r_10
              else
                bB (F6_runFrom S_8 k0 l2_6 0) fun r_19 =>
                bL (fun (t_20 : Int32) =>
                  bB (F6_amount S_8 k0 l2_6 r_19) fun r_21 =>
                  bB (F6_put S_8 k0 t_20 r_21 l2_6) fun S_22 =>
                  j175 r_19 S_22) fun j135 =>
                if (r_19 - l2_6) ≤ 4 then
                  j135 1
                else
                  j135 0
            else
              bB (F6_runFrom S_8 k0 l2_6 1) fun r_25 =>
              bB (F6_numberOf S_8 k0 a1 l2_6 r_25) fun r_26 =>
              bL (fun (t_27 : Int32) =>
                bB (F6_put S_8 k0 t_27 0 l2_6) fun S_28 =>
                j175 r_25 S_28) fun j94 =>
              if r_26 = (-1) then
                j94 0
              else
                j94 (256 + r_26)) fun b9 =>
  bB (bP b9 ((0 : Int32), (0 : Int32), S_1)) (u1 g181_9)
set_option maxRecDepth 100000 in
set_option maxHeartbeats 4000000 in
theorem wX6_cut {l : Launch} {Z : pZ}  (hZ : CC Z) (S : pS) (k0 : Nat) (a1 : Nat) (S2 : pS) (h0 : isA Z K_Tape k0) (ha1 : a1 < litN) (hf : F6_cut S k0 a1 = some S2) : CV l Z yX6_cut cX6_cut 7 9 211 [.ref (za Z k0), .ref (zs Z a1)] S S2 := by
  unfold F6_cut at hf
  refine eV (own := RX6) (by decide) rfl (Nat.le_of_ble_eq_true rfl) (fun p e s m args below meth c Q ls G hl hw hret => ?_)
  obtain ⟨hx, hb, hml, hown, hts⟩ := G.1
  have hl : lv_has ls 7 [(0, .ref (za Z k0)), (1, .ref (zs Z a1))] := hl
  refine lv_aload_n hx hb dX6_cut_0 rfl (lv_at hl 0 rfl) ?_
  refine lv_iconst hx hb dX6_cut_1 ki_0 ?_
  obtain ⟨S_1, eS_1, hf⟩ := bL_e hf
  refine pI G hw h0 KX6 5 (by decide) rfl rfl rfl eS_1 fl_X6_32 dX6_cut_2 (fun H locs hw => ?_)
  refine lv_iconst hx hb dX6_cut_5 ki_0 ?_
  refine lv_istore_n (lv' := [(2, .int 0), (0, .ref (za Z k0)), (1, .ref (zs Z a1))]) hx hb dX6_cut_6 rfl hl (by decide) rfl (fun ls hl => ?_)
  refine lv_iconst hx hb dX6_cut_7 ki_0 ?_
  refine lv_istore_n (lv' := [(3, .int 0), (2, .int 0), (0, .ref (za Z k0)), (1, .ref (zs Z a1))]) hx hb dX6_cut_8 rfl hl (by decide) rfl (fun ls hl => ?_)
  obtain ⟨g181_9, ej, hf⟩ := bL_e hf
  have R181_9 : ∀ (S_2 : pS) (H : Heap) (locs : List Loc) (ls : Array Slot), Wd Z s S_2 H locs → lv_has ls 7 [(0, .ref (za Z k0))] → g181_9 S_2 = some S2 → W p l e { frames := 9, cells := 0, slots := 0, locals := 211 } s m args below meth c H locs 0 0 Q (F0 m 181 ls []) := by
    intro S_2 H locs ls hw hl hf
    have hf := (congrFun ej S_2).symm.trans hf
    refine lv_aload_n hx hb dX6_cut_181 rfl (lv_at hl 0 rfl) ?_
    refine lv_iconst hx hb dX6_cut_182 ki_2 ?_
    refine lv_iconst hx hb dX6_cut_183 ki_0 ?_
    refine lv_aload_n hx hb dX6_cut_184 rfl (lv_at hl 0 rfl) ?_
    refine gI G hw h0 KX6 0 (by decide) rfl fl_X6_25 dX6_cut_185 ?_
    obtain ⟨S_3, hS_3, hf⟩ := bB_e hf
    refine kVv (rest := []) G hw (wX6_put hZ S_2 k0 2 0 (S_2 k0 0) S_3 h0 hS_3) cw_X6_60 h0 KX6 ⟨Nat.le_of_ble_eq_true rfl, Nat.le_of_ble_eq_true rfl⟩ rfl hl.1 rfl (Nat.le_of_ble_eq_true rfl) ⟨Nat.le_refl _, Nat.le_refl _⟩ dX6_cut_188 (fun H locs hw => ?_)
    refine lv_aload_n hx hb dX6_cut_191 rfl (lv_at hl 0 rfl) ?_
    refine lv_iconst hx hb dX6_cut_192 ki_m1 ?_
    obtain ⟨S_4, eS_4, hf⟩ := bL_e hf
    refine pI G hw h0 KX6 6 (by decide) rfl rfl rfl eS_4 fl_X6_29 dX6_cut_193 (fun H locs hw => ?_)
    refine lv_aload_n hx hb dX6_cut_196 rfl (lv_at hl 0 rfl) ?_
    obtain ⟨S_5, hS_5, hf⟩ := bB_e hf
    refine kVv (rest := []) G hw (wX6_next hZ S_4 k0 S_5 h0 hS_5) cw_X6_74 h0 KX6 ⟨Nat.le_of_ble_eq_true rfl, Nat.le_of_ble_eq_true rfl⟩ rfl hl.1 rfl (Nat.le_of_ble_eq_true rfl) ⟨Nat.le_refl _, Nat.le_refl _⟩ dX6_cut_197 (fun H locs hw => ?_)
    exact hret _ _ _ _ dX6_cut_200 (by rw [← (Option.some.inj hf)]; exact hw)
  clear ej
  obtain ⟨b9, eb, hf⟩ := bL_e hf
  have RL9 : ∀ (n : Nat) z, (u1 g181_9) z = some S2 → ∀ (l2_6 : Int32) (l3_7 : Int32) (S_8 : pS) (H : Heap) (locs : List Loc) (ls : Array Slot), Wd Z s S_8 H locs → lv_has ls 7 [(0, .ref (za Z k0)), (1, .ref (zs Z a1)), (2, .int l2_6), (3, .int l3_7)] → bPn b9 n (l2_6, l3_7, S_8) = some z → W p l e { frames := 9, cells := 0, slots := 0, locals := 211 } s m args below meth c H locs 0 0 Q (F0 m 9 ls []) := by
    intro n
    induction n with
    | zero =>
      intro z hg l2_6 l3_7 S_8 H locs ls hw hl hz
      exact bPn_0 hz
    | succ n ih =>
      intro z hg l2_6 l3_7 S_8 H locs ls hw hl hz
      obtain ⟨q_9, hf, hz⟩ := bPn_e hz
      have hf := u3_e ((congrFun eb _).symm.trans hf)
      refine lv_iload_n hx hb dX6_cut_9 rfl (lv_at hl 3 rfl) ?_
      refine lv_sipush hx hb dX6_cut_10 ks_400 ?_
      refine lv_icmp_ge (tgt := 181) hx hb dX6_cut_13 (by decide) (fun c_34 => ?_) (fun c_34 => ?_)
      · have hf := (if_pos c_34).symm.trans hf
        obtain rfl := Option.some.inj hf
        obtain rfl := Option.some.inj (hz : some _ = some _)
        exact R181_9 _ _ _ _ hw (lv_sub hl [0] rfl) hg
      · have hf := (if_neg c_34).symm.trans hf
        refine lv_iload_n hx hb dX6_cut_16 rfl (lv_at hl 2 rfl) ?_
        refine lv_aload_n hx hb dX6_cut_17 rfl (lv_at hl 0 rfl) ?_
        refine gI G hw h0 KX6 0 (by decide) rfl fl_X6_25 dX6_cut_18 ?_
        refine lv_icmp_ge (tgt := 181) hx hb dX6_cut_21 (by decide) (fun c_33 => ?_) (fun c_33 => ?_)
        · have hf := (if_pos c_33).symm.trans hf
          obtain rfl := Option.some.inj hf
          obtain rfl := Option.some.inj (hz : some _ = some _)
          exact R181_9 _ _ _ _ hw (lv_sub hl [0] rfl) hg
        · have hf := (if_neg c_33).symm.trans hf
          refine lv_aload_n hx hb dX6_cut_24 rfl (lv_at hl 0 rfl) ?_
          refine lv_iload_n hx hb dX6_cut_25 rfl (lv_at hl 2 rfl) ?_
          obtain ⟨r_10, hr_10, hf⟩ := bB_e hf
          refine kVi (rest := []) G hw (wX6_byteAt hZ S_8 k0 l2_6 r_10 h0 hr_10) cw_X6_44 h0 KX6 ⟨Nat.le_of_ble_eq_true rfl, Nat.le_of_ble_eq_true rfl⟩ rfl hl.1 rfl (Nat.le_of_ble_eq_true rfl) ⟨Nat.le_refl _, Nat.le_refl _⟩ dX6_cut_26 (fun H locs hw => ?_)
          refine lv_istore (lv' := [(4, .int r_10), (0, .ref (za Z k0)), (1, .ref (zs Z a1)), (2, .int l2_6), (3, .int l3_7)]) hx hb dX6_cut_29 hl (by decide) rfl (fun ls hl => ?_)
          refine lv_iload hx hb dX6_cut_31 (lv_at hl 0 rfl) ?_
          refine lv_bipush hx hb dX6_cut_33 kb_32 ?_
          obtain ⟨j175, ej, hf⟩ := bL_e hf
          have R175 : ∀ (l2_11 : Int32) (S_12 : pS) (H : Heap) (locs : List Loc) (ls : Array Slot), Wd Z s S_12 H locs → lv_has ls 7 [(0, .ref (za Z k0)), (1, .ref (zs Z a1)), (2, .int l2_11), (3, .int l3_7)] → j175 l2_11 S_12 = some q_9 → W p l e { frames := 9, cells := 0, slots := 0, locals := 211 } s m args below meth c H locs 0 0 Q (F0 m 175 ls []) := by
            intro l2_11 S_12 H locs ls hw hl hf
            have hf := (congrFun (congrFun ej l2_11) S_12).symm.trans hf
            obtain ⟨l3_13, el3_13, hf⟩ := bL_e hf
            refine lv_iinc (v := l3_13) (lv' := [(3, .int l3_13), (0, .ref (za Z k0)), (1, .ref (zs Z a1)), (2, .int l2_11)]) hx hb dX6_cut_175 hl (k := 3) rfl (by rw [el3_13]; rfl) (by decide) rfl (fun ls hl => ?_)
            refine lv_goto (tgt := 9) hx hb dX6_cut_178 (by decide) ?_
            obtain rfl := Option.some.inj hf
            exact ih _ hg _ _ _ _ _ _ hw (lv_sub hl [1, 2, 3, 0] rfl) hz
          clear ej
          obtain ⟨j45, ej, hf⟩ := bL_e hf
          have R45 : ∀ (H : Heap) (locs : List Loc) (ls : Array Slot), Wd Z s S_8 H locs → lv_has ls 7 [(0, .ref (za Z k0)), (1, .ref (zs Z a1)), (2, .int l2_6), (3, .int l3_7)] → j45 () = some q_9 → W p l e { frames := 9, cells := 0, slots := 0, locals := 211 } s m args below meth c H locs 0 0 Q (F0 m 45 ls []) := by
            intro  H locs ls hw hl hf
            have hf := (congrFun ej ()).symm.trans hf
            obtain ⟨l2_14, el2_14, hf⟩ := bL_e hf
            refine lv_iinc (v := l2_14) (lv' := [(2, .int l2_14), (0, .ref (za Z k0)), (1, .ref (zs Z a1)), (3, .int l3_7)]) hx hb dX6_cut_45 hl (k := 2) rfl (by rw [el2_14]; rfl) (by decide) rfl (fun ls hl => ?_)
            refine lv_goto (tgt := 175) hx hb dX6_cut_48 (by decide) ?_
            exact R175 _ _ _ _ _ hw (lv_sub hl [1, 2, 0, 3] rfl) hf
          clear ej
          refine lv_icmp_eq (tgt := 45) hx hb dX6_cut_35 (by decide) (fun c_32 => ?_) (fun c_32 => ?_)
          · have hf := (if_pos c_32).symm.trans hf
            exact R45 _ _ _ hw (lv_sub hl [1, 2, 3, 4] rfl) hf
          · have hf := (if_neg c_32).symm.trans hf
            refine lv_iload hx hb dX6_cut_38 (lv_at hl 0 rfl) ?_
            refine lv_bipush hx hb dX6_cut_40 kb_10 ?_
            refine lv_icmp_ne (tgt := 51) hx hb dX6_cut_42 (by decide) (fun c_31 => ?_) (fun c_31 => ?_)
            · have hf := (if_neg c_31).symm.trans hf
              refine lv_iload hx hb dX6_cut_51 (lv_at hl 0 rfl) ?_
              refine kSi (rest := []) G hw (wX6_isLetter hZ S_8 r_10 (F6_isLetter r_10) rfl) cw_X6_48 ⟨Nat.le_of_ble_eq_true rfl, Nat.le_of_ble_eq_true rfl⟩ rfl hl.1 rfl (Nat.le_of_ble_eq_true rfl) ⟨Nat.le_refl _, Nat.le_refl _⟩ dX6_cut_53 (fun H locs hw => ?_)
              refine lv_if_eq (tgt := 105) hx hb dX6_cut_56 (by decide) (fun c_30 => ?_) (fun c_30 => ?_)
              · have hf := (if_pos c_30).symm.trans hf
                refine lv_iload hx hb dX6_cut_105 (lv_at hl 0 rfl) ?_
                refine kSi (rest := []) G hw (wX6_isDigit hZ S_8 r_10 (F6_isDigit r_10) rfl) cw_X6_64 ⟨Nat.le_of_ble_eq_true rfl, Nat.le_of_ble_eq_true rfl⟩ rfl hl.1 rfl (Nat.le_of_ble_eq_true rfl) ⟨Nat.le_refl _, Nat.le_refl _⟩ dX6_cut_107 (fun H locs hw => ?_)
                refine lv_if_eq (tgt := 152) hx hb dX6_cut_110 (by decide) (fun c_24 => ?_) (fun c_24 => ?_)
                · have hf := (if_pos c_24).symm.trans hf
                  refine lv_aload_n hx hb dX6_cut_152 rfl (lv_at hl 1 rfl) ?_
                  refine lv_iload hx hb dX6_cut_153 (lv_at hl 0 rfl) ?_
                  refine kSi (rest := [.ref (za Z k0)]) G hw (wX6_isSign hZ S_8 r_10 (F6_isSign r_10) rfl) cw_X6_71 ⟨Nat.le_of_ble_eq_true rfl, Nat.le_of_ble_eq_true rfl⟩ rfl hl.1 rfl (Nat.le_of_ble_eq_true rfl) ⟨Nat.le_refl _, Nat.le_refl _⟩ dX6_cut_155 (fun H locs hw => ?_)
                  obtain ⟨j167, ej, hf⟩ := bL_e hf
                  have R167 : ∀ (t_15 : Int32) (H : Heap) (locs : List Loc) (ls : Array Slot), Wd Z s S_8 H locs → lv_has ls 7 [(0, .ref (za Z k0)), (1, .ref (zs Z a1)), (2, .int l2_6), (3, .int l3_7)] → j167 t_15 = some q_9 → W p l e { frames := 9, cells := 0, slots := 0, locals := 211 } s m args below meth c H locs 0 0 Q (F0 m 167 ls [.int t_15, .ref (za Z k0)]) := by
                    intro t_15 H locs ls hw hl hf
                    have hf := (congrFun ej t_15).symm.trans hf
                    refine lv_iconst hx hb dX6_cut_167 ki_0 ?_
                    refine lv_iload_n hx hb dX6_cut_168 rfl (lv_at hl 2 rfl) ?_
                    obtain ⟨S_16, hS_16, hf⟩ := bB_e hf
                    refine kVv (rest := []) G hw (wX6_put hZ S_8 k0 t_15 0 l2_6 S_16 h0 hS_16) cw_X6_60 h0 KX6 ⟨Nat.le_of_ble_eq_true rfl, Nat.le_of_ble_eq_true rfl⟩ rfl hl.1 rfl (Nat.le_of_ble_eq_true rfl) ⟨Nat.le_refl _, Nat.le_refl _⟩ dX6_cut_169 (fun H locs hw => ?_)
                    obtain ⟨l2_17, el2_17, hf⟩ := bL_e hf
                    refine lv_iinc (v := l2_17) (lv' := [(2, .int l2_17), (0, .ref (za Z k0)), (1, .ref (zs Z a1)), (3, .int l3_7)]) hx hb dX6_cut_172 hl (k := 2) rfl (by rw [el2_17]; rfl) (by decide) rfl (fun ls hl => ?_)
                    exact R175 _ _ _ _ _ hw (lv_sub hl [1, 2, 0, 3] rfl) hf
                  clear ej
                  refine lv_if_eq (tgt := 166) hx hb dX6_cut_158 (by decide) (fun c_18 => ?_) (fun c_18 => ?_)
                  · have hf := (if_pos c_18).symm.trans hf
                    refine lv_iconst hx hb dX6_cut_166 ki_0 ?_
                    exact R167 _ _ _ _ hw (lv_sub hl [1, 2, 3, 4] rfl) hf
                  · have hf := (if_neg c_18).symm.trans hf
                    refine lv_iload hx hb dX6_cut_161 (lv_at hl 0 rfl) ?_
                    refine lv_goto (tgt := 167) hx hb dX6_cut_163 (by decide) ?_
                    exact R167 _ _ _ _ hw (lv_sub hl [1, 2, 3, 4] rfl) hf
                · have hf := (if_neg c_24).symm.trans hf
                  refine lv_aload_n hx hb dX6_cut_113 rfl (lv_at hl 1 rfl) ?_
                  refine lv_iload_n hx hb dX6_cut_114 rfl (lv_at hl 3 rfl) ?_
                  refine lv_iconst hx hb dX6_cut_115 ki_0 ?_
                  obtain ⟨r_19, hr_19, hf⟩ := bB_e hf
                  refine kVi (rest := []) G hw (wX6_runFrom hZ S_8 k0 l2_6 0 r_19 h0 hr_19) cw_X6_52 h0 KX6 ⟨Nat.le_of_ble_eq_true rfl, Nat.le_of_ble_eq_true rfl⟩ rfl hl.1 rfl (Nat.le_of_ble_eq_true rfl) ⟨Nat.le_refl _, Nat.le_refl _⟩ dX6_cut_116 (fun H locs hw => ?_)
                  refine lv_istore (lv' := [(5, .int r_19), (4, .int r_10), (0, .ref (za Z k0)), (1, .ref (zs Z a1)), (2, .int l2_6), (3, .int l3_7)]) hx hb dX6_cut_119 hl (by decide) rfl (fun ls hl => ?_)
                  refine lv_aload_n hx hb dX6_cut_121 rfl (lv_at hl 2 rfl) ?_
                  refine lv_iload hx hb dX6_cut_122 (lv_at hl 0 rfl) ?_
                  refine lv_iload_n hx hb dX6_cut_124 rfl (lv_at hl 4 rfl) ?_
                  refine lv_isub hx hb dX6_cut_125 ?_
                  refine lv_iconst hx hb dX6_cut_126 ki_4 ?_
                  obtain ⟨j135, ej, hf⟩ := bL_e hf
                  have R135 : ∀ (t_20 : Int32) (H : Heap) (locs : List Loc) (ls : Array Slot), Wd Z s S_8 H locs → lv_has ls 7 [(0, .ref (za Z k0)), (1, .ref (zs Z a1)), (2, .int l2_6), (3, .int l3_7), (5, .int r_19)] → j135 t_20 = some q_9 → W p l e { frames := 9, cells := 0, slots := 0, locals := 211 } s m args below meth c H locs 0 0 Q (F0 m 135 ls [.int t_20, .ref (za Z k0)]) := by
                    intro t_20 H locs ls hw hl hf
                    have hf := (congrFun ej t_20).symm.trans hf
                    refine lv_aload_n hx hb dX6_cut_135 rfl (lv_at hl 0 rfl) ?_
                    refine lv_iload_n hx hb dX6_cut_136 rfl (lv_at hl 2 rfl) ?_
                    refine lv_iload hx hb dX6_cut_137 (lv_at hl 4 rfl) ?_
                    obtain ⟨r_21, hr_21, hf⟩ := bB_e hf
                    refine kVi (rest := [.int t_20, .ref (za Z k0)]) G hw (wX6_amount hZ S_8 k0 l2_6 r_19 r_21 h0 hr_21) cw_X6_67 h0 KX6 ⟨Nat.le_of_ble_eq_true rfl, Nat.le_of_ble_eq_true rfl⟩ rfl hl.1 rfl (Nat.le_of_ble_eq_true rfl) ⟨Nat.le_refl _, Nat.le_refl _⟩ dX6_cut_139 (fun H locs hw => ?_)
                    refine lv_iload_n hx hb dX6_cut_142 rfl (lv_at hl 2 rfl) ?_
                    obtain ⟨S_22, hS_22, hf⟩ := bB_e hf
                    refine kVv (rest := []) G hw (wX6_put hZ S_8 k0 t_20 r_21 l2_6 S_22 h0 hS_22) cw_X6_60 h0 KX6 ⟨Nat.le_of_ble_eq_true rfl, Nat.le_of_ble_eq_true rfl⟩ rfl hl.1 rfl (Nat.le_of_ble_eq_true rfl) ⟨Nat.le_refl _, Nat.le_refl _⟩ dX6_cut_143 (fun H locs hw => ?_)
                    refine lv_iload hx hb dX6_cut_146 (lv_at hl 4 rfl) ?_
                    refine lv_istore_n (lv' := [(2, .int r_19), (0, .ref (za Z k0)), (1, .ref (zs Z a1)), (3, .int l3_7), (5, .int r_19)]) hx hb dX6_cut_148 rfl hl (by decide) rfl (fun ls hl => ?_)
                    refine lv_goto (tgt := 175) hx hb dX6_cut_149 (by decide) ?_
                    exact R175 _ _ _ _ _ hw (lv_sub hl [1, 2, 0, 3] rfl) hf
                  clear ej
                  refine lv_icmp_le (tgt := 134) hx hb dX6_cut_127 (by decide) (fun c_23 => ?_) (fun c_23 => ?_)
                  · have hf := (if_pos c_23).symm.trans hf
                    refine lv_iconst hx hb dX6_cut_134 ki_1 ?_
                    exact R135 _ _ _ _ hw (lv_sub hl [2, 3, 4, 5, 0] rfl) hf
                  · have hf := (if_neg c_23).symm.trans hf
                    refine lv_iconst hx hb dX6_cut_130 ki_0 ?_
                    refine lv_goto (tgt := 135) hx hb dX6_cut_131 (by decide) ?_
                    exact R135 _ _ _ _ hw (lv_sub hl [2, 3, 4, 5, 0] rfl) hf
              · have hf := (if_neg c_30).symm.trans hf
                refine lv_aload_n hx hb dX6_cut_59 rfl (lv_at hl 1 rfl) ?_
                refine lv_iload_n hx hb dX6_cut_60 rfl (lv_at hl 3 rfl) ?_
                refine lv_iconst hx hb dX6_cut_61 ki_1 ?_
                obtain ⟨r_25, hr_25, hf⟩ := bB_e hf
                refine kVi (rest := []) G hw (wX6_runFrom hZ S_8 k0 l2_6 1 r_25 h0 hr_25) cw_X6_52 h0 KX6 ⟨Nat.le_of_ble_eq_true rfl, Nat.le_of_ble_eq_true rfl⟩ rfl hl.1 rfl (Nat.le_of_ble_eq_true rfl) ⟨Nat.le_refl _, Nat.le_refl _⟩ dX6_cut_62 (fun H locs hw => ?_)
                refine lv_istore (lv' := [(5, .int r_25), (4, .int r_10), (0, .ref (za Z k0)), (1, .ref (zs Z a1)), (2, .int l2_6), (3, .int l3_7)]) hx hb dX6_cut_65 hl (by decide) rfl (fun ls hl => ?_)
                refine lv_aload_n hx hb dX6_cut_67 rfl (lv_at hl 2 rfl) ?_
                refine lv_aload_n hx hb dX6_cut_68 rfl (lv_at hl 3 rfl) ?_
                refine lv_iload_n hx hb dX6_cut_69 rfl (lv_at hl 4 rfl) ?_
                refine lv_iload hx hb dX6_cut_70 (lv_at hl 0 rfl) ?_
                obtain ⟨r_26, hr_26, hf⟩ := bB_e hf
                refine kVi (rest := []) G hw (wX6_numberOf hZ S_8 k0 a1 l2_6 r_25 r_26 h0 ha1 hr_26) cw_X6_56 h0 KX6 ⟨Nat.le_of_ble_eq_true rfl, Nat.le_of_ble_eq_true rfl⟩ rfl hl.1 rfl (Nat.le_of_ble_eq_true rfl) ⟨Nat.le_refl _, Nat.le_refl _⟩ dX6_cut_72 (fun H locs hw => ?_)
                refine lv_istore (lv' := [(6, .int r_26), (5, .int r_25), (4, .int r_10), (0, .ref (za Z k0)), (1, .ref (zs Z a1)), (2, .int l2_6), (3, .int l3_7)]) hx hb dX6_cut_75 hl (by decide) rfl (fun ls hl => ?_)
                refine lv_aload_n hx hb dX6_cut_77 rfl (lv_at hl 3 rfl) ?_
                refine lv_iload hx hb dX6_cut_78 (lv_at hl 0 rfl) ?_
                refine lv_iconst hx hb dX6_cut_80 ki_m1 ?_
                obtain ⟨j94, ej, hf⟩ := bL_e hf
                have R94 : ∀ (t_27 : Int32) (H : Heap) (locs : List Loc) (ls : Array Slot), Wd Z s S_8 H locs → lv_has ls 7 [(0, .ref (za Z k0)), (1, .ref (zs Z a1)), (2, .int l2_6), (3, .int l3_7), (5, .int r_25)] → j94 t_27 = some q_9 → W p l e { frames := 9, cells := 0, slots := 0, locals := 211 } s m args below meth c H locs 0 0 Q (F0 m 94 ls [.int t_27, .ref (za Z k0)]) := by
                  intro t_27 H locs ls hw hl hf
                  have hf := (congrFun ej t_27).symm.trans hf
                  refine lv_iconst hx hb dX6_cut_94 ki_0 ?_
                  refine lv_iload_n hx hb dX6_cut_95 rfl (lv_at hl 2 rfl) ?_
                  obtain ⟨S_28, hS_28, hf⟩ := bB_e hf
                  refine kVv (rest := []) G hw (wX6_put hZ S_8 k0 t_27 0 l2_6 S_28 h0 hS_28) cw_X6_60 h0 KX6 ⟨Nat.le_of_ble_eq_true rfl, Nat.le_of_ble_eq_true rfl⟩ rfl hl.1 rfl (Nat.le_of_ble_eq_true rfl) ⟨Nat.le_refl _, Nat.le_refl _⟩ dX6_cut_96 (fun H locs hw => ?_)
                  refine lv_iload hx hb dX6_cut_99 (lv_at hl 4 rfl) ?_
                  refine lv_istore_n (lv' := [(2, .int r_25), (0, .ref (za Z k0)), (1, .ref (zs Z a1)), (3, .int l3_7), (5, .int r_25)]) hx hb dX6_cut_101 rfl hl (by decide) rfl (fun ls hl => ?_)
                  refine lv_goto (tgt := 175) hx hb dX6_cut_102 (by decide) ?_
                  exact R175 _ _ _ _ _ hw (lv_sub hl [1, 2, 0, 3] rfl) hf
                clear ej
                refine lv_icmp_ne (tgt := 88) hx hb dX6_cut_81 (by decide) (fun c_29 => ?_) (fun c_29 => ?_)
                · have hf := (if_neg c_29).symm.trans hf
                  refine lv_sipush hx hb dX6_cut_88 ks_256 ?_
                  refine lv_iload hx hb dX6_cut_91 (lv_at hl 0 rfl) ?_
                  refine lv_iadd hx hb dX6_cut_93 ?_
                  exact R94 _ _ _ _ hw (lv_sub hl [3, 4, 5, 6, 1] rfl) hf
                · have hf := (if_pos c_29).symm.trans hf
                  refine lv_iconst hx hb dX6_cut_84 ki_0 ?_
                  refine lv_goto (tgt := 94) hx hb dX6_cut_85 (by decide) ?_
                  exact R94 _ _ _ _ hw (lv_sub hl [3, 4, 5, 6, 1] rfl) hf
            · have hf := (if_pos c_31).symm.trans hf
              exact R45 _ _ _ hw (lv_sub hl [1, 2, 3, 4] rfl) hf
  clear eb
  obtain ⟨z, hz, hf⟩ := bB_e hf
  obtain ⟨n, hz⟩ := bP_e hz
  exact RL9 n z hf _ _ _ _ _ _ hw (lv_sub hl [2, 3, 1, 0] rfl) hz
noncomputable def F5_law (S : pS) (k0 : Nat) (a1 : Nat) (a2 : Int32) : Option (Int32 × pS) :=
  bB (F6_cut S (k0 + 1) a1) fun S_1 =>
  bL (sU S_1 k0 6 (260 + a2)) fun S_2 =>
  bL (fun (S_3 : pS) =>
    if (S_3 k0 1) = 0 then
      some ((1 : Int32), S_3)
    else
      some ((0 : Int32), S_3)) fun g163_19 =>
  bL (u2 fun (l3_5 : Int32) (S_6 : pS) =>
    if 400 ≤ l3_5 then
      some (.inr S_6)
    else
      if (S_6 k0 1) = 0 then
        if (S_6 (k0 + 1) 1) = 2 then
          some (.inr S_6)
        else
          bL (S_6 (k0 + 1) 1) fun l4_8 =>
          bL (fun (S_9 : pS) =>
            bL (l3_5 + 1) fun l3_10 =>
            some (.inl (l3_10, S_9))) fun j157 =>
          bL (fun (_ : Unit) =>
            bL (F5_fail S_6 k0 1) fun S_11 =>
            j157 S_11) fun j70 =>
          if l4_8 < 260 then
            j70 ()
          else
            if l4_8 < (S_6 k0 6) then
              if (S_6 (k0 + 6) 0) < 16 then
                bB (F6_next S_6 (k0 + 1)) fun S_12 =>
                bB (F3_beginLine S_12 (k0 + 6) (l4_8 - 260)) fun S_13 =>
                bB (F5_sum S_13 k0) fun S_14 =>
                bB (F3_beginWhen S_14 (k0 + 6)) fun S_15 =>
                bB2 (F5_taken S_15 k0 256) fun r_16 S_17 =>
                bL (fun (S_18 : pS) =>
                  bB (F5_take S_18 k0 59) fun S_19 =>
                  bB (F3_endLine S_19 (k0 + 6)) fun S_20 =>
                  j157 S_20) fun j144 =>
                if r_16 = 0 then
                  j144 S_17
                else
                  bB (F5_anyOf S_17 k0 0) fun S_21 =>
                  j144 S_21
              else
                bL (F5_fail S_6 k0 3) fun S_23 =>
                j157 S_23
            else
              j70 ()
      else
        some (.inr S_6)) fun b19 =>
  bB (bP b19 ((0 : Int32), S_2)) (u1 g163_19)
set_option maxRecDepth 100000 in
set_option maxHeartbeats 4000000 in
theorem wX5_law {l : Launch} {Z : pZ}  (hZ : CC Z) (S : pS) (k0 : Nat) (a1 : Nat) (a2 : Int32) (r : Int32) (S2 : pS) (h0 : isA Z K_Reader k0) (ha1 : a1 < litN) (hf : F5_law S k0 a1 a2 = some (r, S2)) : CI l Z yX5_law cX5_law 5 .boolean 47 2548 [.ref (za Z k0), .ref (zs Z a1), .int a2] S r S2 := by
  unfold F5_law at hf
  refine eZ (own := RX5) (by decide) rfl (Nat.le_of_ble_eq_true rfl) (fun p e s m args below meth c Q ls G hl hw hret => ?_)
  obtain ⟨hx, hb, hml, hown, hts⟩ := G.1
  have hl : lv_has ls 5 [(0, .ref (za Z k0)), (1, .ref (zs Z a1)), (2, .int a2)] := hl
  refine lv_aload_n hx hb dX5_law_0 rfl (lv_at hl 0 rfl) ?_
  refine gF G hw h0 KX5 0 (k2 := (k0 + 1)) rfl (by decide) rfl fl_X5_12 dX5_law_1 ?_
  refine lv_aload_n hx hb dX5_law_4 rfl (lv_at hl 1 rfl) ?_
  obtain ⟨S_1, hS_1, hf⟩ := bB_e hf
  refine kVv (rest := []) G hw (wX6_cut hZ S (k0 + 1) a1 S_1 (sub_Reader_tape hZ h0) ha1 hS_1) cw_X5_60 (sub_Reader_tape hZ h0) KX6 ⟨Nat.le_of_ble_eq_true rfl, Nat.le_of_ble_eq_true rfl⟩ rfl hl.1 rfl (Nat.le_of_ble_eq_true rfl) ⟨Nat.le_refl _, Nat.le_refl _⟩ dX5_law_5 (fun H locs hw => ?_)
  refine lv_aload_n hx hb dX5_law_8 rfl (lv_at hl 0 rfl) ?_
  refine lv_sipush hx hb dX5_law_9 ks_260 ?_
  refine lv_iload_n hx hb dX5_law_12 rfl (lv_at hl 2 rfl) ?_
  refine lv_iadd hx hb dX5_law_13 ?_
  obtain ⟨S_2, eS_2, hf⟩ := bL_e hf
  refine pI G hw h0 KX5 6 (by decide) rfl rfl rfl eS_2 fl_X5_64 dX5_law_14 (fun H locs hw => ?_)
  refine lv_iconst hx hb dX5_law_17 ki_0 ?_
  refine lv_istore_n (lv' := [(3, .int 0), (0, .ref (za Z k0)), (1, .ref (zs Z a1)), (2, .int a2)]) hx hb dX5_law_18 rfl hl (by decide) rfl (fun ls hl => ?_)
  obtain ⟨g163_19, ej, hf⟩ := bL_e hf
  have R163_19 : ∀ (S_3 : pS) (H : Heap) (locs : List Loc) (ls : Array Slot), Wd Z s S_3 H locs → lv_has ls 5 [(0, .ref (za Z k0))] → g163_19 S_3 = some (r, S2) → W p l e { frames := 47, cells := 0, slots := 0, locals := 2548 } s m args below meth c H locs 0 0 Q (F0 m 163 ls []) := by
    intro S_3 H locs ls hw hl hf
    have hf := (congrFun ej S_3).symm.trans hf
    refine lv_aload_n hx hb dX5_law_163 rfl (lv_at hl 0 rfl) ?_
    refine gI G hw h0 KX5 1 (by decide) rfl fl_X5_35 dX5_law_164 ?_
    refine lv_if_ne (tgt := 174) hx hb dX5_law_167 (by decide) (fun c_4 => ?_) (fun c_4 => ?_)
    · have hf := (if_neg c_4).symm.trans hf
      refine lv_iconst hx hb dX5_law_174 ki_0 ?_
      obtain ⟨e1, e2⟩ := Prod.mk.inj (Option.some.inj hf)
      exact hret _ _ _ _ _ dX5_law_175 ((by decide : (0 : Int32) &&& 1 = 0).trans e1) (by rw [← e2]; exact hw)
    · have hf := (if_pos c_4).symm.trans hf
      refine lv_iconst hx hb dX5_law_170 ki_1 ?_
      refine lv_goto (tgt := 175) hx hb dX5_law_171 (by decide) ?_
      obtain ⟨e1, e2⟩ := Prod.mk.inj (Option.some.inj hf)
      exact hret _ _ _ _ _ dX5_law_175 ((by decide : (1 : Int32) &&& 1 = 1).trans e1) (by rw [← e2]; exact hw)
  clear ej
  obtain ⟨b19, eb, hf⟩ := bL_e hf
  have RL19 : ∀ (n : Nat) z, (u1 g163_19) z = some (r, S2) → ∀ (l3_5 : Int32) (S_6 : pS) (H : Heap) (locs : List Loc) (ls : Array Slot), Wd Z s S_6 H locs → lv_has ls 5 [(0, .ref (za Z k0)), (3, .int l3_5)] → bPn b19 n (l3_5, S_6) = some z → W p l e { frames := 47, cells := 0, slots := 0, locals := 2548 } s m args below meth c H locs 0 0 Q (F0 m 19 ls []) := by
    intro n
    induction n with
    | zero =>
      intro z hg l3_5 S_6 H locs ls hw hl hz
      exact bPn_0 hz
    | succ n ih =>
      intro z hg l3_5 S_6 H locs ls hw hl hz
      obtain ⟨q_7, hf, hz⟩ := bPn_e hz
      have hf := u2_e ((congrFun eb _).symm.trans hf)
      refine lv_iload_n hx hb dX5_law_19 rfl (lv_at hl 1 rfl) ?_
      refine lv_sipush hx hb dX5_law_20 ks_400 ?_
      refine lv_icmp_ge (tgt := 163) hx hb dX5_law_23 (by decide) (fun c_29 => ?_) (fun c_29 => ?_)
      · have hf := (if_pos c_29).symm.trans hf
        obtain rfl := Option.some.inj hf
        obtain rfl := Option.some.inj (hz : some _ = some _)
        exact R163_19 _ _ _ _ hw (lv_sub hl [0] rfl) hg
      · have hf := (if_neg c_29).symm.trans hf
        refine lv_aload_n hx hb dX5_law_26 rfl (lv_at hl 0 rfl) ?_
        refine gI G hw h0 KX5 1 (by decide) rfl fl_X5_35 dX5_law_27 ?_
        refine lv_if_ne (tgt := 163) hx hb dX5_law_30 (by decide) (fun c_28 => ?_) (fun c_28 => ?_)
        · have hf := (if_neg c_28).symm.trans hf
          obtain rfl := Option.some.inj hf
          obtain rfl := Option.some.inj (hz : some _ = some _)
          exact R163_19 _ _ _ _ hw (lv_sub hl [0] rfl) hg
        · have hf := (if_pos c_28).symm.trans hf
          refine lv_aload_n hx hb dX5_law_33 rfl (lv_at hl 0 rfl) ?_
          refine gF G hw h0 KX5 0 (k2 := (k0 + 1)) rfl (by decide) rfl fl_X5_12 dX5_law_34 ?_
          refine gI G hw (sub_Reader_tape hZ h0) KX6 1 (by decide) rfl fl_X5_47 dX5_law_37 ?_
          refine lv_iconst hx hb dX5_law_40 ki_2 ?_
          refine lv_icmp_eq (tgt := 163) hx hb dX5_law_41 (by decide) (fun c_27 => ?_) (fun c_27 => ?_)
          · have hf := (if_pos c_27).symm.trans hf
            obtain rfl := Option.some.inj hf
            obtain rfl := Option.some.inj (hz : some _ = some _)
            exact R163_19 _ _ _ _ hw (lv_sub hl [0] rfl) hg
          · have hf := (if_neg c_27).symm.trans hf
            refine lv_aload_n hx hb dX5_law_44 rfl (lv_at hl 0 rfl) ?_
            refine gF G hw h0 KX5 0 (k2 := (k0 + 1)) rfl (by decide) rfl fl_X5_12 dX5_law_45 ?_
            refine gI G hw (sub_Reader_tape hZ h0) KX6 1 (by decide) rfl fl_X5_47 dX5_law_48 ?_
            obtain ⟨l4_8, el4_8, hf⟩ := bL_e hf
            refine top_i el4_8 ?_
            refine lv_istore (lv' := [(4, .int l4_8), (0, .ref (za Z k0)), (3, .int l3_5)]) hx hb dX5_law_51 hl (by decide) rfl (fun ls hl => ?_)
            refine lv_iload hx hb dX5_law_53 (lv_at hl 0 rfl) ?_
            refine lv_sipush hx hb dX5_law_55 ks_260 ?_
            obtain ⟨j157, ej, hf⟩ := bL_e hf
            have R157 : ∀ (S_9 : pS) (H : Heap) (locs : List Loc) (ls : Array Slot), Wd Z s S_9 H locs → lv_has ls 5 [(0, .ref (za Z k0)), (3, .int l3_5)] → j157 S_9 = some q_7 → W p l e { frames := 47, cells := 0, slots := 0, locals := 2548 } s m args below meth c H locs 0 0 Q (F0 m 157 ls []) := by
              intro S_9 H locs ls hw hl hf
              have hf := (congrFun ej S_9).symm.trans hf
              obtain ⟨l3_10, el3_10, hf⟩ := bL_e hf
              refine lv_iinc (v := l3_10) (lv' := [(3, .int l3_10), (0, .ref (za Z k0))]) hx hb dX5_law_157 hl (k := 1) rfl (by rw [el3_10]; rfl) (by decide) rfl (fun ls hl => ?_)
              refine lv_goto (tgt := 19) hx hb dX5_law_160 (by decide) ?_
              obtain rfl := Option.some.inj hf
              exact ih _ hg _ _ _ _ _ hw (lv_sub hl [1, 0] rfl) hz
            clear ej
            obtain ⟨j70, ej, hf⟩ := bL_e hf
            have R70 : ∀ (H : Heap) (locs : List Loc) (ls : Array Slot), Wd Z s S_6 H locs → lv_has ls 5 [(0, .ref (za Z k0)), (3, .int l3_5)] → j70 () = some q_7 → W p l e { frames := 47, cells := 0, slots := 0, locals := 2548 } s m args below meth c H locs 0 0 Q (F0 m 70 ls []) := by
              intro  H locs ls hw hl hf
              have hf := (congrFun ej ()).symm.trans hf
              refine lv_aload_n hx hb dX5_law_70 rfl (lv_at hl 0 rfl) ?_
              refine lv_iconst hx hb dX5_law_71 ki_1 ?_
              obtain ⟨S_11, hS_11, hf⟩ := bL_e hf
              refine kVv (rest := []) G hw (wX5_fail hZ S_6 k0 1 S_11 h0 hS_11.symm) cw_X5_53 h0 KX5 ⟨Nat.le_of_ble_eq_true rfl, Nat.le_of_ble_eq_true rfl⟩ rfl hl.1 rfl (Nat.le_of_ble_eq_true rfl) ⟨Nat.le_refl _, Nat.le_refl _⟩ dX5_law_72 (fun H locs hw => ?_)
              refine lv_goto (tgt := 157) hx hb dX5_law_75 (by decide) ?_
              exact R157 _ _ _ _ hw (lv_sub hl [0, 1] rfl) hf
            clear ej
            refine lv_icmp_lt (tgt := 70) hx hb dX5_law_58 (by decide) (fun c_26 => ?_) (fun c_26 => ?_)
            · have hf := (if_pos c_26).symm.trans hf
              exact R70 _ _ _ hw (lv_sub hl [1, 2] rfl) hf
            · have hf := (if_neg c_26).symm.trans hf
              refine lv_iload hx hb dX5_law_61 (lv_at hl 0 rfl) ?_
              refine lv_aload_n hx hb dX5_law_63 rfl (lv_at hl 1 rfl) ?_
              refine gI G hw h0 KX5 6 (by decide) rfl fl_X5_64 dX5_law_64 ?_
              refine lv_icmp_lt (tgt := 78) hx hb dX5_law_67 (by decide) (fun c_25 => ?_) (fun c_25 => ?_)
              · have hf := (if_pos c_25).symm.trans hf
                refine lv_aload_n hx hb dX5_law_78 rfl (lv_at hl 1 rfl) ?_
                refine gF G hw h0 KX5 3 (k2 := (k0 + 6)) rfl (by decide) rfl fl_X5_25 dX5_law_79 ?_
                refine gI G hw (sub_Reader_law hZ h0) KX3 0 (by decide) rfl fl_X5_67 dX5_law_82 ?_
                refine lv_bipush hx hb dX5_law_85 kb_16 ?_
                refine lv_icmp_lt (tgt := 98) hx hb dX5_law_87 (by decide) (fun c_24 => ?_) (fun c_24 => ?_)
                · have hf := (if_pos c_24).symm.trans hf
                  refine lv_aload_n hx hb dX5_law_98 rfl (lv_at hl 1 rfl) ?_
                  refine gF G hw h0 KX5 0 (k2 := (k0 + 1)) rfl (by decide) rfl fl_X5_12 dX5_law_99 ?_
                  obtain ⟨S_12, hS_12, hf⟩ := bB_e hf
                  refine kVv (rest := []) G hw (wX6_next hZ S_6 (k0 + 1) S_12 (sub_Reader_tape hZ h0) hS_12) cw_X5_50 (sub_Reader_tape hZ h0) KX6 ⟨Nat.le_of_ble_eq_true rfl, Nat.le_of_ble_eq_true rfl⟩ rfl hl.1 rfl (Nat.le_of_ble_eq_true rfl) ⟨Nat.le_refl _, Nat.le_refl _⟩ dX5_law_102 (fun H locs hw => ?_)
                  refine lv_aload_n hx hb dX5_law_105 rfl (lv_at hl 1 rfl) ?_
                  refine gF G hw h0 KX5 3 (k2 := (k0 + 6)) rfl (by decide) rfl fl_X5_25 dX5_law_106 ?_
                  refine lv_iload hx hb dX5_law_109 (lv_at hl 0 rfl) ?_
                  refine lv_sipush hx hb dX5_law_111 ks_260 ?_
                  refine lv_isub hx hb dX5_law_114 ?_
                  obtain ⟨S_13, hS_13, hf⟩ := bB_e hf
                  refine kVv (rest := []) G hw (wX3_beginLine hZ S_12 (k0 + 6) (l4_8 - 260) S_13 (sub_Reader_law hZ h0) hS_13) cw_X5_70 (sub_Reader_law hZ h0) KX3 ⟨Nat.le_of_ble_eq_true rfl, Nat.le_of_ble_eq_true rfl⟩ rfl hl.1 rfl (Nat.le_of_ble_eq_true rfl) ⟨Nat.le_refl _, Nat.le_refl _⟩ dX5_law_115 (fun H locs hw => ?_)
                  refine lv_aload_n hx hb dX5_law_118 rfl (lv_at hl 1 rfl) ?_
                  obtain ⟨S_14, hS_14, hf⟩ := bB_e hf
                  refine kVv (rest := []) G hw (wX5_sum hZ S_13 k0 S_14 h0 hS_14) cw_X5_73 h0 KX5 ⟨Nat.le_of_ble_eq_true rfl, Nat.le_of_ble_eq_true rfl⟩ rfl hl.1 rfl (Nat.le_of_ble_eq_true rfl) ⟨Nat.le_refl _, Nat.le_refl _⟩ dX5_law_119 (fun H locs hw => ?_)
                  refine lv_aload_n hx hb dX5_law_122 rfl (lv_at hl 1 rfl) ?_
                  refine gF G hw h0 KX5 3 (k2 := (k0 + 6)) rfl (by decide) rfl fl_X5_25 dX5_law_123 ?_
                  obtain ⟨S_15, hS_15, hf⟩ := bB_e hf
                  refine kVv (rest := []) G hw (wX3_beginWhen hZ S_14 (k0 + 6) S_15 (sub_Reader_law hZ h0) hS_15) cw_X5_76 (sub_Reader_law hZ h0) KX3 ⟨Nat.le_of_ble_eq_true rfl, Nat.le_of_ble_eq_true rfl⟩ rfl hl.1 rfl (Nat.le_of_ble_eq_true rfl) ⟨Nat.le_refl _, Nat.le_refl _⟩ dX5_law_126 (fun H locs hw => ?_)
                  refine lv_aload_n hx hb dX5_law_129 rfl (lv_at hl 1 rfl) ?_
                  refine lv_sipush hx hb dX5_law_130 ks_256 ?_
                  obtain ⟨r_16, S_17, hr_16, hf⟩ := bB2_e hf
                  refine kVi (rest := []) G hw (wX5_taken hZ S_15 k0 256 r_16 S_17 h0 hr_16) cw_X5_79 h0 KX5 ⟨Nat.le_of_ble_eq_true rfl, Nat.le_of_ble_eq_true rfl⟩ rfl hl.1 rfl (Nat.le_of_ble_eq_true rfl) ⟨Nat.le_refl _, Nat.le_refl _⟩ dX5_law_133 (fun H locs hw => ?_)
                  obtain ⟨j144, ej, hf⟩ := bL_e hf
                  have R144 : ∀ (S_18 : pS) (H : Heap) (locs : List Loc) (ls : Array Slot), Wd Z s S_18 H locs → lv_has ls 5 [(0, .ref (za Z k0)), (3, .int l3_5)] → j144 S_18 = some q_7 → W p l e { frames := 47, cells := 0, slots := 0, locals := 2548 } s m args below meth c H locs 0 0 Q (F0 m 144 ls []) := by
                    intro S_18 H locs ls hw hl hf
                    have hf := (congrFun ej S_18).symm.trans hf
                    refine lv_aload_n hx hb dX5_law_144 rfl (lv_at hl 0 rfl) ?_
                    refine lv_bipush hx hb dX5_law_145 kb_59 ?_
                    obtain ⟨S_19, hS_19, hf⟩ := bB_e hf
                    refine kVv (rest := []) G hw (wX5_take hZ S_18 k0 59 S_19 h0 hS_19) cw_X5_86 h0 KX5 ⟨Nat.le_of_ble_eq_true rfl, Nat.le_of_ble_eq_true rfl⟩ rfl hl.1 rfl (Nat.le_of_ble_eq_true rfl) ⟨Nat.le_refl _, Nat.le_refl _⟩ dX5_law_147 (fun H locs hw => ?_)
                    refine lv_aload_n hx hb dX5_law_150 rfl (lv_at hl 0 rfl) ?_
                    refine gF G hw h0 KX5 3 (k2 := (k0 + 6)) rfl (by decide) rfl fl_X5_25 dX5_law_151 ?_
                    obtain ⟨S_20, hS_20, hf⟩ := bB_e hf
                    refine kVv (rest := []) G hw (wX3_endLine hZ S_19 (k0 + 6) S_20 (sub_Reader_law hZ h0) hS_20) cw_X5_89 (sub_Reader_law hZ h0) KX3 ⟨Nat.le_of_ble_eq_true rfl, Nat.le_of_ble_eq_true rfl⟩ rfl hl.1 rfl (Nat.le_of_ble_eq_true rfl) ⟨Nat.le_refl _, Nat.le_refl _⟩ dX5_law_154 (fun H locs hw => ?_)
                    exact R157 _ _ _ _ hw (lv_sub hl [0, 1] rfl) hf
                  clear ej
                  refine lv_if_eq (tgt := 144) hx hb dX5_law_136 (by decide) (fun c_22 => ?_) (fun c_22 => ?_)
                  · have hf := (if_pos c_22).symm.trans hf
                    exact R144 _ _ _ _ hw (lv_sub hl [1, 2] rfl) hf
                  · have hf := (if_neg c_22).symm.trans hf
                    refine lv_aload_n hx hb dX5_law_139 rfl (lv_at hl 1 rfl) ?_
                    refine lv_iconst hx hb dX5_law_140 ki_0 ?_
                    obtain ⟨S_21, hS_21, hf⟩ := bB_e hf
                    refine kVv (rest := []) G hw (wX5_anyOf hZ S_17 k0 0 S_21 h0 hS_21) cw_X5_83 h0 KX5 ⟨Nat.le_of_ble_eq_true rfl, Nat.le_of_ble_eq_true rfl⟩ rfl hl.1 rfl (Nat.le_of_ble_eq_true rfl) ⟨Nat.le_refl _, Nat.le_refl _⟩ dX5_law_141 (fun H locs hw => ?_)
                    exact R144 _ _ _ _ hw (lv_sub hl [1, 2] rfl) hf
                · have hf := (if_neg c_24).symm.trans hf
                  refine lv_aload_n hx hb dX5_law_90 rfl (lv_at hl 1 rfl) ?_
                  refine lv_iconst hx hb dX5_law_91 ki_3 ?_
                  obtain ⟨S_23, hS_23, hf⟩ := bL_e hf
                  refine kVv (rest := []) G hw (wX5_fail hZ S_6 k0 3 S_23 h0 hS_23.symm) cw_X5_53 h0 KX5 ⟨Nat.le_of_ble_eq_true rfl, Nat.le_of_ble_eq_true rfl⟩ rfl hl.1 rfl (Nat.le_of_ble_eq_true rfl) ⟨Nat.le_refl _, Nat.le_refl _⟩ dX5_law_92 (fun H locs hw => ?_)
                  refine lv_goto (tgt := 157) hx hb dX5_law_95 (by decide) ?_
                  exact R157 _ _ _ _ hw (lv_sub hl [1, 2] rfl) hf
              · have hf := (if_neg c_25).symm.trans hf
                exact R70 _ _ _ hw (lv_sub hl [1, 2] rfl) hf
  clear eb
  obtain ⟨z, hz, hf⟩ := bB_e hf
  obtain ⟨n, hz⟩ := bP_e hz
  exact RL19 n z hf _ _ _ _ _ hw (lv_sub hl [1, 0] rfl) hz
noncomputable def F5_part (S : pS) (k0 : Nat) (a1 : Int32) (a2 : Int32) : Option (pS) :=
  bL (((S k0 5) * 5) + a1) fun l3_1 =>
  if l3_1 < 0 then
    some S
  else
    if 60 ≤ l3_1 then
      some S
    else
      bG (vp_in l3_1 60) <|
      bL (sU S (k0 + 13) l3_1.toNatClampNeg a2) fun S_3 =>
      some S_3
set_option maxRecDepth 100000 in
set_option maxHeartbeats 4000000 in
theorem wX5_part {l : Launch} {Z : pZ}  (hZ : CC Z) (S : pS) (k0 : Nat) (a1 : Int32) (a2 : Int32) (S2 : pS) (h0 : isA Z K_Reader k0) (hf : F5_part S k0 a1 a2 = some S2) : CV l Z yX5_part cX5_part 4 3 60 [.ref (za Z k0), .int a1, .int a2] S S2 := by
  unfold F5_part at hf
  refine eV (own := RX5) (by decide) rfl (Nat.le_of_ble_eq_true rfl) (fun p e s m args below meth c Q ls G hl hw hret => ?_)
  obtain ⟨hx, hb, hml, hown, hts⟩ := G.1
  have hl : lv_has ls 4 [(0, .ref (za Z k0)), (1, .int a1), (2, .int a2)] := hl
  refine lv_aload_n hx hb dX5_part_0 rfl (lv_at hl 0 rfl) ?_
  refine gI G hw h0 KX5 5 (by decide) rfl fl_X5_38 dX5_part_1 ?_
  refine lv_iconst hx hb dX5_part_4 ki_5 ?_
  refine lv_imul hx hb dX5_part_5 ?_
  refine lv_iload_n hx hb dX5_part_6 rfl (lv_at hl 1 rfl) ?_
  refine lv_iadd hx hb dX5_part_7 ?_
  obtain ⟨l3_1, el3_1, hf⟩ := bL_e hf
  refine top_i el3_1 ?_
  refine lv_istore_n (lv' := [(3, .int l3_1), (0, .ref (za Z k0)), (1, .int a1), (2, .int a2)]) hx hb dX5_part_8 rfl hl (by decide) rfl (fun ls hl => ?_)
  refine lv_iload_n hx hb dX5_part_9 rfl (lv_at hl 0 rfl) ?_
  refine lv_if_lt (tgt := 29) hx hb dX5_part_10 (by decide) (fun c_5 => ?_) (fun c_5 => ?_)
  · have hf := (if_pos c_5).symm.trans hf
    exact hret _ _ _ _ dX5_part_29 (by rw [← (Option.some.inj hf)]; exact hw)
  · have hf := (if_neg c_5).symm.trans hf
    refine lv_iload_n hx hb dX5_part_13 rfl (lv_at hl 0 rfl) ?_
    refine lv_aload_n hx hb dX5_part_14 rfl (lv_at hl 1 rfl) ?_
    refine gF G hw h0 KX5 4 (k2 := (k0 + 13)) rfl (by decide) rfl fl_X5_31 dX5_part_15 ?_
    refine aL G hw (t := 0) (sub_Reader_orders hZ h0) rfl (v := 60) (by decide) dX5_part_18 ?_
    refine lv_icmp_ge (tgt := 29) hx hb dX5_part_19 (by decide) (fun c_4 => ?_) (fun c_4 => ?_)
    · have hf := (if_pos c_4).symm.trans hf
      exact hret _ _ _ _ dX5_part_29 (by rw [← (Option.some.inj hf)]; exact hw)
    · have hf := (if_neg c_4).symm.trans hf
      refine lv_aload_n hx hb dX5_part_22 rfl (lv_at hl 1 rfl) ?_
      refine gF G hw h0 KX5 4 (k2 := (k0 + 13)) rfl (by decide) rfl fl_X5_31 dX5_part_23 ?_
      refine lv_iload_n hx hb dX5_part_26 rfl (lv_at hl 0 rfl) ?_
      refine lv_iload_n hx hb dX5_part_27 rfl (lv_at hl 3 rfl) ?_
      obtain ⟨hg_2, hf⟩ := bG_e hf
      obtain ⟨S_3, eS_3, hf⟩ := bL_e hf
      refine sI G hw (sub_Reader_orders hZ h0) hg_2 (j := l3_1.toNatClampNeg) rfl eS_3 dX5_part_28 (fun H locs hw => ?_)
      exact hret _ _ _ _ dX5_part_29 (by rw [← (Option.some.inj hf)]; exact hw)
noncomputable def F5_throwOrder (S : pS) (k0 : Nat) (a1 : Int32) : Option (pS) :=
  bB2 (F5_number S k0 0 99) fun r_1 S_2 =>
  bB (F5_part S_2 k0 0 r_1) fun S_3 =>
  bB (F5_take S_3 k0 257) fun S_4 =>
  bB2 (F5_number S_4 k0 0 60) fun r_5 S_6 =>
  bB (F5_part S_6 k0 1 r_5) fun S_7 =>
  bB (F5_take S_7 k0 258) fun S_8 =>
  bB2 (F5_number S_8 k0 0 (a1 - 1)) fun r_9 S_10 =>
  bB (F5_part S_10 k0 2 r_9) fun S_11 =>
  bB2 (F5_taken S_11 k0 259) fun r_12 S_13 =>
  bL (fun (t_14 : Int32) (S_15 : pS) =>
    bB (F5_part S_15 k0 3 t_14) fun S_16 =>
    bB2 (F5_taken S_16 k0 260) fun r_17 S_18 =>
    bL (fun (t_19 : Int32) (S_20 : pS) =>
      bB (F5_part S_20 k0 4 t_19) fun S_21 =>
      some S_21) fun j101 =>
    if r_17 = 0 then
      j101 (-1) S_18
    else
      bB2 (F5_number S_18 k0 0 9999) fun r_22 S_23 =>
      j101 r_22 S_23) fun j74 =>
  if r_12 = 0 then
    j74 0 S_13
  else
    bB2 (F5_number S_13 k0 0 9) fun r_25 S_26 =>
    j74 r_25 S_26
set_option maxRecDepth 100000 in
set_option maxHeartbeats 4000000 in
theorem wX5_throwOrder {l : Launch} {Z : pZ}  (hZ : CC Z) (S : pS) (k0 : Nat) (a1 : Int32) (S2 : pS) (h0 : isA Z K_Reader k0) (hf : F5_throwOrder S k0 a1 = some S2) : CV l Z yX5_throwOrder cX5_throwOrder 2 5 104 [.ref (za Z k0), .int a1] S S2 := by
  unfold F5_throwOrder at hf
  refine eV (own := RX5) (by decide) rfl (Nat.le_of_ble_eq_true rfl) (fun p e s m args below meth c Q ls G hl hw hret => ?_)
  obtain ⟨hx, hb, hml, hown, hts⟩ := G.1
  have hl : lv_has ls 2 [(0, .ref (za Z k0)), (1, .int a1)] := hl
  refine lv_aload_n hx hb dX5_throwOrder_0 rfl (lv_at hl 0 rfl) ?_
  refine lv_iconst hx hb dX5_throwOrder_1 ki_0 ?_
  refine lv_aload_n hx hb dX5_throwOrder_2 rfl (lv_at hl 0 rfl) ?_
  refine lv_iconst hx hb dX5_throwOrder_3 ki_0 ?_
  refine lv_bipush hx hb dX5_throwOrder_4 kb_99 ?_
  obtain ⟨r_1, S_2, hr_1, hf⟩ := bB2_e hf
  refine kVi (rest := [.int 0, .ref (za Z k0)]) G hw (wX5_number hZ S k0 0 99 r_1 S_2 h0 hr_1) cw_X5_109 h0 KX5 ⟨Nat.le_of_ble_eq_true rfl, Nat.le_of_ble_eq_true rfl⟩ rfl hl.1 rfl (Nat.le_of_ble_eq_true rfl) ⟨Nat.le_refl _, Nat.le_refl _⟩ dX5_throwOrder_6 (fun H locs hw => ?_)
  obtain ⟨S_3, hS_3, hf⟩ := bB_e hf
  refine kVv (rest := []) G hw (wX5_part hZ S_2 k0 0 r_1 S_3 h0 hS_3) cw_X5_118 h0 KX5 ⟨Nat.le_of_ble_eq_true rfl, Nat.le_of_ble_eq_true rfl⟩ rfl hl.1 rfl (Nat.le_of_ble_eq_true rfl) ⟨Nat.le_refl _, Nat.le_refl _⟩ dX5_throwOrder_9 (fun H locs hw => ?_)
  refine lv_aload_n hx hb dX5_throwOrder_12 rfl (lv_at hl 0 rfl) ?_
  refine lv_sipush hx hb dX5_throwOrder_13 ks_257 ?_
  obtain ⟨S_4, hS_4, hf⟩ := bB_e hf
  refine kVv (rest := []) G hw (wX5_take hZ S_3 k0 257 S_4 h0 hS_4) cw_X5_86 h0 KX5 ⟨Nat.le_of_ble_eq_true rfl, Nat.le_of_ble_eq_true rfl⟩ rfl hl.1 rfl (Nat.le_of_ble_eq_true rfl) ⟨Nat.le_refl _, Nat.le_refl _⟩ dX5_throwOrder_16 (fun H locs hw => ?_)
  refine lv_aload_n hx hb dX5_throwOrder_19 rfl (lv_at hl 0 rfl) ?_
  refine lv_iconst hx hb dX5_throwOrder_20 ki_1 ?_
  refine lv_aload_n hx hb dX5_throwOrder_21 rfl (lv_at hl 0 rfl) ?_
  refine lv_iconst hx hb dX5_throwOrder_22 ki_0 ?_
  refine lv_bipush hx hb dX5_throwOrder_23 kb_60 ?_
  obtain ⟨r_5, S_6, hr_5, hf⟩ := bB2_e hf
  refine kVi (rest := [.int 1, .ref (za Z k0)]) G hw (wX5_number hZ S_4 k0 0 60 r_5 S_6 h0 hr_5) cw_X5_109 h0 KX5 ⟨Nat.le_of_ble_eq_true rfl, Nat.le_of_ble_eq_true rfl⟩ rfl hl.1 rfl (Nat.le_of_ble_eq_true rfl) ⟨Nat.le_refl _, Nat.le_refl _⟩ dX5_throwOrder_25 (fun H locs hw => ?_)
  obtain ⟨S_7, hS_7, hf⟩ := bB_e hf
  refine kVv (rest := []) G hw (wX5_part hZ S_6 k0 1 r_5 S_7 h0 hS_7) cw_X5_118 h0 KX5 ⟨Nat.le_of_ble_eq_true rfl, Nat.le_of_ble_eq_true rfl⟩ rfl hl.1 rfl (Nat.le_of_ble_eq_true rfl) ⟨Nat.le_refl _, Nat.le_refl _⟩ dX5_throwOrder_28 (fun H locs hw => ?_)
  refine lv_aload_n hx hb dX5_throwOrder_31 rfl (lv_at hl 0 rfl) ?_
  refine lv_sipush hx hb dX5_throwOrder_32 ks_258 ?_
  obtain ⟨S_8, hS_8, hf⟩ := bB_e hf
  refine kVv (rest := []) G hw (wX5_take hZ S_7 k0 258 S_8 h0 hS_8) cw_X5_86 h0 KX5 ⟨Nat.le_of_ble_eq_true rfl, Nat.le_of_ble_eq_true rfl⟩ rfl hl.1 rfl (Nat.le_of_ble_eq_true rfl) ⟨Nat.le_refl _, Nat.le_refl _⟩ dX5_throwOrder_35 (fun H locs hw => ?_)
  refine lv_aload_n hx hb dX5_throwOrder_38 rfl (lv_at hl 0 rfl) ?_
  refine lv_iconst hx hb dX5_throwOrder_39 ki_2 ?_
  refine lv_aload_n hx hb dX5_throwOrder_40 rfl (lv_at hl 0 rfl) ?_
  refine lv_iconst hx hb dX5_throwOrder_41 ki_0 ?_
  refine lv_iload_n hx hb dX5_throwOrder_42 rfl (lv_at hl 1 rfl) ?_
  refine lv_iconst hx hb dX5_throwOrder_43 ki_1 ?_
  refine lv_isub hx hb dX5_throwOrder_44 ?_
  obtain ⟨r_9, S_10, hr_9, hf⟩ := bB2_e hf
  refine kVi (rest := [.int 2, .ref (za Z k0)]) G hw (wX5_number hZ S_8 k0 0 (a1 - 1) r_9 S_10 h0 hr_9) cw_X5_109 h0 KX5 ⟨Nat.le_of_ble_eq_true rfl, Nat.le_of_ble_eq_true rfl⟩ rfl hl.1 rfl (Nat.le_of_ble_eq_true rfl) ⟨Nat.le_refl _, Nat.le_refl _⟩ dX5_throwOrder_45 (fun H locs hw => ?_)
  obtain ⟨S_11, hS_11, hf⟩ := bB_e hf
  refine kVv (rest := []) G hw (wX5_part hZ S_10 k0 2 r_9 S_11 h0 hS_11) cw_X5_118 h0 KX5 ⟨Nat.le_of_ble_eq_true rfl, Nat.le_of_ble_eq_true rfl⟩ rfl hl.1 rfl (Nat.le_of_ble_eq_true rfl) ⟨Nat.le_refl _, Nat.le_refl _⟩ dX5_throwOrder_48 (fun H locs hw => ?_)
  refine lv_aload_n hx hb dX5_throwOrder_51 rfl (lv_at hl 0 rfl) ?_
  refine lv_iconst hx hb dX5_throwOrder_52 ki_3 ?_
  refine lv_aload_n hx hb dX5_throwOrder_53 rfl (lv_at hl 0 rfl) ?_
  refine lv_sipush hx hb dX5_throwOrder_54 ks_259 ?_
  obtain ⟨r_12, S_13, hr_12, hf⟩ := bB2_e hf
  refine kVi (rest := [.int 3, .ref (za Z k0)]) G hw (wX5_taken hZ S_11 k0 259 r_12 S_13 h0 hr_12) cw_X5_79 h0 KX5 ⟨Nat.le_of_ble_eq_true rfl, Nat.le_of_ble_eq_true rfl⟩ rfl hl.1 rfl (Nat.le_of_ble_eq_true rfl) ⟨Nat.le_refl _, Nat.le_refl _⟩ dX5_throwOrder_57 (fun H locs hw => ?_)
  obtain ⟨j74, ej, hf⟩ := bL_e hf
  have R74 : ∀ (t_14 : Int32) (S_15 : pS) (H : Heap) (locs : List Loc) (ls : Array Slot), Wd Z s S_15 H locs → lv_has ls 2 [(0, .ref (za Z k0))] → j74 t_14 S_15 = some S2 → W p l e { frames := 5, cells := 0, slots := 0, locals := 104 } s m args below meth c H locs 0 0 Q (F0 m 74 ls [.int t_14, .int 3, .ref (za Z k0)]) := by
    intro t_14 S_15 H locs ls hw hl hf
    have hf := (congrFun (congrFun ej t_14) S_15).symm.trans hf
    obtain ⟨S_16, hS_16, hf⟩ := bB_e hf
    refine kVv (rest := []) G hw (wX5_part hZ S_15 k0 3 t_14 S_16 h0 hS_16) cw_X5_118 h0 KX5 ⟨Nat.le_of_ble_eq_true rfl, Nat.le_of_ble_eq_true rfl⟩ rfl hl.1 rfl (Nat.le_of_ble_eq_true rfl) ⟨Nat.le_refl _, Nat.le_refl _⟩ dX5_throwOrder_74 (fun H locs hw => ?_)
    refine lv_aload_n hx hb dX5_throwOrder_77 rfl (lv_at hl 0 rfl) ?_
    refine lv_iconst hx hb dX5_throwOrder_78 ki_4 ?_
    refine lv_aload_n hx hb dX5_throwOrder_79 rfl (lv_at hl 0 rfl) ?_
    refine lv_sipush hx hb dX5_throwOrder_80 ks_260 ?_
    obtain ⟨r_17, S_18, hr_17, hf⟩ := bB2_e hf
    refine kVi (rest := [.int 4, .ref (za Z k0)]) G hw (wX5_taken hZ S_16 k0 260 r_17 S_18 h0 hr_17) cw_X5_79 h0 KX5 ⟨Nat.le_of_ble_eq_true rfl, Nat.le_of_ble_eq_true rfl⟩ rfl hl.1 rfl (Nat.le_of_ble_eq_true rfl) ⟨Nat.le_refl _, Nat.le_refl _⟩ dX5_throwOrder_83 (fun H locs hw => ?_)
    obtain ⟨j101, ej, hf⟩ := bL_e hf
    have R101 : ∀ (t_19 : Int32) (S_20 : pS) (H : Heap) (locs : List Loc) (ls : Array Slot), Wd Z s S_20 H locs → lv_has ls 2 [] → j101 t_19 S_20 = some S2 → W p l e { frames := 5, cells := 0, slots := 0, locals := 104 } s m args below meth c H locs 0 0 Q (F0 m 101 ls [.int t_19, .int 4, .ref (za Z k0)]) := by
      intro t_19 S_20 H locs ls hw hl hf
      have hf := (congrFun (congrFun ej t_19) S_20).symm.trans hf
      obtain ⟨S_21, hS_21, hf⟩ := bB_e hf
      refine kVv (rest := []) G hw (wX5_part hZ S_20 k0 4 t_19 S_21 h0 hS_21) cw_X5_118 h0 KX5 ⟨Nat.le_of_ble_eq_true rfl, Nat.le_of_ble_eq_true rfl⟩ rfl hl.1 rfl (Nat.le_of_ble_eq_true rfl) ⟨Nat.le_refl _, Nat.le_refl _⟩ dX5_throwOrder_101 (fun H locs hw => ?_)
      exact hret _ _ _ _ dX5_throwOrder_104 (by rw [← (Option.some.inj hf)]; exact hw)
    clear ej
    refine lv_if_eq (tgt := 100) hx hb dX5_throwOrder_86 (by decide) (fun c_24 => ?_) (fun c_24 => ?_)
    · have hf := (if_pos c_24).symm.trans hf
      refine lv_iconst hx hb dX5_throwOrder_100 ki_m1 ?_
      exact R101 _ _ _ _ _ hw (lv_sub hl [] rfl) hf
    · have hf := (if_neg c_24).symm.trans hf
      refine lv_aload_n hx hb dX5_throwOrder_89 rfl (lv_at hl 0 rfl) ?_
      refine lv_iconst hx hb dX5_throwOrder_90 ki_0 ?_
      refine lv_sipush hx hb dX5_throwOrder_91 ks_9999 ?_
      obtain ⟨r_22, S_23, hr_22, hf⟩ := bB2_e hf
      refine kVi (rest := [.int 4, .ref (za Z k0)]) G hw (wX5_number hZ S_18 k0 0 9999 r_22 S_23 h0 hr_22) cw_X5_109 h0 KX5 ⟨Nat.le_of_ble_eq_true rfl, Nat.le_of_ble_eq_true rfl⟩ rfl hl.1 rfl (Nat.le_of_ble_eq_true rfl) ⟨Nat.le_refl _, Nat.le_refl _⟩ dX5_throwOrder_94 (fun H locs hw => ?_)
      refine lv_goto (tgt := 101) hx hb dX5_throwOrder_97 (by decide) ?_
      exact R101 _ _ _ _ _ hw (lv_sub hl [] rfl) hf
  clear ej
  refine lv_if_eq (tgt := 73) hx hb dX5_throwOrder_60 (by decide) (fun c_27 => ?_) (fun c_27 => ?_)
  · have hf := (if_pos c_27).symm.trans hf
    refine lv_iconst hx hb dX5_throwOrder_73 ki_0 ?_
    exact R74 _ _ _ _ _ hw (lv_sub hl [0] rfl) hf
  · have hf := (if_neg c_27).symm.trans hf
    refine lv_aload_n hx hb dX5_throwOrder_63 rfl (lv_at hl 0 rfl) ?_
    refine lv_iconst hx hb dX5_throwOrder_64 ki_0 ?_
    refine lv_bipush hx hb dX5_throwOrder_65 kb_9 ?_
    obtain ⟨r_25, S_26, hr_25, hf⟩ := bB2_e hf
    refine kVi (rest := [.int 3, .ref (za Z k0)]) G hw (wX5_number hZ S_13 k0 0 9 r_25 S_26 h0 hr_25) cw_X5_109 h0 KX5 ⟨Nat.le_of_ble_eq_true rfl, Nat.le_of_ble_eq_true rfl⟩ rfl hl.1 rfl (Nat.le_of_ble_eq_true rfl) ⟨Nat.le_refl _, Nat.le_refl _⟩ dX5_throwOrder_67 (fun H locs hw => ?_)
    refine lv_goto (tgt := 74) hx hb dX5_throwOrder_70 (by decide) ?_
    exact R74 _ _ _ _ _ hw (lv_sub hl [0] rfl) hf
noncomputable def F5_plan (S : pS) (k0 : Nat) (a1 : Int32) : Option (Int32 × pS) :=
  bB (F6_cut S (k0 + 1) 3) fun S_1 =>
  bL (fun (S_2 : pS) =>
    if (S_2 k0 1) = 0 then
      some ((1 : Int32), S_2)
    else
      some ((0 : Int32), S_2)) fun g140_11 =>
  bL (u2 fun (l2_4 : Int32) (S_5 : pS) =>
    if 400 ≤ l2_4 then
      some (.inr S_5)
    else
      if (S_5 k0 1) = 0 then
        if (S_5 (k0 + 1) 1) = 2 then
          some (.inr S_5)
        else
          bL (fun (S_7 : pS) =>
            bL (l2_4 + 1) fun l2_8 =>
            some (.inl (l2_8, S_7))) fun j134 =>
          bL (fun (_ : Unit) =>
            if (S_5 k0 5) < 12 then
              bB2 (F5_taken S_5 k0 256) fun r_9 S_10 =>
              bL (fun (S_11 : pS) =>
                bB (F5_take S_11 k0 59) fun S_12 =>
                bL (sU S_12 k0 5 ((S_12 k0 5) + 1)) fun S_13 =>
                j134 S_13) fun j118 =>
              if r_9 = 0 then
                bB (F5_take S_10 k0 261) fun S_14 =>
                bB (F5_part S_14 k0 0 (-1)) fun S_15 =>
                j118 S_15
              else
                bB (F5_throwOrder S_10 k0 a1) fun S_16 =>
                j118 S_16
            else
              bL (F5_fail S_5 k0 3) fun S_18 =>
              j134 S_18) fun j70 =>
          if (S_5 (k0 + 1) 1) = 256 then
            j70 ()
          else
            if (S_5 (k0 + 1) 1) = 261 then
              j70 ()
            else
              bL (F5_fail S_5 k0 1) fun S_20 =>
              j134 S_20
      else
        some (.inr S_5)) fun b11 =>
  bB (bP b11 ((0 : Int32), S_1)) (u1 g140_11)
set_option maxRecDepth 100000 in
set_option maxHeartbeats 4000000 in
theorem wX5_plan {l : Launch} {Z : pZ}  (hZ : CC Z) (S : pS) (k0 : Nat) (a1 : Int32) (r : Int32) (S2 : pS) (h0 : isA Z K_Reader k0) (hf : F5_plan S k0 a1 = some (r, S2)) : CI l Z yX5_plan cX5_plan 3 .boolean 10 237 [.ref (za Z k0), .int a1] S r S2 := by
  unfold F5_plan at hf
  refine eZ (own := RX5) (by decide) rfl (Nat.le_of_ble_eq_true rfl) (fun p e s m args below meth c Q ls G hl hw hret => ?_)
  obtain ⟨hx, hb, hml, hown, hts⟩ := G.1
  have hl : lv_has ls 3 [(0, .ref (za Z k0)), (1, .int a1)] := hl
  refine lv_aload_n hx hb dX5_plan_0 rfl (lv_at hl 0 rfl) ?_
  refine gF G hw h0 KX5 0 (k2 := (k0 + 1)) rfl (by decide) rfl fl_X5_12 dX5_plan_1 ?_
  refine va_ldcS hx hb hown (rS_3 G) dX5_plan_4 ?_
  obtain ⟨S_1, hS_1, hf⟩ := bB_e hf
  refine kVv (rest := []) G hw (wX6_cut hZ S (k0 + 1) 3 S_1 (sub_Reader_tape hZ h0) (by decide) hS_1) cw_X5_60 (sub_Reader_tape hZ h0) KX6 ⟨Nat.le_of_ble_eq_true rfl, Nat.le_of_ble_eq_true rfl⟩ rfl hl.1 rfl (Nat.le_of_ble_eq_true rfl) ⟨Nat.le_refl _, Nat.le_refl _⟩ dX5_plan_6 (fun H locs hw => ?_)
  refine lv_iconst hx hb dX5_plan_9 ki_0 ?_
  refine lv_istore_n (lv' := [(2, .int 0), (0, .ref (za Z k0)), (1, .int a1)]) hx hb dX5_plan_10 rfl hl (by decide) rfl (fun ls hl => ?_)
  obtain ⟨g140_11, ej, hf⟩ := bL_e hf
  have R140_11 : ∀ (S_2 : pS) (H : Heap) (locs : List Loc) (ls : Array Slot), Wd Z s S_2 H locs → lv_has ls 3 [(0, .ref (za Z k0))] → g140_11 S_2 = some (r, S2) → W p l e { frames := 10, cells := 0, slots := 0, locals := 237 } s m args below meth c H locs 0 0 Q (F0 m 140 ls []) := by
    intro S_2 H locs ls hw hl hf
    have hf := (congrFun ej S_2).symm.trans hf
    refine lv_aload_n hx hb dX5_plan_140 rfl (lv_at hl 0 rfl) ?_
    refine gI G hw h0 KX5 1 (by decide) rfl fl_X5_35 dX5_plan_141 ?_
    refine lv_if_ne (tgt := 151) hx hb dX5_plan_144 (by decide) (fun c_3 => ?_) (fun c_3 => ?_)
    · have hf := (if_neg c_3).symm.trans hf
      refine lv_iconst hx hb dX5_plan_151 ki_0 ?_
      obtain ⟨e1, e2⟩ := Prod.mk.inj (Option.some.inj hf)
      exact hret _ _ _ _ _ dX5_plan_152 ((by decide : (0 : Int32) &&& 1 = 0).trans e1) (by rw [← e2]; exact hw)
    · have hf := (if_pos c_3).symm.trans hf
      refine lv_iconst hx hb dX5_plan_147 ki_1 ?_
      refine lv_goto (tgt := 152) hx hb dX5_plan_148 (by decide) ?_
      obtain ⟨e1, e2⟩ := Prod.mk.inj (Option.some.inj hf)
      exact hret _ _ _ _ _ dX5_plan_152 ((by decide : (1 : Int32) &&& 1 = 1).trans e1) (by rw [← e2]; exact hw)
  clear ej
  obtain ⟨b11, eb, hf⟩ := bL_e hf
  have RL11 : ∀ (n : Nat) z, (u1 g140_11) z = some (r, S2) → ∀ (l2_4 : Int32) (S_5 : pS) (H : Heap) (locs : List Loc) (ls : Array Slot), Wd Z s S_5 H locs → lv_has ls 3 [(0, .ref (za Z k0)), (1, .int a1), (2, .int l2_4)] → bPn b11 n (l2_4, S_5) = some z → W p l e { frames := 10, cells := 0, slots := 0, locals := 237 } s m args below meth c H locs 0 0 Q (F0 m 11 ls []) := by
    intro n
    induction n with
    | zero =>
      intro z hg l2_4 S_5 H locs ls hw hl hz
      exact bPn_0 hz
    | succ n ih =>
      intro z hg l2_4 S_5 H locs ls hw hl hz
      obtain ⟨q_6, hf, hz⟩ := bPn_e hz
      have hf := u2_e ((congrFun eb _).symm.trans hf)
      refine lv_iload_n hx hb dX5_plan_11 rfl (lv_at hl 2 rfl) ?_
      refine lv_sipush hx hb dX5_plan_12 ks_400 ?_
      refine lv_icmp_ge (tgt := 140) hx hb dX5_plan_15 (by decide) (fun c_25 => ?_) (fun c_25 => ?_)
      · have hf := (if_pos c_25).symm.trans hf
        obtain rfl := Option.some.inj hf
        obtain rfl := Option.some.inj (hz : some _ = some _)
        exact R140_11 _ _ _ _ hw (lv_sub hl [0] rfl) hg
      · have hf := (if_neg c_25).symm.trans hf
        refine lv_aload_n hx hb dX5_plan_18 rfl (lv_at hl 0 rfl) ?_
        refine gI G hw h0 KX5 1 (by decide) rfl fl_X5_35 dX5_plan_19 ?_
        refine lv_if_ne (tgt := 140) hx hb dX5_plan_22 (by decide) (fun c_24 => ?_) (fun c_24 => ?_)
        · have hf := (if_neg c_24).symm.trans hf
          obtain rfl := Option.some.inj hf
          obtain rfl := Option.some.inj (hz : some _ = some _)
          exact R140_11 _ _ _ _ hw (lv_sub hl [0] rfl) hg
        · have hf := (if_pos c_24).symm.trans hf
          refine lv_aload_n hx hb dX5_plan_25 rfl (lv_at hl 0 rfl) ?_
          refine gF G hw h0 KX5 0 (k2 := (k0 + 1)) rfl (by decide) rfl fl_X5_12 dX5_plan_26 ?_
          refine gI G hw (sub_Reader_tape hZ h0) KX6 1 (by decide) rfl fl_X5_47 dX5_plan_29 ?_
          refine lv_iconst hx hb dX5_plan_32 ki_2 ?_
          refine lv_icmp_eq (tgt := 140) hx hb dX5_plan_33 (by decide) (fun c_23 => ?_) (fun c_23 => ?_)
          · have hf := (if_pos c_23).symm.trans hf
            obtain rfl := Option.some.inj hf
            obtain rfl := Option.some.inj (hz : some _ = some _)
            exact R140_11 _ _ _ _ hw (lv_sub hl [0] rfl) hg
          · have hf := (if_neg c_23).symm.trans hf
            refine lv_aload_n hx hb dX5_plan_36 rfl (lv_at hl 0 rfl) ?_
            refine gF G hw h0 KX5 0 (k2 := (k0 + 1)) rfl (by decide) rfl fl_X5_12 dX5_plan_37 ?_
            refine gI G hw (sub_Reader_tape hZ h0) KX6 1 (by decide) rfl fl_X5_47 dX5_plan_40 ?_
            refine lv_sipush hx hb dX5_plan_43 ks_256 ?_
            obtain ⟨j134, ej, hf⟩ := bL_e hf
            have R134 : ∀ (S_7 : pS) (H : Heap) (locs : List Loc) (ls : Array Slot), Wd Z s S_7 H locs → lv_has ls 3 [(0, .ref (za Z k0)), (1, .int a1), (2, .int l2_4)] → j134 S_7 = some q_6 → W p l e { frames := 10, cells := 0, slots := 0, locals := 237 } s m args below meth c H locs 0 0 Q (F0 m 134 ls []) := by
              intro S_7 H locs ls hw hl hf
              have hf := (congrFun ej S_7).symm.trans hf
              obtain ⟨l2_8, el2_8, hf⟩ := bL_e hf
              refine lv_iinc (v := l2_8) (lv' := [(2, .int l2_8), (0, .ref (za Z k0)), (1, .int a1)]) hx hb dX5_plan_134 hl (k := 2) rfl (by rw [el2_8]; rfl) (by decide) rfl (fun ls hl => ?_)
              refine lv_goto (tgt := 11) hx hb dX5_plan_137 (by decide) ?_
              obtain rfl := Option.some.inj hf
              exact ih _ hg _ _ _ _ _ hw (lv_sub hl [1, 2, 0] rfl) hz
            clear ej
            obtain ⟨j70, ej, hf⟩ := bL_e hf
            have R70 : ∀ (H : Heap) (locs : List Loc) (ls : Array Slot), Wd Z s S_5 H locs → lv_has ls 3 [(0, .ref (za Z k0)), (1, .int a1), (2, .int l2_4)] → j70 () = some q_6 → W p l e { frames := 10, cells := 0, slots := 0, locals := 237 } s m args below meth c H locs 0 0 Q (F0 m 70 ls []) := by
              intro  H locs ls hw hl hf
              have hf := (congrFun ej ()).symm.trans hf
              refine lv_aload_n hx hb dX5_plan_70 rfl (lv_at hl 0 rfl) ?_
              refine gI G hw h0 KX5 5 (by decide) rfl fl_X5_38 dX5_plan_71 ?_
              refine lv_bipush hx hb dX5_plan_74 kb_12 ?_
              refine lv_icmp_lt (tgt := 87) hx hb dX5_plan_76 (by decide) (fun c_19 => ?_) (fun c_19 => ?_)
              · have hf := (if_pos c_19).symm.trans hf
                refine lv_aload_n hx hb dX5_plan_87 rfl (lv_at hl 0 rfl) ?_
                refine lv_sipush hx hb dX5_plan_88 ks_256 ?_
                obtain ⟨r_9, S_10, hr_9, hf⟩ := bB2_e hf
                refine kVi (rest := []) G hw (wX5_taken hZ S_5 k0 256 r_9 S_10 h0 hr_9) cw_X5_79 h0 KX5 ⟨Nat.le_of_ble_eq_true rfl, Nat.le_of_ble_eq_true rfl⟩ rfl hl.1 rfl (Nat.le_of_ble_eq_true rfl) ⟨Nat.le_refl _, Nat.le_refl _⟩ dX5_plan_91 (fun H locs hw => ?_)
                obtain ⟨j118, ej, hf⟩ := bL_e hf
                have R118 : ∀ (S_11 : pS) (H : Heap) (locs : List Loc) (ls : Array Slot), Wd Z s S_11 H locs → lv_has ls 3 [(0, .ref (za Z k0)), (1, .int a1), (2, .int l2_4)] → j118 S_11 = some q_6 → W p l e { frames := 10, cells := 0, slots := 0, locals := 237 } s m args below meth c H locs 0 0 Q (F0 m 118 ls []) := by
                  intro S_11 H locs ls hw hl hf
                  have hf := (congrFun ej S_11).symm.trans hf
                  refine lv_aload_n hx hb dX5_plan_118 rfl (lv_at hl 0 rfl) ?_
                  refine lv_bipush hx hb dX5_plan_119 kb_59 ?_
                  obtain ⟨S_12, hS_12, hf⟩ := bB_e hf
                  refine kVv (rest := []) G hw (wX5_take hZ S_11 k0 59 S_12 h0 hS_12) cw_X5_86 h0 KX5 ⟨Nat.le_of_ble_eq_true rfl, Nat.le_of_ble_eq_true rfl⟩ rfl hl.1 rfl (Nat.le_of_ble_eq_true rfl) ⟨Nat.le_refl _, Nat.le_refl _⟩ dX5_plan_121 (fun H locs hw => ?_)
                  refine lv_aload_n hx hb dX5_plan_124 rfl (lv_at hl 0 rfl) ?_
                  refine lv_dup hx hb dX5_plan_125 rfl ?_
                  refine gI G hw h0 KX5 5 (by decide) rfl fl_X5_38 dX5_plan_126 ?_
                  refine lv_iconst hx hb dX5_plan_129 ki_1 ?_
                  refine lv_iadd hx hb dX5_plan_130 ?_
                  obtain ⟨S_13, eS_13, hf⟩ := bL_e hf
                  refine pI G hw h0 KX5 5 (by decide) rfl rfl rfl eS_13 fl_X5_38 dX5_plan_131 (fun H locs hw => ?_)
                  exact R134 _ _ _ _ hw (lv_sub hl [0, 1, 2] rfl) hf
                clear ej
                refine lv_if_eq (tgt := 105) hx hb dX5_plan_94 (by decide) (fun c_17 => ?_) (fun c_17 => ?_)
                · have hf := (if_pos c_17).symm.trans hf
                  refine lv_aload_n hx hb dX5_plan_105 rfl (lv_at hl 0 rfl) ?_
                  refine lv_sipush hx hb dX5_plan_106 ks_261 ?_
                  obtain ⟨S_14, hS_14, hf⟩ := bB_e hf
                  refine kVv (rest := []) G hw (wX5_take hZ S_10 k0 261 S_14 h0 hS_14) cw_X5_86 h0 KX5 ⟨Nat.le_of_ble_eq_true rfl, Nat.le_of_ble_eq_true rfl⟩ rfl hl.1 rfl (Nat.le_of_ble_eq_true rfl) ⟨Nat.le_refl _, Nat.le_refl _⟩ dX5_plan_109 (fun H locs hw => ?_)
                  refine lv_aload_n hx hb dX5_plan_112 rfl (lv_at hl 0 rfl) ?_
                  refine lv_iconst hx hb dX5_plan_113 ki_0 ?_
                  refine lv_iconst hx hb dX5_plan_114 ki_m1 ?_
                  obtain ⟨S_15, hS_15, hf⟩ := bB_e hf
                  refine kVv (rest := []) G hw (wX5_part hZ S_14 k0 0 (-1) S_15 h0 hS_15) cw_X5_118 h0 KX5 ⟨Nat.le_of_ble_eq_true rfl, Nat.le_of_ble_eq_true rfl⟩ rfl hl.1 rfl (Nat.le_of_ble_eq_true rfl) ⟨Nat.le_refl _, Nat.le_refl _⟩ dX5_plan_115 (fun H locs hw => ?_)
                  exact R118 _ _ _ _ hw (lv_sub hl [0, 1, 2] rfl) hf
                · have hf := (if_neg c_17).symm.trans hf
                  refine lv_aload_n hx hb dX5_plan_97 rfl (lv_at hl 0 rfl) ?_
                  refine lv_iload_n hx hb dX5_plan_98 rfl (lv_at hl 1 rfl) ?_
                  obtain ⟨S_16, hS_16, hf⟩ := bB_e hf
                  refine kVv (rest := []) G hw (wX5_throwOrder hZ S_10 k0 a1 S_16 h0 hS_16) cw_X5_115 h0 KX5 ⟨Nat.le_of_ble_eq_true rfl, Nat.le_of_ble_eq_true rfl⟩ rfl hl.1 rfl (Nat.le_of_ble_eq_true rfl) ⟨Nat.le_refl _, Nat.le_refl _⟩ dX5_plan_99 (fun H locs hw => ?_)
                  refine lv_goto (tgt := 118) hx hb dX5_plan_102 (by decide) ?_
                  exact R118 _ _ _ _ hw (lv_sub hl [0, 1, 2] rfl) hf
              · have hf := (if_neg c_19).symm.trans hf
                refine lv_aload_n hx hb dX5_plan_79 rfl (lv_at hl 0 rfl) ?_
                refine lv_iconst hx hb dX5_plan_80 ki_3 ?_
                obtain ⟨S_18, hS_18, hf⟩ := bL_e hf
                refine kVv (rest := []) G hw (wX5_fail hZ S_5 k0 3 S_18 h0 hS_18.symm) cw_X5_53 h0 KX5 ⟨Nat.le_of_ble_eq_true rfl, Nat.le_of_ble_eq_true rfl⟩ rfl hl.1 rfl (Nat.le_of_ble_eq_true rfl) ⟨Nat.le_refl _, Nat.le_refl _⟩ dX5_plan_81 (fun H locs hw => ?_)
                refine lv_goto (tgt := 134) hx hb dX5_plan_84 (by decide) ?_
                exact R134 _ _ _ _ hw (lv_sub hl [0, 1, 2] rfl) hf
            clear ej
            refine lv_icmp_eq (tgt := 70) hx hb dX5_plan_46 (by decide) (fun c_22 => ?_) (fun c_22 => ?_)
            · have hf := (if_pos c_22).symm.trans hf
              exact R70 _ _ _ hw (lv_sub hl [0, 1, 2] rfl) hf
            · have hf := (if_neg c_22).symm.trans hf
              refine lv_aload_n hx hb dX5_plan_49 rfl (lv_at hl 0 rfl) ?_
              refine gF G hw h0 KX5 0 (k2 := (k0 + 1)) rfl (by decide) rfl fl_X5_12 dX5_plan_50 ?_
              refine gI G hw (sub_Reader_tape hZ h0) KX6 1 (by decide) rfl fl_X5_47 dX5_plan_53 ?_
              refine lv_sipush hx hb dX5_plan_56 ks_261 ?_
              refine lv_icmp_eq (tgt := 70) hx hb dX5_plan_59 (by decide) (fun c_21 => ?_) (fun c_21 => ?_)
              · have hf := (if_pos c_21).symm.trans hf
                exact R70 _ _ _ hw (lv_sub hl [0, 1, 2] rfl) hf
              · have hf := (if_neg c_21).symm.trans hf
                refine lv_aload_n hx hb dX5_plan_62 rfl (lv_at hl 0 rfl) ?_
                refine lv_iconst hx hb dX5_plan_63 ki_1 ?_
                obtain ⟨S_20, hS_20, hf⟩ := bL_e hf
                refine kVv (rest := []) G hw (wX5_fail hZ S_5 k0 1 S_20 h0 hS_20.symm) cw_X5_53 h0 KX5 ⟨Nat.le_of_ble_eq_true rfl, Nat.le_of_ble_eq_true rfl⟩ rfl hl.1 rfl (Nat.le_of_ble_eq_true rfl) ⟨Nat.le_refl _, Nat.le_refl _⟩ dX5_plan_64 (fun H locs hw => ?_)
                refine lv_goto (tgt := 134) hx hb dX5_plan_67 (by decide) ?_
                exact R134 _ _ _ _ hw (lv_sub hl [0, 1, 2] rfl) hf
  clear eb
  obtain ⟨z, hz, hf⟩ := bB_e hf
  obtain ⟨n, hz⟩ := bP_e hz
  exact RL11 n z hf _ _ _ _ _ hw (lv_sub hl [1, 2, 0] rfl) hz
noncomputable def F11_text (S : pS) (a1 : Int32) (a2 : Int32) : Option (Int32 × pS) :=
  bL (F5_begin S 45) fun S_1 =>
  bB (F10_one S_1 1 a2) fun r_2 =>
  bL (fun (l4_3 : Int32) (S_4 : pS) =>
    bL (sU S_4 46 0 0) fun S_5 =>
    some (l4_3, S_5)) fun j153 =>
  bL (fun (S_6 : pS) =>
    bL (fun (S_7 : pS) =>
      bL (fun (S_8 : pS) =>
        if a1 = 3 then
          bB2 (F5_law S_8 45 2 2) fun r_9 S_10 =>
          if r_9 = 0 then
            j153 (-1) S_10
          else
            bT2 (F11_keepLaw S_10 22) fun r_11 S_12 =>
            j153 r_11 S_12
        else
          j153 (-1) S_8) fun j122 =>
      if a1 = 2 then
        bO r_2 (
          j122 S_7) fun o_15 =>
        bB2 (F5_plan S_7 45 (S_7 1 4)) fun r_16 S_17 =>
        if r_16 = 0 then
          j122 S_17
        else
          bT2 (F11_keepPlan S_17 o_15) fun r_18 S_19 =>
          j153 r_18 S_19
      else
        j122 S_7) fun j86 =>
    if a1 = 1 then
      bB2 (F5_law S_6 45 1 3) fun r_23 S_24 =>
      if r_23 = 0 then
        j86 S_24
      else
        bT2 (F11_keepLaw S_24 15) fun r_25 S_26 =>
        j153 r_25 S_26
    else
      j86 S_6) fun j52 =>
  if a1 = 0 then
    bB2 (F5_law S_1 45 0 4) fun r_29 S_30 =>
    if r_29 = 0 then
      j52 S_30
    else
      bT2 (F11_keepLaw S_30 8) fun r_31 S_32 =>
      j153 r_31 S_32
  else
    j52 S_1
set_option maxRecDepth 100000 in
set_option maxHeartbeats 4000000 in
theorem wX11_text {l : Launch} {Z : pZ}  (hZ : CC Z) (S : pS) (a1 : Int32) (a2 : Int32) (r : Int32) (S2 : pS) (h0 : isA Z K_PF 0) (hf : F11_text S a1 a2 = some (r, S2)) : CI l Z yX11_text cX11_text 5 .int 48 2572 [.ref (za Z 0), .int a1, .int a2] S r S2 := by
  unfold F11_text at hf
  refine eI (own := RX11) (by decide) rfl (Nat.le_of_ble_eq_true rfl) (fun p e s m args below meth c Q ls G hl hw hret => ?_)
  obtain ⟨hx, hb, hml, hown, hts⟩ := G.1
  have hl : lv_has ls 5 [(0, .ref (za Z 0)), (1, .int a1), (2, .int a2)] := hl
  refine lv_aload_n hx hb dX11_text_0 rfl (lv_at hl 0 rfl) ?_
  refine gF G hw h0 KX11 1 (k2 := 45) rfl (by decide) rfl fl_X11_19 dX11_text_1 ?_
  obtain ⟨S_1, hS_1, hf⟩ := bL_e hf
  refine kVv (rest := []) G hw (wX5_begin hZ S 45 S_1 (sub_PF_reader hZ h0) hS_1.symm) cw_X11_105 (sub_PF_reader hZ h0) KX5 ⟨Nat.le_of_ble_eq_true rfl, Nat.le_of_ble_eq_true rfl⟩ rfl hl.1 rfl (Nat.le_of_ble_eq_true rfl) ⟨Nat.le_refl _, Nat.le_refl _⟩ dX11_text_4 (fun H locs hw => ?_)
  refine lv_aload_n hx hb dX11_text_7 rfl (lv_at hl 0 rfl) ?_
  refine gF G hw h0 KX11 0 (k2 := 1) rfl (by decide) rfl fl_X11_10 dX11_text_8 ?_
  refine lv_iload_n hx hb dX11_text_11 rfl (lv_at hl 2 rfl) ?_
  obtain ⟨r_2, hr_2, hf⟩ := bB_e hf
  refine kVq (rest := []) G hw (wX10_one hZ S_1 1 a2 r_2 (sub_PF_now hZ h0) hr_2) cw_X11_80 (sub_PF_now hZ h0) KX10 ⟨Nat.le_of_ble_eq_true rfl, Nat.le_of_ble_eq_true rfl⟩ rfl hl.1 rfl (Nat.le_of_ble_eq_true rfl) ⟨Nat.le_refl _, Nat.le_refl _⟩ dX11_text_12 (fun H locs hw => ?_)
  refine astQn (lv' := [(3, va_rf (Option.map (za Z) r_2)), (0, .ref (za Z 0)), (1, .int a1), (2, .int a2)]) hx hb dX11_text_15 rfl hl (by decide) rfl (fun ls hl => ?_)
  refine lv_iconst hx hb dX11_text_16 ki_m1 ?_
  refine lv_istore (lv' := [(4, .int (-1)), (3, va_rf (Option.map (za Z) r_2)), (0, .ref (za Z 0)), (1, .int a1), (2, .int a2)]) hx hb dX11_text_17 hl (by decide) (by simp [vrc]) (fun ls hl => ?_)
  refine lv_iload_n hx hb dX11_text_19 rfl (lv_at hl 3 rfl) ?_
  obtain ⟨j153, ej, hf⟩ := bL_e hf
  have R153 : ∀ (l4_3 : Int32) (S_4 : pS) (H : Heap) (locs : List Loc) (ls : Array Slot), Wd Z s S_4 H locs → lv_has ls 5 [(0, .ref (za Z 0)), (4, .int l4_3)] → j153 l4_3 S_4 = some (r, S2) → W p l e { frames := 48, cells := 0, slots := 0, locals := 2572 } s m args below meth c H locs 0 0 Q (F0 m 153 ls []) := by
    intro l4_3 S_4 H locs ls hw hl hf
    have hf := (congrFun (congrFun ej l4_3) S_4).symm.trans hf
    refine lv_aload_n hx hb dX11_text_153 rfl (lv_at hl 0 rfl) ?_
    refine gF G hw h0 KX11 1 (k2 := 45) rfl (by decide) rfl fl_X11_19 dX11_text_154 ?_
    refine gF G hw (sub_PF_reader hZ h0) KX5 0 (k2 := 46) rfl (by decide) rfl fl_X11_92 dX11_text_157 ?_
    refine lv_iconst hx hb dX11_text_160 ki_0 ?_
    obtain ⟨S_5, eS_5, hf⟩ := bL_e hf
    refine pI G hw (sub_Reader_tape hZ (sub_PF_reader hZ h0)) KX6 0 (by decide) rfl rfl rfl eS_5 fl_X11_96 dX11_text_161 (fun H locs hw => ?_)
    refine lv_iload hx hb dX11_text_164 (lv_at hl 1 rfl) ?_
    obtain ⟨e1, e2⟩ := Prod.mk.inj (Option.some.inj hf)
    exact hret _ _ _ _ _ dX11_text_166 e1 (by rw [← e2]; exact hw)
  clear ej
  obtain ⟨j52, ej, hf⟩ := bL_e hf
  have R52 : ∀ (S_6 : pS) (H : Heap) (locs : List Loc) (ls : Array Slot), Wd Z s S_6 H locs → lv_has ls 5 [(0, .ref (za Z 0)), (1, .int a1), (3, va_rf (Option.map (za Z) r_2)), (4, .int (-1))] → j52 S_6 = some (r, S2) → W p l e { frames := 48, cells := 0, slots := 0, locals := 2572 } s m args below meth c H locs 0 0 Q (F0 m 52 ls []) := by
    intro S_6 H locs ls hw hl hf
    have hf := (congrFun ej S_6).symm.trans hf
    refine lv_iload_n hx hb dX11_text_52 rfl (lv_at hl 1 rfl) ?_
    refine lv_iconst hx hb dX11_text_53 ki_1 ?_
    obtain ⟨j86, ej, hf⟩ := bL_e hf
    have R86 : ∀ (S_7 : pS) (H : Heap) (locs : List Loc) (ls : Array Slot), Wd Z s S_7 H locs → lv_has ls 5 [(0, .ref (za Z 0)), (1, .int a1), (3, va_rf (Option.map (za Z) r_2)), (4, .int (-1))] → j86 S_7 = some (r, S2) → W p l e { frames := 48, cells := 0, slots := 0, locals := 2572 } s m args below meth c H locs 0 0 Q (F0 m 86 ls []) := by
      intro S_7 H locs ls hw hl hf
      have hf := (congrFun ej S_7).symm.trans hf
      refine lv_iload_n hx hb dX11_text_86 rfl (lv_at hl 1 rfl) ?_
      refine lv_iconst hx hb dX11_text_87 ki_2 ?_
      obtain ⟨j122, ej, hf⟩ := bL_e hf
      have R122 : ∀ (S_8 : pS) (H : Heap) (locs : List Loc) (ls : Array Slot), Wd Z s S_8 H locs → lv_has ls 5 [(0, .ref (za Z 0)), (1, .int a1), (4, .int (-1))] → j122 S_8 = some (r, S2) → W p l e { frames := 48, cells := 0, slots := 0, locals := 2572 } s m args below meth c H locs 0 0 Q (F0 m 122 ls []) := by
        intro S_8 H locs ls hw hl hf
        have hf := (congrFun ej S_8).symm.trans hf
        refine lv_iload_n hx hb dX11_text_122 rfl (lv_at hl 1 rfl) ?_
        refine lv_iconst hx hb dX11_text_123 ki_3 ?_
        refine lv_icmp_ne (tgt := 153) hx hb dX11_text_124 (by decide) (fun c_14 => ?_) (fun c_14 => ?_)
        · have hf := (if_neg c_14).symm.trans hf
          exact R153 _ _ _ _ _ hw (lv_sub hl [0, 2] rfl) hf
        · have hf := (if_pos c_14).symm.trans hf
          refine lv_aload_n hx hb dX11_text_127 rfl (lv_at hl 0 rfl) ?_
          refine gF G hw h0 KX11 1 (k2 := 45) rfl (by decide) rfl fl_X11_19 dX11_text_128 ?_
          refine va_ldcS hx hb hown (rS_2 G) dX11_text_131 ?_
          refine lv_iconst hx hb dX11_text_133 ki_2 ?_
          obtain ⟨r_9, S_10, hr_9, hf⟩ := bB2_e hf
          refine kVi (rest := []) G hw (wX5_law hZ S_8 45 2 2 r_9 S_10 (sub_PF_reader hZ h0) (by decide) hr_9) cw_X11_110 (sub_PF_reader hZ h0) KX5 ⟨Nat.le_of_ble_eq_true rfl, Nat.le_of_ble_eq_true rfl⟩ rfl hl.1 rfl (Nat.le_of_ble_eq_true rfl) ⟨Nat.le_refl _, Nat.le_refl _⟩ dX11_text_134 (fun H locs hw => ?_)
          refine lv_if_eq (tgt := 153) hx hb dX11_text_137 (by decide) (fun c_13 => ?_) (fun c_13 => ?_)
          · have hf := (if_pos c_13).symm.trans hf
            exact R153 _ _ _ _ _ hw (lv_sub hl [0, 2] rfl) hf
          · have hf := (if_neg c_13).symm.trans hf
            refine lv_aload_n hx hb dX11_text_140 rfl (lv_at hl 0 rfl) ?_
            refine lv_aload_n hx hb dX11_text_141 rfl (lv_at hl 0 rfl) ?_
            refine gF G hw h0 KX11 0 (k2 := 1) rfl (by decide) rfl fl_X11_10 dX11_text_142 ?_
            refine gF G hw (sub_PF_now hZ h0) KX10 16 (k2 := 22) rfl (by decide) rfl fl_X11_136 dX11_text_145 ?_
            obtain ⟨r_11, S_12, hr_11, hf⟩ := bT2_e hf
            refine kVi (rest := []) G hw (wX11_keepLaw hZ S_10 22 r_11 S_12 h0 (sub_World_training hZ (sub_PF_now hZ h0)) hr_11) cw_X11_118 h0 KX11 ⟨Nat.le_of_ble_eq_true rfl, Nat.le_of_ble_eq_true rfl⟩ rfl hl.1 rfl (Nat.le_of_ble_eq_true rfl) ⟨Nat.le_refl _, Nat.le_refl _⟩ dX11_text_148 (fun H locs hw => ?_)
            refine lv_istore (lv' := [(4, .int r_11), (0, .ref (za Z 0)), (1, .int a1)]) hx hb dX11_text_151 hl (by decide) rfl (fun ls hl => ?_)
            exact R153 _ _ _ _ _ hw (lv_sub hl [1, 0] rfl) hf
      clear ej
      refine lv_icmp_ne (tgt := 122) hx hb dX11_text_88 (by decide) (fun c_22 => ?_) (fun c_22 => ?_)
      · have hf := (if_neg c_22).symm.trans hf
        exact R122 _ _ _ _ hw (lv_sub hl [0, 1, 3] rfl) hf
      · have hf := (if_pos c_22).symm.trans hf
        refine aldQn hx hb dX11_text_91 rfl (lv_at hl 2 rfl) ?_
        refine ifnQ (tgt := 122) hx hb dX11_text_92 (by decide) (fun e_21 => ?_) (fun o_15 e_21 => ?_)
        · subst e_21
          have hf := bO_n rfl hf
          exact R122 _ _ _ _ hw (lv_sub hl [0, 1, 3] rfl) hf
        · subst e_21
          have hf := bO_s rfl hf
          have ho_15 := ret_X10_one hZ S_1 1 a2 (sub_PF_now hZ h0) (hr_2.trans (congrArg some rfl))
          refine lv_aload_n hx hb dX11_text_95 rfl (lv_at hl 0 rfl) ?_
          refine gF G hw h0 KX11 1 (k2 := 45) rfl (by decide) rfl fl_X11_19 dX11_text_96 ?_
          refine lv_aload_n hx hb dX11_text_99 rfl (lv_at hl 0 rfl) ?_
          refine gF G hw h0 KX11 0 (k2 := 1) rfl (by decide) rfl fl_X11_10 dX11_text_100 ?_
          refine gI G hw (sub_PF_now hZ h0) KX10 4 (by decide) rfl fl_X11_55 dX11_text_103 ?_
          obtain ⟨r_16, S_17, hr_16, hf⟩ := bB2_e hf
          refine kVi (rest := []) G hw (wX5_plan hZ S_7 45 (S_7 1 4) r_16 S_17 (sub_PF_reader hZ h0) hr_16) cw_X11_126 (sub_PF_reader hZ h0) KX5 ⟨Nat.le_of_ble_eq_true rfl, Nat.le_of_ble_eq_true rfl⟩ rfl hl.1 rfl (Nat.le_of_ble_eq_true rfl) ⟨Nat.le_refl _, Nat.le_refl _⟩ dX11_text_106 (fun H locs hw => ?_)
          refine lv_if_eq (tgt := 122) hx hb dX11_text_109 (by decide) (fun c_20 => ?_) (fun c_20 => ?_)
          · have hf := (if_pos c_20).symm.trans hf
            exact R122 _ _ _ _ hw (lv_sub hl [0, 1, 3] rfl) hf
          · have hf := (if_neg c_20).symm.trans hf
            refine lv_aload_n hx hb dX11_text_112 rfl (lv_at hl 0 rfl) ?_
            refine lv_aload_n hx hb dX11_text_113 rfl (lv_at hl 2 rfl) ?_
            obtain ⟨r_18, S_19, hr_18, hf⟩ := bT2_e hf
            refine kVi (rest := []) G hw (wX11_keepPlan hZ S_17 o_15 r_18 S_19 h0 ho_15 hr_18) cw_X11_130 h0 KX11 ⟨Nat.le_of_ble_eq_true rfl, Nat.le_of_ble_eq_true rfl⟩ rfl hl.1 rfl (Nat.le_of_ble_eq_true rfl) ⟨Nat.le_refl _, Nat.le_refl _⟩ dX11_text_114 (fun H locs hw => ?_)
            refine lv_istore (lv' := [(4, .int r_18), (0, .ref (za Z 0)), (1, .int a1), (3, .ref (za Z o_15))]) hx hb dX11_text_117 hl (by decide) rfl (fun ls hl => ?_)
            refine lv_goto (tgt := 153) hx hb dX11_text_119 (by decide) ?_
            exact R153 _ _ _ _ _ hw (lv_sub hl [1, 0] rfl) hf
    clear ej
    refine lv_icmp_ne (tgt := 86) hx hb dX11_text_54 (by decide) (fun c_28 => ?_) (fun c_28 => ?_)
    · have hf := (if_neg c_28).symm.trans hf
      exact R86 _ _ _ _ hw (lv_sub hl [0, 1, 2, 3] rfl) hf
    · have hf := (if_pos c_28).symm.trans hf
      refine lv_aload_n hx hb dX11_text_57 rfl (lv_at hl 0 rfl) ?_
      refine gF G hw h0 KX11 1 (k2 := 45) rfl (by decide) rfl fl_X11_19 dX11_text_58 ?_
      refine va_ldcS hx hb hown (rS_1 G) dX11_text_61 ?_
      refine lv_iconst hx hb dX11_text_63 ki_3 ?_
      obtain ⟨r_23, S_24, hr_23, hf⟩ := bB2_e hf
      refine kVi (rest := []) G hw (wX5_law hZ S_6 45 1 3 r_23 S_24 (sub_PF_reader hZ h0) (by decide) hr_23) cw_X11_110 (sub_PF_reader hZ h0) KX5 ⟨Nat.le_of_ble_eq_true rfl, Nat.le_of_ble_eq_true rfl⟩ rfl hl.1 rfl (Nat.le_of_ble_eq_true rfl) ⟨Nat.le_refl _, Nat.le_refl _⟩ dX11_text_64 (fun H locs hw => ?_)
      refine lv_if_eq (tgt := 86) hx hb dX11_text_67 (by decide) (fun c_27 => ?_) (fun c_27 => ?_)
      · have hf := (if_pos c_27).symm.trans hf
        exact R86 _ _ _ _ hw (lv_sub hl [0, 1, 2, 3] rfl) hf
      · have hf := (if_neg c_27).symm.trans hf
        refine lv_aload_n hx hb dX11_text_70 rfl (lv_at hl 0 rfl) ?_
        refine lv_aload_n hx hb dX11_text_71 rfl (lv_at hl 0 rfl) ?_
        refine gF G hw h0 KX11 0 (k2 := 1) rfl (by decide) rfl fl_X11_10 dX11_text_72 ?_
        refine gF G hw (sub_PF_now hZ h0) KX10 15 (k2 := 15) rfl (by decide) rfl fl_X11_124 dX11_text_75 ?_
        obtain ⟨r_25, S_26, hr_25, hf⟩ := bT2_e hf
        refine kVi (rest := []) G hw (wX11_keepLaw hZ S_24 15 r_25 S_26 h0 (sub_World_arms hZ (sub_PF_now hZ h0)) hr_25) cw_X11_118 h0 KX11 ⟨Nat.le_of_ble_eq_true rfl, Nat.le_of_ble_eq_true rfl⟩ rfl hl.1 rfl (Nat.le_of_ble_eq_true rfl) ⟨Nat.le_refl _, Nat.le_refl _⟩ dX11_text_78 (fun H locs hw => ?_)
        refine lv_istore (lv' := [(4, .int r_25), (0, .ref (za Z 0)), (1, .int a1), (3, va_rf (Option.map (za Z) r_2))]) hx hb dX11_text_81 hl (by decide) (by simp [vrc]) (fun ls hl => ?_)
        refine lv_goto (tgt := 153) hx hb dX11_text_83 (by decide) ?_
        exact R153 _ _ _ _ _ hw (lv_sub hl [1, 0] rfl) hf
  clear ej
  refine lv_if_ne (tgt := 52) hx hb dX11_text_20 (by decide) (fun c_34 => ?_) (fun c_34 => ?_)
  · have hf := (if_neg c_34).symm.trans hf
    exact R52 _ _ _ _ hw (lv_sub hl [2, 3, 1, 0] rfl) hf
  · have hf := (if_pos c_34).symm.trans hf
    refine lv_aload_n hx hb dX11_text_23 rfl (lv_at hl 2 rfl) ?_
    refine gF G hw h0 KX11 1 (k2 := 45) rfl (by decide) rfl fl_X11_19 dX11_text_24 ?_
    refine va_ldcS hx hb hown (rS_0 G) dX11_text_27 ?_
    refine lv_iconst hx hb dX11_text_29 ki_4 ?_
    obtain ⟨r_29, S_30, hr_29, hf⟩ := bB2_e hf
    refine kVi (rest := []) G hw (wX5_law hZ S_1 45 0 4 r_29 S_30 (sub_PF_reader hZ h0) (by decide) hr_29) cw_X11_110 (sub_PF_reader hZ h0) KX5 ⟨Nat.le_of_ble_eq_true rfl, Nat.le_of_ble_eq_true rfl⟩ rfl hl.1 rfl (Nat.le_of_ble_eq_true rfl) ⟨Nat.le_refl _, Nat.le_refl _⟩ dX11_text_30 (fun H locs hw => ?_)
    refine lv_if_eq (tgt := 52) hx hb dX11_text_33 (by decide) (fun c_33 => ?_) (fun c_33 => ?_)
    · have hf := (if_pos c_33).symm.trans hf
      exact R52 _ _ _ _ hw (lv_sub hl [2, 3, 1, 0] rfl) hf
    · have hf := (if_neg c_33).symm.trans hf
      refine lv_aload_n hx hb dX11_text_36 rfl (lv_at hl 2 rfl) ?_
      refine lv_aload_n hx hb dX11_text_37 rfl (lv_at hl 2 rfl) ?_
      refine gF G hw h0 KX11 0 (k2 := 1) rfl (by decide) rfl fl_X11_10 dX11_text_38 ?_
      refine gF G hw (sub_PF_now hZ h0) KX10 14 (k2 := 8) rfl (by decide) rfl fl_X11_114 dX11_text_41 ?_
      obtain ⟨r_31, S_32, hr_31, hf⟩ := bT2_e hf
      refine kVi (rest := []) G hw (wX11_keepLaw hZ S_30 8 r_31 S_32 h0 (sub_World_flight hZ (sub_PF_now hZ h0)) hr_31) cw_X11_118 h0 KX11 ⟨Nat.le_of_ble_eq_true rfl, Nat.le_of_ble_eq_true rfl⟩ rfl hl.1 rfl (Nat.le_of_ble_eq_true rfl) ⟨Nat.le_refl _, Nat.le_refl _⟩ dX11_text_44 (fun H locs hw => ?_)
      refine lv_istore (lv' := [(4, .int r_31), (3, va_rf (Option.map (za Z) r_2)), (0, .ref (za Z 0)), (1, .int a1), (2, .int a2)]) hx hb dX11_text_47 hl (by decide) (by simp [vrc]) (fun ls hl => ?_)
      refine lv_goto (tgt := 153) hx hb dX11_text_49 (by decide) ?_
      exact R153 _ _ _ _ _ hw (lv_sub hl [2, 0] rfl) hf

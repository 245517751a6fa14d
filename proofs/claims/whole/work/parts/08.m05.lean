noncomputable def F12_rank (S : pS) (a1 : Int32) : Option (Int32) :=
  bL (fun (l2_1 : Int32) =>
    some l2_1) fun g44_4 =>
  bL (u2 fun (l2_2 : Int32) (l3_3 : Int32) =>
    if (S 1 68) ≤ l3_3 then
      some (.inr l2_2)
    else
      bB (F12_own S l3_3 2) fun r_5 =>
      bB (F12_own S a1 2) fun r_6 =>
      bL (fun (t_7 : Int32) =>
        bL (l2_2 + t_7) fun l2_8 =>
        bL (l3_3 + 1) fun l3_9 =>
        some (.inl (l2_8, l3_9))) fun j36 =>
      if r_5 ≤ r_6 then
        j36 0
      else
        j36 1) fun b4 =>
  bB (bP b4 ((1 : Int32), (0 : Int32))) (u1 g44_4)
set_option maxRecDepth 100000 in
set_option maxHeartbeats 4000000 in
theorem wX12_rank {l : Launch} {Z : pZ}  (hZ : CM Z) (S : pS) (a1 : Int32) (r : Int32)  (hf : F12_rank S a1 = some r) : CI l Z yX12_rank cX12_rank 4 .int 4 82 [.ref (za Z 0), .int a1] S r S := by
  unfold F12_rank at hf
  refine eI (own := RX12) (by decide) rfl (Nat.le_of_ble_eq_true rfl) (fun p e s m args below meth c Q ls G hl hw hret => ?_)
  obtain ⟨hx, hb, hml, hown, hts⟩ := G.1
  have hl : lv_has ls 4 [(0, .ref (za Z 0)), (1, .int a1)] := hl
  refine lv_iconst hx hb dX12_rank_0 ki_1 ?_
  refine lv_istore_n (lv' := [(2, .int 1), (0, .ref (za Z 0)), (1, .int a1)]) hx hb dX12_rank_1 rfl hl (by decide) rfl (fun ls hl => ?_)
  refine lv_iconst hx hb dX12_rank_2 ki_0 ?_
  refine lv_istore_n (lv' := [(3, .int 0), (2, .int 1), (0, .ref (za Z 0)), (1, .int a1)]) hx hb dX12_rank_3 rfl hl (by decide) rfl (fun ls hl => ?_)
  obtain ⟨g44_4, ej, hf⟩ := bL_e hf
  have R44_4 : ∀ (l2_1 : Int32) (H : Heap) (locs : List Loc) (ls : Array Slot), Wd Z s S H locs → lv_has ls 4 [(2, .int l2_1)] → g44_4 l2_1 = some r → W p l e { frames := 4, cells := 0, slots := 0, locals := 82 } s m args below meth c H locs 0 0 Q (F0 m 44 ls []) := by
    intro l2_1 H locs ls hw hl hf
    have hf := (congrFun ej l2_1).symm.trans hf
    refine lv_iload_n hx hb dX12_rank_44 rfl (lv_at hl 0 rfl) ?_
    exact hret _ _ _ _ _ dX12_rank_45 (Option.some.inj hf) hw
  clear ej
  obtain ⟨b4, eb, hf⟩ := bL_e hf
  have RL4 : ∀ (n : Nat) z, (u1 g44_4) z = some r → ∀ (l2_2 : Int32) (l3_3 : Int32) (H : Heap) (locs : List Loc) (ls : Array Slot), Wd Z s S H locs → lv_has ls 4 [(0, .ref (za Z 0)), (1, .int a1), (2, .int l2_2), (3, .int l3_3)] → bPn b4 n (l2_2, l3_3) = some z → W p l e { frames := 4, cells := 0, slots := 0, locals := 82 } s m args below meth c H locs 0 0 Q (F0 m 4 ls []) := by
    intro n
    induction n with
    | zero =>
      intro z hg l2_2 l3_3 H locs ls hw hl hz
      exact bPn_0 hz
    | succ n ih =>
      intro z hg l2_2 l3_3 H locs ls hw hl hz
      obtain ⟨q_4, hf, hz⟩ := bPn_e hz
      have hf := u2_e ((congrFun eb _).symm.trans hf)
      refine lv_iload_n hx hb dX12_rank_4 rfl (lv_at hl 3 rfl) ?_
      refine lv_aload_n hx hb dX12_rank_5 rfl (lv_at hl 0 rfl) ?_
      refine gF G hw (m_this hZ) KX12 0 (k2 := 1) rfl (by decide) rfl fl_X12_7 dX12_rank_6 ?_
      refine lv_bipush hx hb dX12_rank_9 kb_68 ?_
      refine aI G hw (m_w hZ) (vin_e (by decide)) (j := 68) (by decide) dX12_rank_11 ?_
      refine lv_icmp_ge (tgt := 44) hx hb dX12_rank_12 (by decide) (fun c_11 => ?_) (fun c_11 => ?_)
      · have hf := (if_pos c_11).symm.trans hf
        obtain rfl := Option.some.inj hf
        obtain rfl := Option.some.inj (hz : some _ = some _)
        exact R44_4 _ _ _ _ hw (lv_sub hl [2] rfl) hg
      · have hf := (if_neg c_11).symm.trans hf
        refine lv_iload_n hx hb dX12_rank_15 rfl (lv_at hl 2 rfl) ?_
        refine lv_aload_n hx hb dX12_rank_16 rfl (lv_at hl 0 rfl) ?_
        refine lv_iload_n hx hb dX12_rank_17 rfl (lv_at hl 3 rfl) ?_
        refine lv_iconst hx hb dX12_rank_18 ki_2 ?_
        obtain ⟨r_5, hr_5, hf⟩ := bB_e hf
        refine kVi (rest := [.int l2_2]) G hw (wX12_own hZ S l3_3 2 r_5 hr_5) cw_X12_324 (m_this hZ) KX12 ⟨Nat.le_of_ble_eq_true rfl, Nat.le_of_ble_eq_true rfl⟩ rfl hl.1 rfl (Nat.le_of_ble_eq_true rfl) ⟨Nat.le_refl _, Nat.le_refl _⟩ dX12_rank_19 (fun H locs hw => ?_)
        refine lv_aload_n hx hb dX12_rank_22 rfl (lv_at hl 0 rfl) ?_
        refine lv_iload_n hx hb dX12_rank_23 rfl (lv_at hl 1 rfl) ?_
        refine lv_iconst hx hb dX12_rank_24 ki_2 ?_
        obtain ⟨r_6, hr_6, hf⟩ := bB_e hf
        refine kVi (rest := [.int r_5, .int l2_2]) G hw (wX12_own hZ S a1 2 r_6 hr_6) cw_X12_324 (m_this hZ) KX12 ⟨Nat.le_of_ble_eq_true rfl, Nat.le_of_ble_eq_true rfl⟩ rfl hl.1 rfl (Nat.le_of_ble_eq_true rfl) ⟨Nat.le_refl _, Nat.le_refl _⟩ dX12_rank_25 (fun H locs hw => ?_)
        obtain ⟨j36, ej, hf⟩ := bL_e hf
        have R36 : ∀ (t_7 : Int32) (H : Heap) (locs : List Loc) (ls : Array Slot), Wd Z s S H locs → lv_has ls 4 [(0, .ref (za Z 0)), (1, .int a1), (3, .int l3_3)] → j36 t_7 = some q_4 → W p l e { frames := 4, cells := 0, slots := 0, locals := 82 } s m args below meth c H locs 0 0 Q (F0 m 36 ls [.int t_7, .int l2_2]) := by
          intro t_7 H locs ls hw hl hf
          have hf := (congrFun ej t_7).symm.trans hf
          refine lv_iadd hx hb dX12_rank_36 ?_
          obtain ⟨l2_8, el2_8, hf⟩ := bL_e hf
          refine top_i el2_8 ?_
          refine lv_istore_n (lv' := [(2, .int l2_8), (0, .ref (za Z 0)), (1, .int a1), (3, .int l3_3)]) hx hb dX12_rank_37 rfl hl (by decide) rfl (fun ls hl => ?_)
          obtain ⟨l3_9, el3_9, hf⟩ := bL_e hf
          refine lv_iinc (v := l3_9) (lv' := [(3, .int l3_9), (2, .int l2_8), (0, .ref (za Z 0)), (1, .int a1)]) hx hb dX12_rank_38 hl (k := 3) rfl (by rw [el3_9]; rfl) (by decide) rfl (fun ls hl => ?_)
          refine lv_goto (tgt := 4) hx hb dX12_rank_41 (by decide) ?_
          obtain rfl := Option.some.inj hf
          exact ih _ hg _ _ _ _ _ hw (lv_sub hl [2, 3, 1, 0] rfl) hz
        clear ej
        refine lv_icmp_le (tgt := 35) hx hb dX12_rank_28 (by decide) (fun c_10 => ?_) (fun c_10 => ?_)
        · have hf := (if_pos c_10).symm.trans hf
          refine lv_iconst hx hb dX12_rank_35 ki_0 ?_
          exact R36 _ _ _ _ hw (lv_sub hl [0, 1, 3] rfl) hf
        · have hf := (if_neg c_10).symm.trans hf
          refine lv_iconst hx hb dX12_rank_31 ki_1 ?_
          refine lv_goto (tgt := 36) hx hb dX12_rank_32 (by decide) ?_
          exact R36 _ _ _ _ hw (lv_sub hl [0, 1, 3] rfl) hf
  clear eb
  obtain ⟨z, hz, hf⟩ := bB_e hf
  obtain ⟨n, hz⟩ := bP_e hz
  exact RL4 n z hf _ _ _ _ _ hw (lv_sub hl [2, 3, 1, 0] rfl) hz
noncomputable def F12_needs (S : pS) (a1 : Int32) : Option (Int32) :=
  bL (fun (l2_1 : Int32) =>
    bB (F12_own S a1 2) fun r_2 =>
    some (F12_greater 0 ((l2_1 + 1) - r_2))) fun g37_4 =>
  bL (u2 fun (l2_3 : Int32) (l3_4 : Int32) =>
    if (S 1 68) ≤ l3_4 then
      some (.inr l2_3)
    else
      bL (fun (l2_6 : Int32) =>
        bL (l3_4 + 1) fun l3_7 =>
        some (.inl (l2_6, l3_7))) fun j31 =>
      if l3_4 = a1 then
        j31 l2_3
      else
        bB (F12_own S l3_4 2) fun r_8 =>
        bL (F12_greater l2_3 r_8) fun l2_9 =>
        j31 l2_9) fun b4 =>
  bB (bP b4 (((-1) : Int32), (0 : Int32))) (u1 g37_4)
set_option maxRecDepth 100000 in
set_option maxHeartbeats 4000000 in
theorem wX12_needs {l : Launch} {Z : pZ}  (hZ : CM Z) (S : pS) (a1 : Int32) (r : Int32)  (hf : F12_needs S a1 = some r) : CI l Z yX12_needs cX12_needs 4 .int 4 82 [.ref (za Z 0), .int a1] S r S := by
  unfold F12_needs at hf
  refine eI (own := RX12) (by decide) rfl (Nat.le_of_ble_eq_true rfl) (fun p e s m args below meth c Q ls G hl hw hret => ?_)
  obtain ⟨hx, hb, hml, hown, hts⟩ := G.1
  have hl : lv_has ls 4 [(0, .ref (za Z 0)), (1, .int a1)] := hl
  refine lv_iconst hx hb dX12_needs_0 ki_m1 ?_
  refine lv_istore_n (lv' := [(2, .int (-1)), (0, .ref (za Z 0)), (1, .int a1)]) hx hb dX12_needs_1 rfl hl (by decide) rfl (fun ls hl => ?_)
  refine lv_iconst hx hb dX12_needs_2 ki_0 ?_
  refine lv_istore_n (lv' := [(3, .int 0), (2, .int (-1)), (0, .ref (za Z 0)), (1, .int a1)]) hx hb dX12_needs_3 rfl hl (by decide) rfl (fun ls hl => ?_)
  obtain ⟨g37_4, ej, hf⟩ := bL_e hf
  have R37_4 : ∀ (l2_1 : Int32) (H : Heap) (locs : List Loc) (ls : Array Slot), Wd Z s S H locs → lv_has ls 4 [(0, .ref (za Z 0)), (1, .int a1), (2, .int l2_1)] → g37_4 l2_1 = some r → W p l e { frames := 4, cells := 0, slots := 0, locals := 82 } s m args below meth c H locs 0 0 Q (F0 m 37 ls []) := by
    intro l2_1 H locs ls hw hl hf
    have hf := (congrFun ej l2_1).symm.trans hf
    refine lv_iconst hx hb dX12_needs_37 ki_0 ?_
    refine lv_iload_n hx hb dX12_needs_38 rfl (lv_at hl 2 rfl) ?_
    refine lv_iconst hx hb dX12_needs_39 ki_1 ?_
    refine lv_iadd hx hb dX12_needs_40 ?_
    refine lv_aload_n hx hb dX12_needs_41 rfl (lv_at hl 0 rfl) ?_
    refine lv_iload_n hx hb dX12_needs_42 rfl (lv_at hl 1 rfl) ?_
    refine lv_iconst hx hb dX12_needs_43 ki_2 ?_
    obtain ⟨r_2, hr_2, hf⟩ := bB_e hf
    refine kVi (rest := [.int (l2_1 + 1), .int 0]) G hw (wX12_own hZ S a1 2 r_2 hr_2) cw_X12_324 (m_this hZ) KX12 ⟨Nat.le_of_ble_eq_true rfl, Nat.le_of_ble_eq_true rfl⟩ rfl hl.1 rfl (Nat.le_of_ble_eq_true rfl) ⟨Nat.le_refl _, Nat.le_refl _⟩ dX12_needs_44 (fun H locs hw => ?_)
    refine lv_isub hx hb dX12_needs_47 ?_
    refine kSi (rest := []) G hw (wX12_greater hZ S 0 ((l2_1 + 1) - r_2) (F12_greater 0 ((l2_1 + 1) - r_2)) rfl) cw_X12_68 ⟨Nat.le_of_ble_eq_true rfl, Nat.le_of_ble_eq_true rfl⟩ rfl hl.1 rfl (Nat.le_of_ble_eq_true rfl) ⟨Nat.le_refl _, Nat.le_refl _⟩ dX12_needs_48 (fun H locs hw => ?_)
    exact hret _ _ _ _ _ dX12_needs_51 (Option.some.inj hf) hw
  clear ej
  obtain ⟨b4, eb, hf⟩ := bL_e hf
  have RL4 : ∀ (n : Nat) z, (u1 g37_4) z = some r → ∀ (l2_3 : Int32) (l3_4 : Int32) (H : Heap) (locs : List Loc) (ls : Array Slot), Wd Z s S H locs → lv_has ls 4 [(0, .ref (za Z 0)), (1, .int a1), (2, .int l2_3), (3, .int l3_4)] → bPn b4 n (l2_3, l3_4) = some z → W p l e { frames := 4, cells := 0, slots := 0, locals := 82 } s m args below meth c H locs 0 0 Q (F0 m 4 ls []) := by
    intro n
    induction n with
    | zero =>
      intro z hg l2_3 l3_4 H locs ls hw hl hz
      exact bPn_0 hz
    | succ n ih =>
      intro z hg l2_3 l3_4 H locs ls hw hl hz
      obtain ⟨q_5, hf, hz⟩ := bPn_e hz
      have hf := u2_e ((congrFun eb _).symm.trans hf)
      refine lv_iload_n hx hb dX12_needs_4 rfl (lv_at hl 3 rfl) ?_
      refine lv_aload_n hx hb dX12_needs_5 rfl (lv_at hl 0 rfl) ?_
      refine gF G hw (m_this hZ) KX12 0 (k2 := 1) rfl (by decide) rfl fl_X12_7 dX12_needs_6 ?_
      refine lv_bipush hx hb dX12_needs_9 kb_68 ?_
      refine aI G hw (m_w hZ) (vin_e (by decide)) (j := 68) (by decide) dX12_needs_11 ?_
      refine lv_icmp_ge (tgt := 37) hx hb dX12_needs_12 (by decide) (fun c_11 => ?_) (fun c_11 => ?_)
      · have hf := (if_pos c_11).symm.trans hf
        obtain rfl := Option.some.inj hf
        obtain rfl := Option.some.inj (hz : some _ = some _)
        exact R37_4 _ _ _ _ hw (lv_sub hl [0, 1, 2] rfl) hg
      · have hf := (if_neg c_11).symm.trans hf
        refine lv_iload_n hx hb dX12_needs_15 rfl (lv_at hl 3 rfl) ?_
        refine lv_iload_n hx hb dX12_needs_16 rfl (lv_at hl 1 rfl) ?_
        obtain ⟨j31, ej, hf⟩ := bL_e hf
        have R31 : ∀ (l2_6 : Int32) (H : Heap) (locs : List Loc) (ls : Array Slot), Wd Z s S H locs → lv_has ls 4 [(0, .ref (za Z 0)), (1, .int a1), (2, .int l2_6), (3, .int l3_4)] → j31 l2_6 = some q_5 → W p l e { frames := 4, cells := 0, slots := 0, locals := 82 } s m args below meth c H locs 0 0 Q (F0 m 31 ls []) := by
          intro l2_6 H locs ls hw hl hf
          have hf := (congrFun ej l2_6).symm.trans hf
          obtain ⟨l3_7, el3_7, hf⟩ := bL_e hf
          refine lv_iinc (v := l3_7) (lv' := [(3, .int l3_7), (0, .ref (za Z 0)), (1, .int a1), (2, .int l2_6)]) hx hb dX12_needs_31 hl (k := 3) rfl (by rw [el3_7]; rfl) (by decide) rfl (fun ls hl => ?_)
          refine lv_goto (tgt := 4) hx hb dX12_needs_34 (by decide) ?_
          obtain rfl := Option.some.inj hf
          exact ih _ hg _ _ _ _ _ hw (lv_sub hl [1, 2, 3, 0] rfl) hz
        clear ej
        refine lv_icmp_eq (tgt := 31) hx hb dX12_needs_17 (by decide) (fun c_10 => ?_) (fun c_10 => ?_)
        · have hf := (if_pos c_10).symm.trans hf
          exact R31 _ _ _ _ hw (lv_sub hl [0, 1, 2, 3] rfl) hf
        · have hf := (if_neg c_10).symm.trans hf
          refine lv_iload_n hx hb dX12_needs_20 rfl (lv_at hl 2 rfl) ?_
          refine lv_aload_n hx hb dX12_needs_21 rfl (lv_at hl 0 rfl) ?_
          refine lv_iload_n hx hb dX12_needs_22 rfl (lv_at hl 3 rfl) ?_
          refine lv_iconst hx hb dX12_needs_23 ki_2 ?_
          obtain ⟨r_8, hr_8, hf⟩ := bB_e hf
          refine kVi (rest := [.int l2_3]) G hw (wX12_own hZ S l3_4 2 r_8 hr_8) cw_X12_324 (m_this hZ) KX12 ⟨Nat.le_of_ble_eq_true rfl, Nat.le_of_ble_eq_true rfl⟩ rfl hl.1 rfl (Nat.le_of_ble_eq_true rfl) ⟨Nat.le_refl _, Nat.le_refl _⟩ dX12_needs_24 (fun H locs hw => ?_)
          refine kSi (rest := []) G hw (wX12_greater hZ S l2_3 r_8 (F12_greater l2_3 r_8) rfl) cw_X12_68 ⟨Nat.le_of_ble_eq_true rfl, Nat.le_of_ble_eq_true rfl⟩ rfl hl.1 rfl (Nat.le_of_ble_eq_true rfl) ⟨Nat.le_refl _, Nat.le_refl _⟩ dX12_needs_27 (fun H locs hw => ?_)
          obtain ⟨l2_9, el2_9, hf⟩ := bL_e hf
          refine top_i el2_9 ?_
          refine lv_istore_n (lv' := [(2, .int l2_9), (0, .ref (za Z 0)), (1, .int a1), (3, .int l3_4)]) hx hb dX12_needs_30 rfl hl (by decide) rfl (fun ls hl => ?_)
          exact R31 _ _ _ _ hw (lv_sub hl [1, 2, 0, 3] rfl) hf
  clear eb
  obtain ⟨z, hz, hf⟩ := bB_e hf
  obtain ⟨n, hz⟩ := bP_e hz
  exact RL4 n z hf _ _ _ _ _ hw (lv_sub hl [2, 3, 1, 0] rfl) hz
noncomputable def F12_ruled (S : pS) (a1 : Int32) : Option (Int32) :=
  bL (fun (l2_1 : Int32) =>
    some l2_1) fun g102_4 =>
  bL (u2 fun (l2_2 : Int32) (l3_3 : Int32) =>
    if (S 1 2) ≤ l3_3 then
      some (.inr l2_2)
    else
      bL (3296 + (10 * l3_3)) fun l4_5 =>
      bG (vp_in l4_5 4296) <|
      bL (fun (l2_6 : Int32) =>
        bL (l3_3 + 1) fun l3_7 =>
        some (.inl (l2_6, l3_7))) fun j96 =>
      if (S 1 l4_5.toNatClampNeg) = (S 1 66) then
        bG (vp_in (l4_5 + 2) 4296) <|
        if (S 1 ((l4_5 + 2).toNatClampNeg)) = a1 then
          bG (vp_in (l4_5 + 8) 4296) <|
          bL (fun (_ : Unit) =>
            bG (vp_in (l4_5 + 7) 4296) <|
            bL (F12_greater l2_2 (S 1 ((l4_5 + 7).toNatClampNeg))) fun l2_8 =>
            j96 l2_8) fun j81 =>
          if (S 1 ((l4_5 + 8).toNatClampNeg)) = 0 then
            j81 ()
          else
            bG (vp_in (l4_5 + 8) 4296) <|
            if (S 1 ((l4_5 + 8).toNatClampNeg)) = 2 then
              j81 ()
            else
              j96 l2_2
        else
          j96 l2_2
      else
        j96 l2_2) fun b4 =>
  bB (bP b4 ((0 : Int32), (0 : Int32))) (u1 g102_4)
set_option maxRecDepth 100000 in
set_option maxHeartbeats 4000000 in
theorem wX12_ruled {l : Launch} {Z : pZ}  (hZ : CM Z) (S : pS) (a1 : Int32) (r : Int32)  (hf : F12_ruled S a1 = some r) : CI l Z yX12_ruled cX12_ruled 5 .int 4 81 [.ref (za Z 0), .int a1] S r S := by
  unfold F12_ruled at hf
  refine eI (own := RX12) (by decide) rfl (Nat.le_of_ble_eq_true rfl) (fun p e s m args below meth c Q ls G hl hw hret => ?_)
  obtain ⟨hx, hb, hml, hown, hts⟩ := G.1
  have hl : lv_has ls 5 [(0, .ref (za Z 0)), (1, .int a1)] := hl
  refine lv_iconst hx hb dX12_ruled_0 ki_0 ?_
  refine lv_istore_n (lv' := [(2, .int 0), (0, .ref (za Z 0)), (1, .int a1)]) hx hb dX12_ruled_1 rfl hl (by decide) rfl (fun ls hl => ?_)
  refine lv_iconst hx hb dX12_ruled_2 ki_0 ?_
  refine lv_istore_n (lv' := [(3, .int 0), (2, .int 0), (0, .ref (za Z 0)), (1, .int a1)]) hx hb dX12_ruled_3 rfl hl (by decide) rfl (fun ls hl => ?_)
  obtain ⟨g102_4, ej, hf⟩ := bL_e hf
  have R102_4 : ∀ (l2_1 : Int32) (H : Heap) (locs : List Loc) (ls : Array Slot), Wd Z s S H locs → lv_has ls 5 [(2, .int l2_1)] → g102_4 l2_1 = some r → W p l e { frames := 4, cells := 0, slots := 0, locals := 81 } s m args below meth c H locs 0 0 Q (F0 m 102 ls []) := by
    intro l2_1 H locs ls hw hl hf
    have hf := (congrFun ej l2_1).symm.trans hf
    refine lv_iload_n hx hb dX12_ruled_102 rfl (lv_at hl 0 rfl) ?_
    exact hret _ _ _ _ _ dX12_ruled_103 (Option.some.inj hf) hw
  clear ej
  obtain ⟨b4, eb, hf⟩ := bL_e hf
  have RL4 : ∀ (n : Nat) z, (u1 g102_4) z = some r → ∀ (l2_2 : Int32) (l3_3 : Int32) (H : Heap) (locs : List Loc) (ls : Array Slot), Wd Z s S H locs → lv_has ls 5 [(0, .ref (za Z 0)), (1, .int a1), (2, .int l2_2), (3, .int l3_3)] → bPn b4 n (l2_2, l3_3) = some z → W p l e { frames := 4, cells := 0, slots := 0, locals := 81 } s m args below meth c H locs 0 0 Q (F0 m 4 ls []) := by
    intro n
    induction n with
    | zero =>
      intro z hg l2_2 l3_3 H locs ls hw hl hz
      exact bPn_0 hz
    | succ n ih =>
      intro z hg l2_2 l3_3 H locs ls hw hl hz
      obtain ⟨q_4, hf, hz⟩ := bPn_e hz
      have hf := u2_e ((congrFun eb _).symm.trans hf)
      refine lv_iload_n hx hb dX12_ruled_4 rfl (lv_at hl 3 rfl) ?_
      refine lv_aload_n hx hb dX12_ruled_5 rfl (lv_at hl 0 rfl) ?_
      refine gF G hw (m_this hZ) KX12 0 (k2 := 1) rfl (by decide) rfl fl_X12_7 dX12_ruled_6 ?_
      refine lv_iconst hx hb dX12_ruled_9 ki_2 ?_
      refine aI G hw (m_w hZ) (vin_e (by decide)) (j := 2) (by decide) dX12_ruled_10 ?_
      refine lv_icmp_ge (tgt := 102) hx hb dX12_ruled_11 (by decide) (fun c_13 => ?_) (fun c_13 => ?_)
      · have hf := (if_pos c_13).symm.trans hf
        obtain rfl := Option.some.inj hf
        obtain rfl := Option.some.inj (hz : some _ = some _)
        exact R102_4 _ _ _ _ hw (lv_sub hl [2] rfl) hg
      · have hf := (if_neg c_13).symm.trans hf
        refine lv_sipush hx hb dX12_ruled_14 ks_3296 ?_
        refine lv_bipush hx hb dX12_ruled_17 kb_10 ?_
        refine lv_iload_n hx hb dX12_ruled_19 rfl (lv_at hl 3 rfl) ?_
        refine lv_imul hx hb dX12_ruled_20 ?_
        refine lv_iadd hx hb dX12_ruled_21 ?_
        obtain ⟨l4_5, el4_5, hf⟩ := bL_e hf
        refine top_i el4_5 ?_
        refine lv_istore (lv' := [(4, .int l4_5), (0, .ref (za Z 0)), (1, .int a1), (2, .int l2_2), (3, .int l3_3)]) hx hb dX12_ruled_22 hl (by decide) rfl (fun ls hl => ?_)
        refine lv_aload_n hx hb dX12_ruled_24 rfl (lv_at hl 1 rfl) ?_
        refine gF G hw (m_this hZ) KX12 0 (k2 := 1) rfl (by decide) rfl fl_X12_7 dX12_ruled_25 ?_
        refine lv_iload hx hb dX12_ruled_28 (lv_at hl 0 rfl) ?_
        obtain ⟨hg1, hf⟩ := bG_e hf
        refine aI G hw (m_w hZ) hg1 (j := l4_5.toNatClampNeg) rfl dX12_ruled_30 ?_
        refine lv_aload_n hx hb dX12_ruled_31 rfl (lv_at hl 1 rfl) ?_
        refine gF G hw (m_this hZ) KX12 0 (k2 := 1) rfl (by decide) rfl fl_X12_7 dX12_ruled_32 ?_
        refine lv_bipush hx hb dX12_ruled_35 kb_66 ?_
        refine aI G hw (m_w hZ) (vin_e (by decide)) (j := 66) (by decide) dX12_ruled_37 ?_
        obtain ⟨j96, ej, hf⟩ := bL_e hf
        have R96 : ∀ (l2_6 : Int32) (H : Heap) (locs : List Loc) (ls : Array Slot), Wd Z s S H locs → lv_has ls 5 [(0, .ref (za Z 0)), (1, .int a1), (2, .int l2_6), (3, .int l3_3)] → j96 l2_6 = some q_4 → W p l e { frames := 4, cells := 0, slots := 0, locals := 81 } s m args below meth c H locs 0 0 Q (F0 m 96 ls []) := by
          intro l2_6 H locs ls hw hl hf
          have hf := (congrFun ej l2_6).symm.trans hf
          obtain ⟨l3_7, el3_7, hf⟩ := bL_e hf
          refine lv_iinc (v := l3_7) (lv' := [(3, .int l3_7), (0, .ref (za Z 0)), (1, .int a1), (2, .int l2_6)]) hx hb dX12_ruled_96 hl (k := 3) rfl (by rw [el3_7]; rfl) (by decide) rfl (fun ls hl => ?_)
          refine lv_goto (tgt := 4) hx hb dX12_ruled_99 (by decide) ?_
          obtain rfl := Option.some.inj hf
          exact ih _ hg _ _ _ _ _ hw (lv_sub hl [1, 2, 3, 0] rfl) hz
        clear ej
        refine lv_icmp_ne (tgt := 96) hx hb dX12_ruled_38 (by decide) (fun c_12 => ?_) (fun c_12 => ?_)
        · have hf := (if_neg c_12).symm.trans hf
          exact R96 _ _ _ _ hw (lv_sub hl [1, 2, 3, 4] rfl) hf
        · have hf := (if_pos c_12).symm.trans hf
          refine lv_aload_n hx hb dX12_ruled_41 rfl (lv_at hl 1 rfl) ?_
          refine gF G hw (m_this hZ) KX12 0 (k2 := 1) rfl (by decide) rfl fl_X12_7 dX12_ruled_42 ?_
          refine lv_iload hx hb dX12_ruled_45 (lv_at hl 0 rfl) ?_
          refine lv_iconst hx hb dX12_ruled_47 ki_2 ?_
          refine lv_iadd hx hb dX12_ruled_48 ?_
          obtain ⟨hg1, hf⟩ := bG_e hf
          refine aI G hw (m_w hZ) hg1 (j := (l4_5 + 2).toNatClampNeg) rfl dX12_ruled_49 ?_
          refine lv_iload_n hx hb dX12_ruled_50 rfl (lv_at hl 2 rfl) ?_
          refine lv_icmp_ne (tgt := 96) hx hb dX12_ruled_51 (by decide) (fun c_11 => ?_) (fun c_11 => ?_)
          · have hf := (if_neg c_11).symm.trans hf
            exact R96 _ _ _ _ hw (lv_sub hl [1, 2, 3, 4] rfl) hf
          · have hf := (if_pos c_11).symm.trans hf
            refine lv_aload_n hx hb dX12_ruled_54 rfl (lv_at hl 1 rfl) ?_
            refine gF G hw (m_this hZ) KX12 0 (k2 := 1) rfl (by decide) rfl fl_X12_7 dX12_ruled_55 ?_
            refine lv_iload hx hb dX12_ruled_58 (lv_at hl 0 rfl) ?_
            refine lv_bipush hx hb dX12_ruled_60 kb_8 ?_
            refine lv_iadd hx hb dX12_ruled_62 ?_
            obtain ⟨hg1, hf⟩ := bG_e hf
            refine aI G hw (m_w hZ) hg1 (j := (l4_5 + 8).toNatClampNeg) rfl dX12_ruled_63 ?_
            obtain ⟨j81, ej, hf⟩ := bL_e hf
            have R81 : ∀ (H : Heap) (locs : List Loc) (ls : Array Slot), Wd Z s S H locs → lv_has ls 5 [(0, .ref (za Z 0)), (1, .int a1), (2, .int l2_2), (3, .int l3_3), (4, .int l4_5)] → j81 () = some q_4 → W p l e { frames := 4, cells := 0, slots := 0, locals := 81 } s m args below meth c H locs 0 0 Q (F0 m 81 ls []) := by
              intro  H locs ls hw hl hf
              have hf := (congrFun ej ()).symm.trans hf
              refine lv_iload_n hx hb dX12_ruled_81 rfl (lv_at hl 2 rfl) ?_
              refine lv_aload_n hx hb dX12_ruled_82 rfl (lv_at hl 0 rfl) ?_
              refine gF G hw (m_this hZ) KX12 0 (k2 := 1) rfl (by decide) rfl fl_X12_7 dX12_ruled_83 ?_
              refine lv_iload hx hb dX12_ruled_86 (lv_at hl 4 rfl) ?_
              refine lv_bipush hx hb dX12_ruled_88 kb_7 ?_
              refine lv_iadd hx hb dX12_ruled_90 ?_
              obtain ⟨hg1, hf⟩ := bG_e hf
              refine aI G hw (m_w hZ) hg1 (j := (l4_5 + 7).toNatClampNeg) rfl dX12_ruled_91 ?_
              refine kSi (rest := []) G hw (wX12_greater hZ S l2_2 (S 1 ((l4_5 + 7).toNatClampNeg)) (F12_greater l2_2 (S 1 ((l4_5 + 7).toNatClampNeg))) rfl) cw_X12_68 ⟨Nat.le_of_ble_eq_true rfl, Nat.le_of_ble_eq_true rfl⟩ rfl hl.1 rfl (Nat.le_of_ble_eq_true rfl) ⟨Nat.le_refl _, Nat.le_refl _⟩ dX12_ruled_92 (fun H locs hw => ?_)
              obtain ⟨l2_8, el2_8, hf⟩ := bL_e hf
              refine top_i el2_8 ?_
              refine lv_istore_n (lv' := [(2, .int l2_8), (0, .ref (za Z 0)), (1, .int a1), (3, .int l3_3), (4, .int l4_5)]) hx hb dX12_ruled_95 rfl hl (by decide) rfl (fun ls hl => ?_)
              exact R96 _ _ _ _ hw (lv_sub hl [1, 2, 0, 3] rfl) hf
            clear ej
            refine lv_if_eq (tgt := 81) hx hb dX12_ruled_64 (by decide) (fun c_10 => ?_) (fun c_10 => ?_)
            · have hf := (if_pos c_10).symm.trans hf
              exact R81 _ _ _ hw (lv_sub hl [1, 2, 3, 4, 0] rfl) hf
            · have hf := (if_neg c_10).symm.trans hf
              refine lv_aload_n hx hb dX12_ruled_67 rfl (lv_at hl 1 rfl) ?_
              refine gF G hw (m_this hZ) KX12 0 (k2 := 1) rfl (by decide) rfl fl_X12_7 dX12_ruled_68 ?_
              refine lv_iload hx hb dX12_ruled_71 (lv_at hl 0 rfl) ?_
              refine lv_bipush hx hb dX12_ruled_73 kb_8 ?_
              refine lv_iadd hx hb dX12_ruled_75 ?_
              obtain ⟨hg1, hf⟩ := bG_e hf
              refine aI G hw (m_w hZ) hg1 (j := (l4_5 + 8).toNatClampNeg) rfl dX12_ruled_76 ?_
              refine lv_iconst hx hb dX12_ruled_77 ki_2 ?_
              refine lv_icmp_ne (tgt := 96) hx hb dX12_ruled_78 (by decide) (fun c_9 => ?_) (fun c_9 => ?_)
              · have hf := (if_neg c_9).symm.trans hf
                exact R96 _ _ _ _ hw (lv_sub hl [1, 2, 3, 4] rfl) hf
              · have hf := (if_pos c_9).symm.trans hf
                exact R81 _ _ _ hw (lv_sub hl [1, 2, 3, 4, 0] rfl) hf
  clear eb
  obtain ⟨z, hz, hf⟩ := bB_e hf
  obtain ⟨n, hz⟩ := bP_e hz
  exact RL4 n z hf _ _ _ _ _ hw (lv_sub hl [2, 3, 1, 0] rfl) hz
noncomputable def F12_of (S : pS) (a1 : Int32) (a2 : Int32) : Option (Int32) :=
  if (F12_isThrower S a1) = 0 then
    some ((-1) : Int32)
  else
    if a2 = 0 then
      bB (F12_own S a1 0) fun r_1 =>
      some r_1
    else if a2 = 1 then
      bB (F12_own S a1 1) fun r_3 =>
      some r_3
    else if a2 = 2 then
      bB (F12_own S a1 2) fun r_5 =>
      some r_5
    else if a2 = 3 then
      bB (F12_own S a1 3) fun r_7 =>
      some r_7
    else if a2 = 4 then
      bB (F12_rank S a1) fun r_9 =>
      some r_9
    else if a2 = 5 then
      bB (F12_needs S a1) fun r_11 =>
      some r_11
    else if a2 = 6 then
      bG (vp_in (82 + a1) 4296) <|
      bB (F12_own S a1 4) fun r_13 =>
      some ((S 1 ((82 + a1).toNatClampNeg)) - r_13)
    else if a2 = 7 then
      bB (F12_ruled S a1) fun r_15 =>
      some r_15
    else 
      some ((-1) : Int32)
set_option maxRecDepth 100000 in
set_option maxHeartbeats 4000000 in
theorem wX12_of {l : Launch} {Z : pZ}  (hZ : CM Z) (S : pS) (a1 : Int32) (a2 : Int32) (r : Int32)  (hf : F12_of S a1 a2 = some r) : CI l Z yX12_of cX12_of 3 .int 5 105 [.ref (za Z 0), .int a1, .int a2] S r S := by
  unfold F12_of at hf
  refine eI (own := RX12) (by decide) rfl (Nat.le_of_ble_eq_true rfl) (fun p e s m args below meth c Q ls G hl hw hret => ?_)
  obtain ⟨hx, hb, hml, hown, hts⟩ := G.1
  have hl : lv_has ls 3 [(0, .ref (za Z 0)), (1, .int a1), (2, .int a2)] := hl
  refine lv_aload_n hx hb dX12_of_0 rfl (lv_at hl 0 rfl) ?_
  refine lv_iload_n hx hb dX12_of_1 rfl (lv_at hl 1 rfl) ?_
  refine kVi (rest := []) G hw (wX12_isThrower hZ S a1 (F12_isThrower S a1) rfl) cw_X12_87 (m_this hZ) KX12 ⟨Nat.le_of_ble_eq_true rfl, Nat.le_of_ble_eq_true rfl⟩ rfl hl.1 rfl (Nat.le_of_ble_eq_true rfl) ⟨Nat.le_refl _, Nat.le_refl _⟩ dX12_of_2 (fun H locs hw => ?_)
  refine lv_if_ne (tgt := 10) hx hb dX12_of_5 (by decide) (fun c_17 => ?_) (fun c_17 => ?_)
  · have hf := (if_neg c_17).symm.trans hf
    refine lv_iload_n hx hb dX12_of_10 rfl (lv_at hl 2 rfl) ?_
    by_cases c_2 : a2 = 0
    · have hf := (if_pos c_2).symm.trans hf
      refine lv_tableIn (tgt := 56) hx hb dX12_of_11 (by rw [c_2]; decide) (by rw [c_2]; decide) (off := 45) (by rw [c_2]; decide) (by decide) ?_
      refine lv_aload_n hx hb dX12_of_56 rfl (lv_at hl 0 rfl) ?_
      refine lv_iload_n hx hb dX12_of_57 rfl (lv_at hl 1 rfl) ?_
      refine lv_iconst hx hb dX12_of_58 ki_0 ?_
      obtain ⟨r_1, hr_1, hf⟩ := bB_e hf
      refine kVi (rest := []) G hw (wX12_own hZ S a1 0 r_1 hr_1) cw_X12_324 (m_this hZ) KX12 ⟨Nat.le_of_ble_eq_true rfl, Nat.le_of_ble_eq_true rfl⟩ rfl hl.1 rfl (Nat.le_of_ble_eq_true rfl) ⟨Nat.le_refl _, Nat.le_refl _⟩ dX12_of_59 (fun H locs hw => ?_)
      exact hret _ _ _ _ _ dX12_of_62 (Option.some.inj hf) hw
    have hf := (if_neg c_2).symm.trans hf
    by_cases c_4 : a2 = 1
    · have hf := (if_pos c_4).symm.trans hf
      refine lv_tableIn (tgt := 63) hx hb dX12_of_11 (by rw [c_4]; decide) (by rw [c_4]; decide) (off := 52) (by rw [c_4]; decide) (by decide) ?_
      refine lv_aload_n hx hb dX12_of_63 rfl (lv_at hl 0 rfl) ?_
      refine lv_iload_n hx hb dX12_of_64 rfl (lv_at hl 1 rfl) ?_
      refine lv_iconst hx hb dX12_of_65 ki_1 ?_
      obtain ⟨r_3, hr_3, hf⟩ := bB_e hf
      refine kVi (rest := []) G hw (wX12_own hZ S a1 1 r_3 hr_3) cw_X12_324 (m_this hZ) KX12 ⟨Nat.le_of_ble_eq_true rfl, Nat.le_of_ble_eq_true rfl⟩ rfl hl.1 rfl (Nat.le_of_ble_eq_true rfl) ⟨Nat.le_refl _, Nat.le_refl _⟩ dX12_of_66 (fun H locs hw => ?_)
      exact hret _ _ _ _ _ dX12_of_69 (Option.some.inj hf) hw
    have hf := (if_neg c_4).symm.trans hf
    by_cases c_6 : a2 = 2
    · have hf := (if_pos c_6).symm.trans hf
      refine lv_tableIn (tgt := 70) hx hb dX12_of_11 (by rw [c_6]; decide) (by rw [c_6]; decide) (off := 59) (by rw [c_6]; decide) (by decide) ?_
      refine lv_aload_n hx hb dX12_of_70 rfl (lv_at hl 0 rfl) ?_
      refine lv_iload_n hx hb dX12_of_71 rfl (lv_at hl 1 rfl) ?_
      refine lv_iconst hx hb dX12_of_72 ki_2 ?_
      obtain ⟨r_5, hr_5, hf⟩ := bB_e hf
      refine kVi (rest := []) G hw (wX12_own hZ S a1 2 r_5 hr_5) cw_X12_324 (m_this hZ) KX12 ⟨Nat.le_of_ble_eq_true rfl, Nat.le_of_ble_eq_true rfl⟩ rfl hl.1 rfl (Nat.le_of_ble_eq_true rfl) ⟨Nat.le_refl _, Nat.le_refl _⟩ dX12_of_73 (fun H locs hw => ?_)
      exact hret _ _ _ _ _ dX12_of_76 (Option.some.inj hf) hw
    have hf := (if_neg c_6).symm.trans hf
    by_cases c_8 : a2 = 3
    · have hf := (if_pos c_8).symm.trans hf
      refine lv_tableIn (tgt := 77) hx hb dX12_of_11 (by rw [c_8]; decide) (by rw [c_8]; decide) (off := 66) (by rw [c_8]; decide) (by decide) ?_
      refine lv_aload_n hx hb dX12_of_77 rfl (lv_at hl 0 rfl) ?_
      refine lv_iload_n hx hb dX12_of_78 rfl (lv_at hl 1 rfl) ?_
      refine lv_iconst hx hb dX12_of_79 ki_3 ?_
      obtain ⟨r_7, hr_7, hf⟩ := bB_e hf
      refine kVi (rest := []) G hw (wX12_own hZ S a1 3 r_7 hr_7) cw_X12_324 (m_this hZ) KX12 ⟨Nat.le_of_ble_eq_true rfl, Nat.le_of_ble_eq_true rfl⟩ rfl hl.1 rfl (Nat.le_of_ble_eq_true rfl) ⟨Nat.le_refl _, Nat.le_refl _⟩ dX12_of_80 (fun H locs hw => ?_)
      exact hret _ _ _ _ _ dX12_of_83 (Option.some.inj hf) hw
    have hf := (if_neg c_8).symm.trans hf
    by_cases c_10 : a2 = 4
    · have hf := (if_pos c_10).symm.trans hf
      refine lv_tableIn (tgt := 84) hx hb dX12_of_11 (by rw [c_10]; decide) (by rw [c_10]; decide) (off := 73) (by rw [c_10]; decide) (by decide) ?_
      refine lv_aload_n hx hb dX12_of_84 rfl (lv_at hl 0 rfl) ?_
      refine lv_iload_n hx hb dX12_of_85 rfl (lv_at hl 1 rfl) ?_
      obtain ⟨r_9, hr_9, hf⟩ := bB_e hf
      refine kVi (rest := []) G hw (wX12_rank hZ S a1 r_9 hr_9) cw_X12_416 (m_this hZ) KX12 ⟨Nat.le_of_ble_eq_true rfl, Nat.le_of_ble_eq_true rfl⟩ rfl hl.1 rfl (Nat.le_of_ble_eq_true rfl) ⟨Nat.le_refl _, Nat.le_refl _⟩ dX12_of_86 (fun H locs hw => ?_)
      exact hret _ _ _ _ _ dX12_of_89 (Option.some.inj hf) hw
    have hf := (if_neg c_10).symm.trans hf
    by_cases c_12 : a2 = 5
    · have hf := (if_pos c_12).symm.trans hf
      refine lv_tableIn (tgt := 90) hx hb dX12_of_11 (by rw [c_12]; decide) (by rw [c_12]; decide) (off := 79) (by rw [c_12]; decide) (by decide) ?_
      refine lv_aload_n hx hb dX12_of_90 rfl (lv_at hl 0 rfl) ?_
      refine lv_iload_n hx hb dX12_of_91 rfl (lv_at hl 1 rfl) ?_
      obtain ⟨r_11, hr_11, hf⟩ := bB_e hf
      refine kVi (rest := []) G hw (wX12_needs hZ S a1 r_11 hr_11) cw_X12_419 (m_this hZ) KX12 ⟨Nat.le_of_ble_eq_true rfl, Nat.le_of_ble_eq_true rfl⟩ rfl hl.1 rfl (Nat.le_of_ble_eq_true rfl) ⟨Nat.le_refl _, Nat.le_refl _⟩ dX12_of_92 (fun H locs hw => ?_)
      exact hret _ _ _ _ _ dX12_of_95 (Option.some.inj hf) hw
    have hf := (if_neg c_12).symm.trans hf
    by_cases c_14 : a2 = 6
    · have hf := (if_pos c_14).symm.trans hf
      refine lv_tableIn (tgt := 96) hx hb dX12_of_11 (by rw [c_14]; decide) (by rw [c_14]; decide) (off := 85) (by rw [c_14]; decide) (by decide) ?_
      refine lv_aload_n hx hb dX12_of_96 rfl (lv_at hl 0 rfl) ?_
      refine gF G hw (m_this hZ) KX12 0 (k2 := 1) rfl (by decide) rfl fl_X12_7 dX12_of_97 ?_
      refine lv_bipush hx hb dX12_of_100 kb_82 ?_
      refine lv_iload_n hx hb dX12_of_102 rfl (lv_at hl 1 rfl) ?_
      refine lv_iadd hx hb dX12_of_103 ?_
      obtain ⟨hg1, hf⟩ := bG_e hf
      refine aI G hw (m_w hZ) hg1 (j := (82 + a1).toNatClampNeg) rfl dX12_of_104 ?_
      refine lv_aload_n hx hb dX12_of_105 rfl (lv_at hl 0 rfl) ?_
      refine lv_iload_n hx hb dX12_of_106 rfl (lv_at hl 1 rfl) ?_
      refine lv_iconst hx hb dX12_of_107 ki_4 ?_
      obtain ⟨r_13, hr_13, hf⟩ := bB_e hf
      refine kVi (rest := [.int (S 1 ((82 + a1).toNatClampNeg))]) G hw (wX12_own hZ S a1 4 r_13 hr_13) cw_X12_324 (m_this hZ) KX12 ⟨Nat.le_of_ble_eq_true rfl, Nat.le_of_ble_eq_true rfl⟩ rfl hl.1 rfl (Nat.le_of_ble_eq_true rfl) ⟨Nat.le_refl _, Nat.le_refl _⟩ dX12_of_108 (fun H locs hw => ?_)
      refine lv_isub hx hb dX12_of_111 ?_
      exact hret _ _ _ _ _ dX12_of_112 (Option.some.inj hf) hw
    have hf := (if_neg c_14).symm.trans hf
    by_cases c_16 : a2 = 7
    · have hf := (if_pos c_16).symm.trans hf
      refine lv_tableIn (tgt := 113) hx hb dX12_of_11 (by rw [c_16]; decide) (by rw [c_16]; decide) (off := 102) (by rw [c_16]; decide) (by decide) ?_
      refine lv_aload_n hx hb dX12_of_113 rfl (lv_at hl 0 rfl) ?_
      refine lv_iload_n hx hb dX12_of_114 rfl (lv_at hl 1 rfl) ?_
      obtain ⟨r_15, hr_15, hf⟩ := bB_e hf
      refine kVi (rest := []) G hw (wX12_ruled hZ S a1 r_15 hr_15) cw_X12_422 (m_this hZ) KX12 ⟨Nat.le_of_ble_eq_true rfl, Nat.le_of_ble_eq_true rfl⟩ rfl hl.1 rfl (Nat.le_of_ble_eq_true rfl) ⟨Nat.le_refl _, Nat.le_refl _⟩ dX12_of_115 (fun H locs hw => ?_)
      exact hret _ _ _ _ _ dX12_of_118 (Option.some.inj hf) hw
    have hf := (if_neg c_16).symm.trans hf
    refine lv_tableOut (tgt := 119) hx hb dX12_of_11 (sw_out [0, 1, 2, 3, 4, 5, 6, 7] (by decide +kernel) (List.forall_mem_cons.mpr ⟨c_2, (List.forall_mem_cons.mpr ⟨c_4, (List.forall_mem_cons.mpr ⟨c_6, (List.forall_mem_cons.mpr ⟨c_8, (List.forall_mem_cons.mpr ⟨c_10, (List.forall_mem_cons.mpr ⟨c_12, (List.forall_mem_cons.mpr ⟨c_14, (List.forall_mem_cons.mpr ⟨c_16, (fun _ h => absurd h List.not_mem_nil)⟩)⟩)⟩)⟩)⟩)⟩)⟩)⟩)) (by decide) ?_
    refine lv_iconst hx hb dX12_of_119 ki_m1 ?_
    exact hret _ _ _ _ _ dX12_of_120 (Option.some.inj hf) hw
  · have hf := (if_pos c_17).symm.trans hf
    refine lv_iconst hx hb dX12_of_8 ki_m1 ?_
    exact hret _ _ _ _ _ dX12_of_9 (Option.some.inj hf) hw
noncomputable def F12_at (S : pS) (a1 : Int32) (a2 : Int32) : Option (Int32) :=
  bL (fun (_ : Unit) =>
    some ((-1) : Int32)) fun j33 =>
  if (F12_isSpear S a1) = 0 then
    j33 ()
  else
    if (F12_isIn a2 0 1) = 0 then
      j33 ()
    else
      bG (vp_in ((70 + (2 * a1)) + a2) 4296) <|
      some (S 1 (((70 + (2 * a1)) + a2).toNatClampNeg))
set_option maxRecDepth 100000 in
set_option maxHeartbeats 4000000 in
theorem wX12_at {l : Launch} {Z : pZ}  (hZ : CM Z) (S : pS) (a1 : Int32) (a2 : Int32) (r : Int32)  (hf : F12_at S a1 a2 = some r) : CI l Z yX12_at cX12_at 3 .int 5 103 [.ref (za Z 0), .int a1, .int a2] S r S := by
  unfold F12_at at hf
  refine eI (own := RX12) (by decide) rfl (Nat.le_of_ble_eq_true rfl) (fun p e s m args below meth c Q ls G hl hw hret => ?_)
  obtain ⟨hx, hb, hml, hown, hts⟩ := G.1
  have hl : lv_has ls 3 [(0, .ref (za Z 0)), (1, .int a1), (2, .int a2)] := hl
  refine lv_aload_n hx hb dX12_at_0 rfl (lv_at hl 0 rfl) ?_
  refine lv_iload_n hx hb dX12_at_1 rfl (lv_at hl 1 rfl) ?_
  refine kVi (rest := []) G hw (wX12_isSpear hZ S a1 (F12_isSpear S a1) rfl) cw_X12_401 (m_this hZ) KX12 ⟨Nat.le_of_ble_eq_true rfl, Nat.le_of_ble_eq_true rfl⟩ rfl hl.1 rfl (Nat.le_of_ble_eq_true rfl) ⟨Nat.le_refl _, Nat.le_refl _⟩ dX12_at_2 (fun H locs hw => ?_)
  obtain ⟨j33, ej, hf⟩ := bL_e hf
  have R33 : ∀ (H : Heap) (locs : List Loc) (ls : Array Slot), Wd Z s S H locs → lv_has ls 3 [] → j33 () = some r → W p l e { frames := 5, cells := 0, slots := 0, locals := 103 } s m args below meth c H locs 0 0 Q (F0 m 33 ls []) := by
    intro  H locs ls hw hl hf
    have hf := (congrFun ej ()).symm.trans hf
    refine lv_iconst hx hb dX12_at_33 ki_m1 ?_
    exact hret _ _ _ _ _ dX12_at_34 (Option.some.inj hf) hw
  clear ej
  refine lv_if_eq (tgt := 33) hx hb dX12_at_5 (by decide) (fun c_2 => ?_) (fun c_2 => ?_)
  · have hf := (if_pos c_2).symm.trans hf
    exact R33 _ _ _ hw (lv_sub hl [] rfl) hf
  · have hf := (if_neg c_2).symm.trans hf
    refine lv_iload_n hx hb dX12_at_8 rfl (lv_at hl 2 rfl) ?_
    refine lv_iconst hx hb dX12_at_9 ki_0 ?_
    refine lv_iconst hx hb dX12_at_10 ki_1 ?_
    refine kSi (rest := []) G hw (wX12_isIn hZ S a2 0 1 (F12_isIn a2 0 1) rfl) cw_X12_71 ⟨Nat.le_of_ble_eq_true rfl, Nat.le_of_ble_eq_true rfl⟩ rfl hl.1 rfl (Nat.le_of_ble_eq_true rfl) ⟨Nat.le_refl _, Nat.le_refl _⟩ dX12_at_11 (fun H locs hw => ?_)
    refine lv_if_eq (tgt := 33) hx hb dX12_at_14 (by decide) (fun c_1 => ?_) (fun c_1 => ?_)
    · have hf := (if_pos c_1).symm.trans hf
      exact R33 _ _ _ hw (lv_sub hl [] rfl) hf
    · have hf := (if_neg c_1).symm.trans hf
      refine lv_aload_n hx hb dX12_at_17 rfl (lv_at hl 0 rfl) ?_
      refine gF G hw (m_this hZ) KX12 0 (k2 := 1) rfl (by decide) rfl fl_X12_7 dX12_at_18 ?_
      refine lv_bipush hx hb dX12_at_21 kb_70 ?_
      refine lv_iconst hx hb dX12_at_23 ki_2 ?_
      refine lv_iload_n hx hb dX12_at_24 rfl (lv_at hl 1 rfl) ?_
      refine lv_imul hx hb dX12_at_25 ?_
      refine lv_iadd hx hb dX12_at_26 ?_
      refine lv_iload_n hx hb dX12_at_27 rfl (lv_at hl 2 rfl) ?_
      refine lv_iadd hx hb dX12_at_28 ?_
      obtain ⟨hg1, hf⟩ := bG_e hf
      refine aI G hw (m_w hZ) hg1 (j := ((70 + (2 * a1)) + a2).toNatClampNeg) rfl dX12_at_29 ?_
      refine lv_goto (tgt := 34) hx hb dX12_at_30 (by decide) ?_
      exact hret _ _ _ _ _ dX12_at_34 (Option.some.inj hf) hw
noncomputable def F12_book (S : pS) (a1 : Int32) (a2 : Int32) : Option (Int32) :=
  bL (fun (_ : Unit) =>
    some ((-100) : Int32)) fun j44 =>
  if (F12_isIn a1 0 ((S 1 2) - 1)) = 0 then
    j44 ()
  else
    if (F12_isIn a2 0 8) = 0 then
      j44 ()
    else
      bG (vp_in ((3296 + (10 * a1)) + a2) 4296) <|
      some (S 1 (((3296 + (10 * a1)) + a2).toNatClampNeg))
set_option maxRecDepth 100000 in
set_option maxHeartbeats 4000000 in
theorem wX12_book {l : Launch} {Z : pZ}  (hZ : CM Z) (S : pS) (a1 : Int32) (a2 : Int32) (r : Int32)  (hf : F12_book S a1 a2 = some r) : CI l Z yX12_book cX12_book 3 .int 4 82 [.ref (za Z 0), .int a1, .int a2] S r S := by
  unfold F12_book at hf
  refine eI (own := RX12) (by decide) rfl (Nat.le_of_ble_eq_true rfl) (fun p e s m args below meth c Q ls G hl hw hret => ?_)
  obtain ⟨hx, hb, hml, hown, hts⟩ := G.1
  have hl : lv_has ls 3 [(0, .ref (za Z 0)), (1, .int a1), (2, .int a2)] := hl
  refine lv_iload_n hx hb dX12_book_0 rfl (lv_at hl 1 rfl) ?_
  refine lv_iconst hx hb dX12_book_1 ki_0 ?_
  refine lv_aload_n hx hb dX12_book_2 rfl (lv_at hl 0 rfl) ?_
  refine gF G hw (m_this hZ) KX12 0 (k2 := 1) rfl (by decide) rfl fl_X12_7 dX12_book_3 ?_
  refine lv_iconst hx hb dX12_book_6 ki_2 ?_
  refine aI G hw (m_w hZ) (vin_e (by decide)) (j := 2) (by decide) dX12_book_7 ?_
  refine lv_iconst hx hb dX12_book_8 ki_1 ?_
  refine lv_isub hx hb dX12_book_9 ?_
  refine kSi (rest := []) G hw (wX12_isIn hZ S a1 0 ((S 1 2) - 1) (F12_isIn a1 0 ((S 1 2) - 1)) rfl) cw_X12_71 ⟨Nat.le_of_ble_eq_true rfl, Nat.le_of_ble_eq_true rfl⟩ rfl hl.1 rfl (Nat.le_of_ble_eq_true rfl) ⟨Nat.le_refl _, Nat.le_refl _⟩ dX12_book_10 (fun H locs hw => ?_)
  obtain ⟨j44, ej, hf⟩ := bL_e hf
  have R44 : ∀ (H : Heap) (locs : List Loc) (ls : Array Slot), Wd Z s S H locs → lv_has ls 3 [] → j44 () = some r → W p l e { frames := 4, cells := 0, slots := 0, locals := 82 } s m args below meth c H locs 0 0 Q (F0 m 44 ls []) := by
    intro  H locs ls hw hl hf
    have hf := (congrFun ej ()).symm.trans hf
    refine lv_bipush hx hb dX12_book_44 kb_m100 ?_
    exact hret _ _ _ _ _ dX12_book_46 (Option.some.inj hf) hw
  clear ej
  refine lv_if_eq (tgt := 44) hx hb dX12_book_13 (by decide) (fun c_2 => ?_) (fun c_2 => ?_)
  · have hf := (if_pos c_2).symm.trans hf
    exact R44 _ _ _ hw (lv_sub hl [] rfl) hf
  · have hf := (if_neg c_2).symm.trans hf
    refine lv_iload_n hx hb dX12_book_16 rfl (lv_at hl 2 rfl) ?_
    refine lv_iconst hx hb dX12_book_17 ki_0 ?_
    refine lv_bipush hx hb dX12_book_18 kb_8 ?_
    refine kSi (rest := []) G hw (wX12_isIn hZ S a2 0 8 (F12_isIn a2 0 8) rfl) cw_X12_71 ⟨Nat.le_of_ble_eq_true rfl, Nat.le_of_ble_eq_true rfl⟩ rfl hl.1 rfl (Nat.le_of_ble_eq_true rfl) ⟨Nat.le_refl _, Nat.le_refl _⟩ dX12_book_20 (fun H locs hw => ?_)
    refine lv_if_eq (tgt := 44) hx hb dX12_book_23 (by decide) (fun c_1 => ?_) (fun c_1 => ?_)
    · have hf := (if_pos c_1).symm.trans hf
      exact R44 _ _ _ hw (lv_sub hl [] rfl) hf
    · have hf := (if_neg c_1).symm.trans hf
      refine lv_aload_n hx hb dX12_book_26 rfl (lv_at hl 0 rfl) ?_
      refine gF G hw (m_this hZ) KX12 0 (k2 := 1) rfl (by decide) rfl fl_X12_7 dX12_book_27 ?_
      refine lv_sipush hx hb dX12_book_30 ks_3296 ?_
      refine lv_bipush hx hb dX12_book_33 kb_10 ?_
      refine lv_iload_n hx hb dX12_book_35 rfl (lv_at hl 1 rfl) ?_
      refine lv_imul hx hb dX12_book_36 ?_
      refine lv_iadd hx hb dX12_book_37 ?_
      refine lv_iload_n hx hb dX12_book_38 rfl (lv_at hl 2 rfl) ?_
      refine lv_iadd hx hb dX12_book_39 ?_
      obtain ⟨hg1, hf⟩ := bG_e hf
      refine aI G hw (m_w hZ) hg1 (j := ((3296 + (10 * a1)) + a2).toNatClampNeg) rfl dX12_book_40 ?_
      refine lv_goto (tgt := 46) hx hb dX12_book_41 (by decide) ?_
      exact hret _ _ _ _ _ dX12_book_46 (Option.some.inj hf) hw
noncomputable def F12_fly (S : pS) (a1 : Int32) (a2 : Int32) (a3 : Int32) (a4 : Int32) (a5 : Int32) (a6 : Int32) (a7 : Int32) : Option (Int32 × pS) :=
  if (F12_isIn a1 0 99) = 0 then
    some (((-10000) : Int32), S)
  else
    if (F12_isIn a2 0 90) = 0 then
      some (((-10000) : Int32), S)
    else
      if (F12_isIn a3 (-9) 9) = 0 then
        some (((-10000) : Int32), S)
      else
        if (F12_isSpear S a4) = 0 then
          some (((-10000) : Int32), S)
        else
          if (F12_isIn a5 (-29) 29) = 0 then
            some (((-10000) : Int32), S)
          else
            if (F12_isIn a6 (-29) 29) = 0 then
              some (((-10000) : Int32), S)
            else
              bB (F12_flies S a1 a2 a3 a4 a5 a6) fun S_1 =>
              if a7 = 0 then
                some (S_1 0 30, S_1)
              else if a7 = 1 then
                some (F12_landed S_1, S_1)
              else if a7 = 2 then
                some (S_1 0 31, S_1)
              else if a7 = 3 then
                some (S_1 0 34, S_1)
              else if a7 = 4 then
                some (S_1 0 35, S_1)
              else if a7 = 5 then
                bB (F12_isGood S_1) fun r_7 =>
                if r_7 = 0 then
                  some ((0 : Int32), S_1)
                else
                  some ((1 : Int32), S_1)
              else if a7 = 6 then
                some (S_1 0 33, S_1)
              else 
                some (((-10000) : Int32), S_1)
set_option maxRecDepth 100000 in
set_option maxHeartbeats 4000000 in
theorem wX12_fly {l : Launch} {Z : pZ}  (hZ : CM Z) (S : pS) (a1 : Int32) (a2 : Int32) (a3 : Int32) (a4 : Int32) (a5 : Int32) (a6 : Int32) (a7 : Int32) (r : Int32) (S2 : pS)  (hf : F12_fly S a1 a2 a3 a4 a5 a6 a7 = some (r, S2)) : CI l Z yX12_fly cX12_fly 8 .int 8 183 [.ref (za Z 0), .int a1, .int a2, .int a3, .int a4, .int a5, .int a6, .int a7] S r S2 := by
  unfold F12_fly at hf
  refine eI (own := RX12) (by decide) rfl (Nat.le_of_ble_eq_true rfl) (fun p e s m args below meth c Q ls G hl hw hret => ?_)
  obtain ⟨hx, hb, hml, hown, hts⟩ := G.1
  have hl : lv_has ls 8 [(0, .ref (za Z 0)), (1, .int a1), (2, .int a2), (3, .int a3), (4, .int a4), (5, .int a5), (6, .int a6), (7, .int a7)] := hl
  refine lv_iload_n hx hb dX12_fly_0 rfl (lv_at hl 1 rfl) ?_
  refine lv_iconst hx hb dX12_fly_1 ki_0 ?_
  refine lv_bipush hx hb dX12_fly_2 kb_99 ?_
  refine kSi (rest := []) G hw (wX12_isIn hZ S a1 0 99 (F12_isIn a1 0 99) rfl) cw_X12_71 ⟨Nat.le_of_ble_eq_true rfl, Nat.le_of_ble_eq_true rfl⟩ rfl hl.1 rfl (Nat.le_of_ble_eq_true rfl) ⟨Nat.le_refl _, Nat.le_refl _⟩ dX12_fly_4 (fun H locs hw => ?_)
  refine lv_if_eq (tgt := 64) hx hb dX12_fly_7 (by decide) (fun c_16 => ?_) (fun c_16 => ?_)
  · have hf := (if_pos c_16).symm.trans hf
    refine lv_sipush hx hb dX12_fly_64 ks_m10000 ?_
    obtain ⟨e1, e2⟩ := Prod.mk.inj (Option.some.inj hf)
    exact hret _ _ _ _ _ dX12_fly_67 e1 (by rw [← e2]; exact hw)
  · have hf := (if_neg c_16).symm.trans hf
    refine lv_iload_n hx hb dX12_fly_10 rfl (lv_at hl 2 rfl) ?_
    refine lv_iconst hx hb dX12_fly_11 ki_0 ?_
    refine lv_bipush hx hb dX12_fly_12 kb_90 ?_
    refine kSi (rest := []) G hw (wX12_isIn hZ S a2 0 90 (F12_isIn a2 0 90) rfl) cw_X12_71 ⟨Nat.le_of_ble_eq_true rfl, Nat.le_of_ble_eq_true rfl⟩ rfl hl.1 rfl (Nat.le_of_ble_eq_true rfl) ⟨Nat.le_refl _, Nat.le_refl _⟩ dX12_fly_14 (fun H locs hw => ?_)
    refine lv_if_eq (tgt := 64) hx hb dX12_fly_17 (by decide) (fun c_15 => ?_) (fun c_15 => ?_)
    · have hf := (if_pos c_15).symm.trans hf
      refine lv_sipush hx hb dX12_fly_64 ks_m10000 ?_
      obtain ⟨e1, e2⟩ := Prod.mk.inj (Option.some.inj hf)
      exact hret _ _ _ _ _ dX12_fly_67 e1 (by rw [← e2]; exact hw)
    · have hf := (if_neg c_15).symm.trans hf
      refine lv_iload_n hx hb dX12_fly_20 rfl (lv_at hl 3 rfl) ?_
      refine lv_bipush hx hb dX12_fly_21 kb_m9 ?_
      refine lv_bipush hx hb dX12_fly_23 kb_9 ?_
      refine kSi (rest := []) G hw (wX12_isIn hZ S a3 (-9) 9 (F12_isIn a3 (-9) 9) rfl) cw_X12_71 ⟨Nat.le_of_ble_eq_true rfl, Nat.le_of_ble_eq_true rfl⟩ rfl hl.1 rfl (Nat.le_of_ble_eq_true rfl) ⟨Nat.le_refl _, Nat.le_refl _⟩ dX12_fly_25 (fun H locs hw => ?_)
      refine lv_if_eq (tgt := 64) hx hb dX12_fly_28 (by decide) (fun c_14 => ?_) (fun c_14 => ?_)
      · have hf := (if_pos c_14).symm.trans hf
        refine lv_sipush hx hb dX12_fly_64 ks_m10000 ?_
        obtain ⟨e1, e2⟩ := Prod.mk.inj (Option.some.inj hf)
        exact hret _ _ _ _ _ dX12_fly_67 e1 (by rw [← e2]; exact hw)
      · have hf := (if_neg c_14).symm.trans hf
        refine lv_aload_n hx hb dX12_fly_31 rfl (lv_at hl 0 rfl) ?_
        refine lv_iload hx hb dX12_fly_32 (lv_at hl 4 rfl) ?_
        refine kVi (rest := []) G hw (wX12_isSpear hZ S a4 (F12_isSpear S a4) rfl) cw_X12_401 (m_this hZ) KX12 ⟨Nat.le_of_ble_eq_true rfl, Nat.le_of_ble_eq_true rfl⟩ rfl hl.1 rfl (Nat.le_of_ble_eq_true rfl) ⟨Nat.le_refl _, Nat.le_refl _⟩ dX12_fly_34 (fun H locs hw => ?_)
        refine lv_if_eq (tgt := 64) hx hb dX12_fly_37 (by decide) (fun c_13 => ?_) (fun c_13 => ?_)
        · have hf := (if_pos c_13).symm.trans hf
          refine lv_sipush hx hb dX12_fly_64 ks_m10000 ?_
          obtain ⟨e1, e2⟩ := Prod.mk.inj (Option.some.inj hf)
          exact hret _ _ _ _ _ dX12_fly_67 e1 (by rw [← e2]; exact hw)
        · have hf := (if_neg c_13).symm.trans hf
          refine lv_iload hx hb dX12_fly_40 (lv_at hl 5 rfl) ?_
          refine lv_bipush hx hb dX12_fly_42 kb_m29 ?_
          refine lv_bipush hx hb dX12_fly_44 kb_29 ?_
          refine kSi (rest := []) G hw (wX12_isIn hZ S a5 (-29) 29 (F12_isIn a5 (-29) 29) rfl) cw_X12_71 ⟨Nat.le_of_ble_eq_true rfl, Nat.le_of_ble_eq_true rfl⟩ rfl hl.1 rfl (Nat.le_of_ble_eq_true rfl) ⟨Nat.le_refl _, Nat.le_refl _⟩ dX12_fly_46 (fun H locs hw => ?_)
          refine lv_if_eq (tgt := 64) hx hb dX12_fly_49 (by decide) (fun c_12 => ?_) (fun c_12 => ?_)
          · have hf := (if_pos c_12).symm.trans hf
            refine lv_sipush hx hb dX12_fly_64 ks_m10000 ?_
            obtain ⟨e1, e2⟩ := Prod.mk.inj (Option.some.inj hf)
            exact hret _ _ _ _ _ dX12_fly_67 e1 (by rw [← e2]; exact hw)
          · have hf := (if_neg c_12).symm.trans hf
            refine lv_iload hx hb dX12_fly_52 (lv_at hl 6 rfl) ?_
            refine lv_bipush hx hb dX12_fly_54 kb_m29 ?_
            refine lv_bipush hx hb dX12_fly_56 kb_29 ?_
            refine kSi (rest := []) G hw (wX12_isIn hZ S a6 (-29) 29 (F12_isIn a6 (-29) 29) rfl) cw_X12_71 ⟨Nat.le_of_ble_eq_true rfl, Nat.le_of_ble_eq_true rfl⟩ rfl hl.1 rfl (Nat.le_of_ble_eq_true rfl) ⟨Nat.le_refl _, Nat.le_refl _⟩ dX12_fly_58 (fun H locs hw => ?_)
            refine lv_if_ne (tgt := 68) hx hb dX12_fly_61 (by decide) (fun c_11 => ?_) (fun c_11 => ?_)
            · have hf := (if_neg c_11).symm.trans hf
              refine lv_aload_n hx hb dX12_fly_68 rfl (lv_at hl 0 rfl) ?_
              refine lv_iload_n hx hb dX12_fly_69 rfl (lv_at hl 1 rfl) ?_
              refine lv_iload_n hx hb dX12_fly_70 rfl (lv_at hl 2 rfl) ?_
              refine lv_iload_n hx hb dX12_fly_71 rfl (lv_at hl 3 rfl) ?_
              refine lv_iload hx hb dX12_fly_72 (lv_at hl 4 rfl) ?_
              refine lv_iload hx hb dX12_fly_74 (lv_at hl 5 rfl) ?_
              refine lv_iload hx hb dX12_fly_76 (lv_at hl 6 rfl) ?_
              obtain ⟨S_1, hS_1, hf⟩ := bB_e hf
              refine kVv (rest := []) G hw (wX12_flies hZ S a1 a2 a3 a4 a5 a6 S_1 hS_1) cw_X12_389 (m_this hZ) KX12 ⟨Nat.le_of_ble_eq_true rfl, Nat.le_of_ble_eq_true rfl⟩ rfl hl.1 rfl (Nat.le_of_ble_eq_true rfl) ⟨Nat.le_refl _, Nat.le_refl _⟩ dX12_fly_78 (fun H locs hw => ?_)
              refine lv_iload hx hb dX12_fly_81 (lv_at hl 7 rfl) ?_
              by_cases c_2 : a7 = 0
              · have hf := (if_pos c_2).symm.trans hf
                refine lv_tableIn (tgt := 124) hx hb dX12_fly_83 (by rw [c_2]; decide) (by rw [c_2]; decide) (off := 41) (by rw [c_2]; decide) (by decide) ?_
                refine lv_aload_n hx hb dX12_fly_124 rfl (lv_at hl 0 rfl) ?_
                refine gI G hw (m_this hZ) KX12 30 (by decide) rfl fl_X12_341 dX12_fly_125 ?_
                obtain ⟨e1, e2⟩ := Prod.mk.inj (Option.some.inj hf)
                exact hret _ _ _ _ _ dX12_fly_128 e1 (by rw [← e2]; exact hw)
              have hf := (if_neg c_2).symm.trans hf
              by_cases c_3 : a7 = 1
              · have hf := (if_pos c_3).symm.trans hf
                refine lv_tableIn (tgt := 129) hx hb dX12_fly_83 (by rw [c_3]; decide) (by rw [c_3]; decide) (off := 46) (by rw [c_3]; decide) (by decide) ?_
                refine lv_aload_n hx hb dX12_fly_129 rfl (lv_at hl 0 rfl) ?_
                refine kVi (rest := []) G hw (wX12_landed hZ S_1 (F12_landed S_1) rfl) cw_X12_367 (m_this hZ) KX12 ⟨Nat.le_of_ble_eq_true rfl, Nat.le_of_ble_eq_true rfl⟩ rfl hl.1 rfl (Nat.le_of_ble_eq_true rfl) ⟨Nat.le_refl _, Nat.le_refl _⟩ dX12_fly_130 (fun H locs hw => ?_)
                obtain ⟨e1, e2⟩ := Prod.mk.inj (Option.some.inj hf)
                exact hret _ _ _ _ _ dX12_fly_133 e1 (by rw [← e2]; exact hw)
              have hf := (if_neg c_3).symm.trans hf
              by_cases c_4 : a7 = 2
              · have hf := (if_pos c_4).symm.trans hf
                refine lv_tableIn (tgt := 134) hx hb dX12_fly_83 (by rw [c_4]; decide) (by rw [c_4]; decide) (off := 51) (by rw [c_4]; decide) (by decide) ?_
                refine lv_aload_n hx hb dX12_fly_134 rfl (lv_at hl 0 rfl) ?_
                refine gI G hw (m_this hZ) KX12 31 (by decide) rfl fl_X12_344 dX12_fly_135 ?_
                obtain ⟨e1, e2⟩ := Prod.mk.inj (Option.some.inj hf)
                exact hret _ _ _ _ _ dX12_fly_138 e1 (by rw [← e2]; exact hw)
              have hf := (if_neg c_4).symm.trans hf
              by_cases c_5 : a7 = 3
              · have hf := (if_pos c_5).symm.trans hf
                refine lv_tableIn (tgt := 139) hx hb dX12_fly_83 (by rw [c_5]; decide) (by rw [c_5]; decide) (off := 56) (by rw [c_5]; decide) (by decide) ?_
                refine lv_aload_n hx hb dX12_fly_139 rfl (lv_at hl 0 rfl) ?_
                refine gI G hw (m_this hZ) KX12 34 (by decide) rfl fl_X12_352 dX12_fly_140 ?_
                obtain ⟨e1, e2⟩ := Prod.mk.inj (Option.some.inj hf)
                exact hret _ _ _ _ _ dX12_fly_143 e1 (by rw [← e2]; exact hw)
              have hf := (if_neg c_5).symm.trans hf
              by_cases c_6 : a7 = 4
              · have hf := (if_pos c_6).symm.trans hf
                refine lv_tableIn (tgt := 144) hx hb dX12_fly_83 (by rw [c_6]; decide) (by rw [c_6]; decide) (off := 61) (by rw [c_6]; decide) (by decide) ?_
                refine lv_aload_n hx hb dX12_fly_144 rfl (lv_at hl 0 rfl) ?_
                refine gI G hw (m_this hZ) KX12 35 (by decide) rfl fl_X12_355 dX12_fly_145 ?_
                obtain ⟨e1, e2⟩ := Prod.mk.inj (Option.some.inj hf)
                exact hret _ _ _ _ _ dX12_fly_148 e1 (by rw [← e2]; exact hw)
              have hf := (if_neg c_6).symm.trans hf
              by_cases c_9 : a7 = 5
              · have hf := (if_pos c_9).symm.trans hf
                refine lv_tableIn (tgt := 149) hx hb dX12_fly_83 (by rw [c_9]; decide) (by rw [c_9]; decide) (off := 66) (by rw [c_9]; decide) (by decide) ?_
                refine lv_aload_n hx hb dX12_fly_149 rfl (lv_at hl 0 rfl) ?_
                obtain ⟨r_7, hr_7, hf⟩ := bB_e hf
                refine kVi (rest := []) G hw (wX12_isGood hZ S_1 r_7 hr_7) cw_X12_425 (m_this hZ) KX12 ⟨Nat.le_of_ble_eq_true rfl, Nat.le_of_ble_eq_true rfl⟩ rfl hl.1 rfl (Nat.le_of_ble_eq_true rfl) ⟨Nat.le_refl _, Nat.le_refl _⟩ dX12_fly_150 (fun H locs hw => ?_)
                refine lv_if_eq (tgt := 160) hx hb dX12_fly_153 (by decide) (fun c_8 => ?_) (fun c_8 => ?_)
                · have hf := (if_pos c_8).symm.trans hf
                  refine lv_iconst hx hb dX12_fly_160 ki_0 ?_
                  obtain ⟨e1, e2⟩ := Prod.mk.inj (Option.some.inj hf)
                  exact hret _ _ _ _ _ dX12_fly_161 e1 (by rw [← e2]; exact hw)
                · have hf := (if_neg c_8).symm.trans hf
                  refine lv_iconst hx hb dX12_fly_156 ki_1 ?_
                  refine lv_goto (tgt := 161) hx hb dX12_fly_157 (by decide) ?_
                  obtain ⟨e1, e2⟩ := Prod.mk.inj (Option.some.inj hf)
                  exact hret _ _ _ _ _ dX12_fly_161 e1 (by rw [← e2]; exact hw)
              have hf := (if_neg c_9).symm.trans hf
              by_cases c_10 : a7 = 6
              · have hf := (if_pos c_10).symm.trans hf
                refine lv_tableIn (tgt := 162) hx hb dX12_fly_83 (by rw [c_10]; decide) (by rw [c_10]; decide) (off := 79) (by rw [c_10]; decide) (by decide) ?_
                refine lv_aload_n hx hb dX12_fly_162 rfl (lv_at hl 0 rfl) ?_
                refine gI G hw (m_this hZ) KX12 33 (by decide) rfl fl_X12_350 dX12_fly_163 ?_
                obtain ⟨e1, e2⟩ := Prod.mk.inj (Option.some.inj hf)
                exact hret _ _ _ _ _ dX12_fly_166 e1 (by rw [← e2]; exact hw)
              have hf := (if_neg c_10).symm.trans hf
              refine lv_tableOut (tgt := 167) hx hb dX12_fly_83 (sw_out [0, 1, 2, 3, 4, 5, 6] (by decide +kernel) (List.forall_mem_cons.mpr ⟨c_2, (List.forall_mem_cons.mpr ⟨c_3, (List.forall_mem_cons.mpr ⟨c_4, (List.forall_mem_cons.mpr ⟨c_5, (List.forall_mem_cons.mpr ⟨c_6, (List.forall_mem_cons.mpr ⟨c_9, (List.forall_mem_cons.mpr ⟨c_10, (fun _ h => absurd h List.not_mem_nil)⟩)⟩)⟩)⟩)⟩)⟩)⟩)) (by decide) ?_
              refine lv_sipush hx hb dX12_fly_167 ks_m10000 ?_
              obtain ⟨e1, e2⟩ := Prod.mk.inj (Option.some.inj hf)
              exact hret _ _ _ _ _ dX12_fly_170 e1 (by rw [← e2]; exact hw)
            · have hf := (if_pos c_11).symm.trans hf
              refine lv_sipush hx hb dX12_fly_64 ks_m10000 ?_
              obtain ⟨e1, e2⟩ := Prod.mk.inj (Option.some.inj hf)
              exact hret _ _ _ _ _ dX12_fly_67 e1 (by rw [← e2]; exact hw)
noncomputable def F12_goodFar (S : pS) (a1 : Int32) (a2 : Int32) (a3 : Int32) (a4 : Int32) : Option (Int32 × pS) :=
  bB (F12_weather S 1) fun r_1 =>
  bB (F12_flies S a1 a2 0 a3 a4 r_1) fun S_2 =>
  bB (F12_isGood S_2) fun r_3 =>
  if r_3 = 0 then
    some (((-1) : Int32), S_2)
  else
    some (S_2 0 30, S_2)
set_option maxRecDepth 100000 in
set_option maxHeartbeats 4000000 in
theorem wX12_goodFar {l : Launch} {Z : pZ}  (hZ : CM Z) (S : pS) (a1 : Int32) (a2 : Int32) (a3 : Int32) (a4 : Int32) (r : Int32) (S2 : pS)  (hf : F12_goodFar S a1 a2 a3 a4 = some (r, S2)) : CI l Z yX12_goodFar cX12_goodFar 5 .int 8 183 [.ref (za Z 0), .int a1, .int a2, .int a3, .int a4] S r S2 := by
  unfold F12_goodFar at hf
  refine eI (own := RX12) (by decide) rfl (Nat.le_of_ble_eq_true rfl) (fun p e s m args below meth c Q ls G hl hw hret => ?_)
  obtain ⟨hx, hb, hml, hown, hts⟩ := G.1
  have hl : lv_has ls 5 [(0, .ref (za Z 0)), (1, .int a1), (2, .int a2), (3, .int a3), (4, .int a4)] := hl
  refine lv_aload_n hx hb dX12_goodFar_0 rfl (lv_at hl 0 rfl) ?_
  refine lv_iload_n hx hb dX12_goodFar_1 rfl (lv_at hl 1 rfl) ?_
  refine lv_iload_n hx hb dX12_goodFar_2 rfl (lv_at hl 2 rfl) ?_
  refine lv_iconst hx hb dX12_goodFar_3 ki_0 ?_
  refine lv_iload_n hx hb dX12_goodFar_4 rfl (lv_at hl 3 rfl) ?_
  refine lv_iload hx hb dX12_goodFar_5 (lv_at hl 4 rfl) ?_
  refine lv_aload_n hx hb dX12_goodFar_7 rfl (lv_at hl 0 rfl) ?_
  refine lv_iconst hx hb dX12_goodFar_8 ki_1 ?_
  obtain ⟨r_1, hr_1, hf⟩ := bB_e hf
  refine kVi (rest := [.int a4, .int a3, .int 0, .int a2, .int a1, .ref (za Z 0)]) G hw (wX12_weather hZ S 1 r_1 hr_1) cw_X12_364 (m_this hZ) KX12 ⟨Nat.le_of_ble_eq_true rfl, Nat.le_of_ble_eq_true rfl⟩ rfl hl.1 rfl (Nat.le_of_ble_eq_true rfl) ⟨Nat.le_refl _, Nat.le_refl _⟩ dX12_goodFar_9 (fun H locs hw => ?_)
  obtain ⟨S_2, hS_2, hf⟩ := bB_e hf
  refine kVv (rest := []) G hw (wX12_flies hZ S a1 a2 0 a3 a4 r_1 S_2 hS_2) cw_X12_389 (m_this hZ) KX12 ⟨Nat.le_of_ble_eq_true rfl, Nat.le_of_ble_eq_true rfl⟩ rfl hl.1 rfl (Nat.le_of_ble_eq_true rfl) ⟨Nat.le_refl _, Nat.le_refl _⟩ dX12_goodFar_12 (fun H locs hw => ?_)
  refine lv_aload_n hx hb dX12_goodFar_15 rfl (lv_at hl 0 rfl) ?_
  obtain ⟨r_3, hr_3, hf⟩ := bB_e hf
  refine kVi (rest := []) G hw (wX12_isGood hZ S_2 r_3 hr_3) cw_X12_425 (m_this hZ) KX12 ⟨Nat.le_of_ble_eq_true rfl, Nat.le_of_ble_eq_true rfl⟩ rfl hl.1 rfl (Nat.le_of_ble_eq_true rfl) ⟨Nat.le_refl _, Nat.le_refl _⟩ dX12_goodFar_16 (fun H locs hw => ?_)
  refine lv_if_eq (tgt := 29) hx hb dX12_goodFar_19 (by decide) (fun c_4 => ?_) (fun c_4 => ?_)
  · have hf := (if_pos c_4).symm.trans hf
    refine lv_iconst hx hb dX12_goodFar_29 ki_m1 ?_
    obtain ⟨e1, e2⟩ := Prod.mk.inj (Option.some.inj hf)
    exact hret _ _ _ _ _ dX12_goodFar_30 e1 (by rw [← e2]; exact hw)
  · have hf := (if_neg c_4).symm.trans hf
    refine lv_aload_n hx hb dX12_goodFar_22 rfl (lv_at hl 0 rfl) ?_
    refine gI G hw (m_this hZ) KX12 30 (by decide) rfl fl_X12_341 dX12_goodFar_23 ?_
    refine lv_goto (tgt := 30) hx hb dX12_goodFar_26 (by decide) ?_
    obtain ⟨e1, e2⟩ := Prod.mk.inj (Option.some.inj hf)
    exact hret _ _ _ _ _ dX12_goodFar_30 e1 (by rw [← e2]; exact hw)
noncomputable def F12_laysAngle (S : pS) (a1 : Int32) (a2 : Int32) (a3 : Int32) : Option (pS) :=
  bL (sU S 0 36 (-1)) fun S_1 =>
  bL (sU S_1 0 37 (-1)) fun S_2 =>
  bL (fun (S_3 : pS) =>
    some S_3) fun g61_13 =>
  bL (u2 fun (l4_4 : Int32) (S_5 : pS) =>
    if 60 < l4_4 then
      some (.inr S_5)
    else
      bB2 (F12_goodFar S_5 a1 l4_4 a2 a3) fun r_7 S_8 =>
      bL (fun (S_9 : pS) =>
        bL (l4_4 + 1) fun l4_10 =>
        some (.inl (l4_10, S_9))) fun j55 =>
      if (S_8 0 37) < r_7 then
        bL (sU S_8 0 37 r_7) fun S_11 =>
        bL (sU S_11 0 36 l4_4) fun S_12 =>
        j55 S_12
      else
        j55 S_8) fun b13 =>
  bB (bP b13 ((0 : Int32), S_2)) (u1 g61_13)
set_option maxRecDepth 100000 in
set_option maxHeartbeats 4000000 in
theorem wX12_laysAngle {l : Launch} {Z : pZ}  (hZ : CM Z) (S : pS) (a1 : Int32) (a2 : Int32) (a3 : Int32) (S2 : pS)  (hf : F12_laysAngle S a1 a2 a3 = some S2) : CV l Z yX12_laysAngle cX12_laysAngle 6 9 207 [.ref (za Z 0), .int a1, .int a2, .int a3] S S2 := by
  unfold F12_laysAngle at hf
  refine eV (own := RX12) (by decide) rfl (Nat.le_of_ble_eq_true rfl) (fun p e s m args below meth c Q ls G hl hw hret => ?_)
  obtain ⟨hx, hb, hml, hown, hts⟩ := G.1
  have hl : lv_has ls 6 [(0, .ref (za Z 0)), (1, .int a1), (2, .int a2), (3, .int a3)] := hl
  refine lv_aload_n hx hb dX12_laysAngle_0 rfl (lv_at hl 0 rfl) ?_
  refine lv_iconst hx hb dX12_laysAngle_1 ki_m1 ?_
  obtain ⟨S_1, eS_1, hf⟩ := bL_e hf
  refine pI G hw (m_this hZ) KX12 36 (by decide) rfl rfl rfl eS_1 fl_X12_428 dX12_laysAngle_2 (fun H locs hw => ?_)
  refine lv_aload_n hx hb dX12_laysAngle_5 rfl (lv_at hl 0 rfl) ?_
  refine lv_iconst hx hb dX12_laysAngle_6 ki_m1 ?_
  obtain ⟨S_2, eS_2, hf⟩ := bL_e hf
  refine pI G hw (m_this hZ) KX12 37 (by decide) rfl rfl rfl eS_2 fl_X12_431 dX12_laysAngle_7 (fun H locs hw => ?_)
  refine lv_iconst hx hb dX12_laysAngle_10 ki_0 ?_
  refine lv_istore (lv' := [(4, .int 0), (0, .ref (za Z 0)), (1, .int a1), (2, .int a2), (3, .int a3)]) hx hb dX12_laysAngle_11 hl (by decide) rfl (fun ls hl => ?_)
  obtain ⟨g61_13, ej, hf⟩ := bL_e hf
  have R61_13 : ∀ (S_3 : pS) (H : Heap) (locs : List Loc) (ls : Array Slot), Wd Z s S_3 H locs → lv_has ls 6 [] → g61_13 S_3 = some S2 → W p l e { frames := 9, cells := 0, slots := 0, locals := 207 } s m args below meth c H locs 0 0 Q (F0 m 61 ls []) := by
    intro S_3 H locs ls hw hl hf
    have hf := (congrFun ej S_3).symm.trans hf
    exact hret _ _ _ _ dX12_laysAngle_61 (by rw [← (Option.some.inj hf)]; exact hw)
  clear ej
  obtain ⟨b13, eb, hf⟩ := bL_e hf
  have RL13 : ∀ (n : Nat) z, (u1 g61_13) z = some S2 → ∀ (l4_4 : Int32) (S_5 : pS) (H : Heap) (locs : List Loc) (ls : Array Slot), Wd Z s S_5 H locs → lv_has ls 6 [(0, .ref (za Z 0)), (1, .int a1), (2, .int a2), (3, .int a3), (4, .int l4_4)] → bPn b13 n (l4_4, S_5) = some z → W p l e { frames := 9, cells := 0, slots := 0, locals := 207 } s m args below meth c H locs 0 0 Q (F0 m 13 ls []) := by
    intro n
    induction n with
    | zero =>
      intro z hg l4_4 S_5 H locs ls hw hl hz
      exact bPn_0 hz
    | succ n ih =>
      intro z hg l4_4 S_5 H locs ls hw hl hz
      obtain ⟨q_6, hf, hz⟩ := bPn_e hz
      have hf := u2_e ((congrFun eb _).symm.trans hf)
      refine lv_iload hx hb dX12_laysAngle_13 (lv_at hl 4 rfl) ?_
      refine lv_bipush hx hb dX12_laysAngle_15 kb_60 ?_
      refine lv_icmp_gt (tgt := 61) hx hb dX12_laysAngle_17 (by decide) (fun c_14 => ?_) (fun c_14 => ?_)
      · have hf := (if_pos c_14).symm.trans hf
        obtain rfl := Option.some.inj hf
        obtain rfl := Option.some.inj (hz : some _ = some _)
        exact R61_13 _ _ _ _ hw (lv_sub hl [] rfl) hg
      · have hf := (if_neg c_14).symm.trans hf
        refine lv_aload_n hx hb dX12_laysAngle_20 rfl (lv_at hl 0 rfl) ?_
        refine lv_iload_n hx hb dX12_laysAngle_21 rfl (lv_at hl 1 rfl) ?_
        refine lv_iload hx hb dX12_laysAngle_22 (lv_at hl 4 rfl) ?_
        refine lv_iload_n hx hb dX12_laysAngle_24 rfl (lv_at hl 2 rfl) ?_
        refine lv_iload_n hx hb dX12_laysAngle_25 rfl (lv_at hl 3 rfl) ?_
        obtain ⟨r_7, S_8, hr_7, hf⟩ := bB2_e hf
        refine kVi (rest := []) G hw (wX12_goodFar hZ S_5 a1 l4_4 a2 a3 r_7 S_8 hr_7) cw_X12_434 (m_this hZ) KX12 ⟨Nat.le_of_ble_eq_true rfl, Nat.le_of_ble_eq_true rfl⟩ rfl hl.1 rfl (Nat.le_of_ble_eq_true rfl) ⟨Nat.le_refl _, Nat.le_refl _⟩ dX12_laysAngle_26 (fun H locs hw => ?_)
        refine lv_istore (lv' := [(5, .int r_7), (0, .ref (za Z 0)), (1, .int a1), (2, .int a2), (3, .int a3), (4, .int l4_4)]) hx hb dX12_laysAngle_29 hl (by decide) rfl (fun ls hl => ?_)
        refine lv_iload hx hb dX12_laysAngle_31 (lv_at hl 0 rfl) ?_
        refine lv_aload_n hx hb dX12_laysAngle_33 rfl (lv_at hl 1 rfl) ?_
        refine gI G hw (m_this hZ) KX12 37 (by decide) rfl fl_X12_431 dX12_laysAngle_34 ?_
        obtain ⟨j55, ej, hf⟩ := bL_e hf
        have R55 : ∀ (S_9 : pS) (H : Heap) (locs : List Loc) (ls : Array Slot), Wd Z s S_9 H locs → lv_has ls 6 [(0, .ref (za Z 0)), (1, .int a1), (2, .int a2), (3, .int a3), (4, .int l4_4)] → j55 S_9 = some q_6 → W p l e { frames := 9, cells := 0, slots := 0, locals := 207 } s m args below meth c H locs 0 0 Q (F0 m 55 ls []) := by
          intro S_9 H locs ls hw hl hf
          have hf := (congrFun ej S_9).symm.trans hf
          obtain ⟨l4_10, el4_10, hf⟩ := bL_e hf
          refine lv_iinc (v := l4_10) (lv' := [(4, .int l4_10), (0, .ref (za Z 0)), (1, .int a1), (2, .int a2), (3, .int a3)]) hx hb dX12_laysAngle_55 hl (k := 4) rfl (by rw [el4_10]; rfl) (by decide) rfl (fun ls hl => ?_)
          refine lv_goto (tgt := 13) hx hb dX12_laysAngle_58 (by decide) ?_
          obtain rfl := Option.some.inj hf
          exact ih _ hg _ _ _ _ _ hw (lv_sub hl [1, 2, 3, 4, 0] rfl) hz
        clear ej
        refine lv_icmp_gt (tgt := 43) hx hb dX12_laysAngle_37 (by decide) (fun c_13 => ?_) (fun c_13 => ?_)
        · have hf := (if_pos c_13).symm.trans hf
          refine lv_aload_n hx hb dX12_laysAngle_43 rfl (lv_at hl 1 rfl) ?_
          refine lv_iload hx hb dX12_laysAngle_44 (lv_at hl 0 rfl) ?_
          obtain ⟨S_11, eS_11, hf⟩ := bL_e hf
          refine pI G hw (m_this hZ) KX12 37 (by decide) rfl rfl rfl eS_11 fl_X12_431 dX12_laysAngle_46 (fun H locs hw => ?_)
          refine lv_aload_n hx hb dX12_laysAngle_49 rfl (lv_at hl 1 rfl) ?_
          refine lv_iload hx hb dX12_laysAngle_50 (lv_at hl 5 rfl) ?_
          obtain ⟨S_12, eS_12, hf⟩ := bL_e hf
          refine pI G hw (m_this hZ) KX12 36 (by decide) rfl rfl rfl eS_12 fl_X12_428 dX12_laysAngle_52 (fun H locs hw => ?_)
          exact R55 _ _ _ _ hw (lv_sub hl [1, 2, 3, 4, 5] rfl) hf
        · have hf := (if_neg c_13).symm.trans hf
          refine lv_goto (tgt := 55) hx hb dX12_laysAngle_40 (by decide) ?_
          exact R55 _ _ _ _ hw (lv_sub hl [1, 2, 3, 4, 5] rfl) hf
  clear eb
  obtain ⟨z, hz, hf⟩ := bB_e hf
  obtain ⟨n, hz⟩ := bP_e hz
  exact RL13 n z hf _ _ _ _ _ hw (lv_sub hl [1, 2, 3, 4, 0] rfl) hz
noncomputable def F12_safeFar (S : pS) (a1 : Int32) (a2 : Int32) (a3 : Int32) (a4 : Int32) : Option (Int32 × pS) :=
  bB2 (F12_goodFar S a1 a2 a3 a4) fun r_1 S_2 =>
  bB (F12_weather S_2 3) fun r_3 =>
  bL (-r_3) fun l6_4 =>
  bL (fun (l5_5 : Int32) (S_6 : pS) =>
    some (l5_5, S_6)) fun g66_19 =>
  bL (u3 fun (l5_7 : Int32) (l6_8 : Int32) (S_9 : pS) =>
    bB (F12_weather S_9 3) fun r_11 =>
    if r_11 < l6_8 then
      some (.inr (l5_7, S_9))
    else
      if l5_7 = (-1) then
        some (.inr (l5_7, S_9))
      else
        bB2 (F12_goodFar S_9 a1 (F12_held (a2 + l6_8) 0 90) a3 a4) fun r_12 S_13 =>
        bL (F12_lesser l5_7 r_12) fun l5_14 =>
        bL (l6_8 + 1) fun l6_15 =>
        some (.inl (l5_14, l6_15, S_13))) fun b19 =>
  bB (bP b19 (r_1, l6_4, S_2)) (u2 g66_19)
set_option maxRecDepth 100000 in
set_option maxHeartbeats 4000000 in
theorem wX12_safeFar {l : Launch} {Z : pZ}  (hZ : CM Z) (S : pS) (a1 : Int32) (a2 : Int32) (a3 : Int32) (a4 : Int32) (r : Int32) (S2 : pS)  (hf : F12_safeFar S a1 a2 a3 a4 = some (r, S2)) : CI l Z yX12_safeFar cX12_safeFar 7 .int 9 207 [.ref (za Z 0), .int a1, .int a2, .int a3, .int a4] S r S2 := by
  unfold F12_safeFar at hf
  refine eI (own := RX12) (by decide) rfl (Nat.le_of_ble_eq_true rfl) (fun p e s m args below meth c Q ls G hl hw hret => ?_)
  obtain ⟨hx, hb, hml, hown, hts⟩ := G.1
  have hl : lv_has ls 7 [(0, .ref (za Z 0)), (1, .int a1), (2, .int a2), (3, .int a3), (4, .int a4)] := hl
  refine lv_aload_n hx hb dX12_safeFar_0 rfl (lv_at hl 0 rfl) ?_
  refine lv_iload_n hx hb dX12_safeFar_1 rfl (lv_at hl 1 rfl) ?_
  refine lv_iload_n hx hb dX12_safeFar_2 rfl (lv_at hl 2 rfl) ?_
  refine lv_iload_n hx hb dX12_safeFar_3 rfl (lv_at hl 3 rfl) ?_
  refine lv_iload hx hb dX12_safeFar_4 (lv_at hl 4 rfl) ?_
  obtain ⟨r_1, S_2, hr_1, hf⟩ := bB2_e hf
  refine kVi (rest := []) G hw (wX12_goodFar hZ S a1 a2 a3 a4 r_1 S_2 hr_1) cw_X12_434 (m_this hZ) KX12 ⟨Nat.le_of_ble_eq_true rfl, Nat.le_of_ble_eq_true rfl⟩ rfl hl.1 rfl (Nat.le_of_ble_eq_true rfl) ⟨Nat.le_refl _, Nat.le_refl _⟩ dX12_safeFar_6 (fun H locs hw => ?_)
  refine lv_istore (lv' := [(5, .int r_1), (0, .ref (za Z 0)), (1, .int a1), (2, .int a2), (3, .int a3), (4, .int a4)]) hx hb dX12_safeFar_9 hl (by decide) rfl (fun ls hl => ?_)
  refine lv_aload_n hx hb dX12_safeFar_11 rfl (lv_at hl 1 rfl) ?_
  refine lv_iconst hx hb dX12_safeFar_12 ki_3 ?_
  obtain ⟨r_3, hr_3, hf⟩ := bB_e hf
  refine kVi (rest := []) G hw (wX12_weather hZ S_2 3 r_3 hr_3) cw_X12_364 (m_this hZ) KX12 ⟨Nat.le_of_ble_eq_true rfl, Nat.le_of_ble_eq_true rfl⟩ rfl hl.1 rfl (Nat.le_of_ble_eq_true rfl) ⟨Nat.le_refl _, Nat.le_refl _⟩ dX12_safeFar_13 (fun H locs hw => ?_)
  refine lv_ineg hx hb dX12_safeFar_16 ?_
  obtain ⟨l6_4, el6_4, hf⟩ := bL_e hf
  refine top_i el6_4 ?_
  refine lv_istore (lv' := [(6, .int l6_4), (5, .int r_1), (0, .ref (za Z 0)), (1, .int a1), (2, .int a2), (3, .int a3), (4, .int a4)]) hx hb dX12_safeFar_17 hl (by decide) rfl (fun ls hl => ?_)
  obtain ⟨g66_19, ej, hf⟩ := bL_e hf
  have R66_19 : ∀ (l5_5 : Int32) (S_6 : pS) (H : Heap) (locs : List Loc) (ls : Array Slot), Wd Z s S_6 H locs → lv_has ls 7 [(5, .int l5_5)] → g66_19 l5_5 S_6 = some (r, S2) → W p l e { frames := 9, cells := 0, slots := 0, locals := 207 } s m args below meth c H locs 0 0 Q (F0 m 66 ls []) := by
    intro l5_5 S_6 H locs ls hw hl hf
    have hf := (congrFun (congrFun ej l5_5) S_6).symm.trans hf
    refine lv_iload hx hb dX12_safeFar_66 (lv_at hl 0 rfl) ?_
    obtain ⟨e1, e2⟩ := Prod.mk.inj (Option.some.inj hf)
    exact hret _ _ _ _ _ dX12_safeFar_68 e1 (by rw [← e2]; exact hw)
  clear ej
  obtain ⟨b19, eb, hf⟩ := bL_e hf
  have RL19 : ∀ (n : Nat) z, (u2 g66_19) z = some (r, S2) → ∀ (l5_7 : Int32) (l6_8 : Int32) (S_9 : pS) (H : Heap) (locs : List Loc) (ls : Array Slot), Wd Z s S_9 H locs → lv_has ls 7 [(0, .ref (za Z 0)), (1, .int a1), (2, .int a2), (3, .int a3), (4, .int a4), (5, .int l5_7), (6, .int l6_8)] → bPn b19 n (l5_7, l6_8, S_9) = some z → W p l e { frames := 9, cells := 0, slots := 0, locals := 207 } s m args below meth c H locs 0 0 Q (F0 m 19 ls []) := by
    intro n
    induction n with
    | zero =>
      intro z hg l5_7 l6_8 S_9 H locs ls hw hl hz
      exact bPn_0 hz
    | succ n ih =>
      intro z hg l5_7 l6_8 S_9 H locs ls hw hl hz
      obtain ⟨q_10, hf, hz⟩ := bPn_e hz
      have hf := u3_e ((congrFun eb _).symm.trans hf)
      refine lv_iload hx hb dX12_safeFar_19 (lv_at hl 6 rfl) ?_
      refine lv_aload_n hx hb dX12_safeFar_21 rfl (lv_at hl 0 rfl) ?_
      refine lv_iconst hx hb dX12_safeFar_22 ki_3 ?_
      obtain ⟨r_11, hr_11, hf⟩ := bB_e hf
      refine kVi (rest := [.int l6_8]) G hw (wX12_weather hZ S_9 3 r_11 hr_11) cw_X12_364 (m_this hZ) KX12 ⟨Nat.le_of_ble_eq_true rfl, Nat.le_of_ble_eq_true rfl⟩ rfl hl.1 rfl (Nat.le_of_ble_eq_true rfl) ⟨Nat.le_refl _, Nat.le_refl _⟩ dX12_safeFar_23 (fun H locs hw => ?_)
      refine lv_icmp_gt (tgt := 66) hx hb dX12_safeFar_26 (by decide) (fun c_17 => ?_) (fun c_17 => ?_)
      · have hf := (if_pos c_17).symm.trans hf
        obtain rfl := Option.some.inj hf
        obtain rfl := Option.some.inj (hz : some _ = some _)
        exact R66_19 _ _ _ _ _ hw (lv_sub hl [5] rfl) hg
      · have hf := (if_neg c_17).symm.trans hf
        refine lv_iload hx hb dX12_safeFar_29 (lv_at hl 5 rfl) ?_
        refine lv_iconst hx hb dX12_safeFar_31 ki_m1 ?_
        refine lv_icmp_eq (tgt := 66) hx hb dX12_safeFar_32 (by decide) (fun c_16 => ?_) (fun c_16 => ?_)
        · have hf := (if_pos c_16).symm.trans hf
          obtain rfl := Option.some.inj hf
          obtain rfl := Option.some.inj (hz : some _ = some _)
          exact R66_19 _ _ _ _ _ hw (lv_sub hl [5] rfl) hg
        · have hf := (if_neg c_16).symm.trans hf
          refine lv_iload hx hb dX12_safeFar_35 (lv_at hl 5 rfl) ?_
          refine lv_aload_n hx hb dX12_safeFar_37 rfl (lv_at hl 0 rfl) ?_
          refine lv_iload_n hx hb dX12_safeFar_38 rfl (lv_at hl 1 rfl) ?_
          refine lv_iload_n hx hb dX12_safeFar_39 rfl (lv_at hl 2 rfl) ?_
          refine lv_iload hx hb dX12_safeFar_40 (lv_at hl 6 rfl) ?_
          refine lv_iadd hx hb dX12_safeFar_42 ?_
          refine lv_iconst hx hb dX12_safeFar_43 ki_0 ?_
          refine lv_bipush hx hb dX12_safeFar_44 kb_90 ?_
          refine kSi (rest := [.int a1, .ref (za Z 0), .int l5_7]) G hw (wX12_held hZ S_9 (a2 + l6_8) 0 90 (F12_held (a2 + l6_8) 0 90) rfl) cw_X12_321 ⟨Nat.le_of_ble_eq_true rfl, Nat.le_of_ble_eq_true rfl⟩ rfl hl.1 rfl (Nat.le_of_ble_eq_true rfl) ⟨Nat.le_refl _, Nat.le_refl _⟩ dX12_safeFar_46 (fun H locs hw => ?_)
          refine lv_iload_n hx hb dX12_safeFar_49 rfl (lv_at hl 3 rfl) ?_
          refine lv_iload hx hb dX12_safeFar_50 (lv_at hl 4 rfl) ?_
          obtain ⟨r_12, S_13, hr_12, hf⟩ := bB2_e hf
          refine kVi (rest := [.int l5_7]) G hw (wX12_goodFar hZ S_9 a1 (F12_held (a2 + l6_8) 0 90) a3 a4 r_12 S_13 hr_12) cw_X12_434 (m_this hZ) KX12 ⟨Nat.le_of_ble_eq_true rfl, Nat.le_of_ble_eq_true rfl⟩ rfl hl.1 rfl (Nat.le_of_ble_eq_true rfl) ⟨Nat.le_refl _, Nat.le_refl _⟩ dX12_safeFar_52 (fun H locs hw => ?_)
          refine kSi (rest := []) G hw (wX12_lesser hZ S_13 l5_7 r_12 (F12_lesser l5_7 r_12) rfl) cw_X12_64 ⟨Nat.le_of_ble_eq_true rfl, Nat.le_of_ble_eq_true rfl⟩ rfl hl.1 rfl (Nat.le_of_ble_eq_true rfl) ⟨Nat.le_refl _, Nat.le_refl _⟩ dX12_safeFar_55 (fun H locs hw => ?_)
          obtain ⟨l5_14, el5_14, hf⟩ := bL_e hf
          refine top_i el5_14 ?_
          refine lv_istore (lv' := [(5, .int l5_14), (0, .ref (za Z 0)), (1, .int a1), (2, .int a2), (3, .int a3), (4, .int a4), (6, .int l6_8)]) hx hb dX12_safeFar_58 hl (by decide) rfl (fun ls hl => ?_)
          obtain ⟨l6_15, el6_15, hf⟩ := bL_e hf
          refine lv_iinc (v := l6_15) (lv' := [(6, .int l6_15), (5, .int l5_14), (0, .ref (za Z 0)), (1, .int a1), (2, .int a2), (3, .int a3), (4, .int a4)]) hx hb dX12_safeFar_60 hl (k := 6) rfl (by rw [el6_15]; rfl) (by decide) rfl (fun ls hl => ?_)
          refine lv_goto (tgt := 19) hx hb dX12_safeFar_63 (by decide) ?_
          obtain rfl := Option.some.inj hf
          exact ih _ hg _ _ _ _ _ _ hw (lv_sub hl [2, 3, 4, 5, 6, 1, 0] rfl) hz
  clear eb
  obtain ⟨z, hz, hf⟩ := bB_e hf
  obtain ⟨n, hz⟩ := bP_e hz
  exact RL19 n z hf _ _ _ _ _ _ hw (lv_sub hl [2, 3, 4, 5, 6, 1, 0] rfl) hz
noncomputable def F12_laysSafe (S : pS) (a1 : Int32) (a2 : Int32) (a3 : Int32) : Option (pS) :=
  bL (sU S 0 36 (-1)) fun S_1 =>
  bL (sU S_1 0 37 (-1)) fun S_2 =>
  bL (fun (S_3 : pS) =>
    some S_3) fun g61_13 =>
  bL (u2 fun (l4_4 : Int32) (S_5 : pS) =>
    if 60 < l4_4 then
      some (.inr S_5)
    else
      bB2 (F12_safeFar S_5 a1 l4_4 a2 a3) fun r_7 S_8 =>
      bL (fun (S_9 : pS) =>
        bL (l4_4 + 1) fun l4_10 =>
        some (.inl (l4_10, S_9))) fun j55 =>
      if (S_8 0 37) < r_7 then
        bL (sU S_8 0 37 r_7) fun S_11 =>
        bL (sU S_11 0 36 l4_4) fun S_12 =>
        j55 S_12
      else
        j55 S_8) fun b13 =>
  bB (bP b13 ((0 : Int32), S_2)) (u1 g61_13)
set_option maxRecDepth 100000 in
set_option maxHeartbeats 4000000 in
theorem wX12_laysSafe {l : Launch} {Z : pZ}  (hZ : CM Z) (S : pS) (a1 : Int32) (a2 : Int32) (a3 : Int32) (S2 : pS)  (hf : F12_laysSafe S a1 a2 a3 = some S2) : CV l Z yX12_laysSafe cX12_laysSafe 6 10 233 [.ref (za Z 0), .int a1, .int a2, .int a3] S S2 := by
  unfold F12_laysSafe at hf
  refine eV (own := RX12) (by decide) rfl (Nat.le_of_ble_eq_true rfl) (fun p e s m args below meth c Q ls G hl hw hret => ?_)
  obtain ⟨hx, hb, hml, hown, hts⟩ := G.1
  have hl : lv_has ls 6 [(0, .ref (za Z 0)), (1, .int a1), (2, .int a2), (3, .int a3)] := hl
  refine lv_aload_n hx hb dX12_laysSafe_0 rfl (lv_at hl 0 rfl) ?_
  refine lv_iconst hx hb dX12_laysSafe_1 ki_m1 ?_
  obtain ⟨S_1, eS_1, hf⟩ := bL_e hf
  refine pI G hw (m_this hZ) KX12 36 (by decide) rfl rfl rfl eS_1 fl_X12_428 dX12_laysSafe_2 (fun H locs hw => ?_)
  refine lv_aload_n hx hb dX12_laysSafe_5 rfl (lv_at hl 0 rfl) ?_
  refine lv_iconst hx hb dX12_laysSafe_6 ki_m1 ?_
  obtain ⟨S_2, eS_2, hf⟩ := bL_e hf
  refine pI G hw (m_this hZ) KX12 37 (by decide) rfl rfl rfl eS_2 fl_X12_431 dX12_laysSafe_7 (fun H locs hw => ?_)
  refine lv_iconst hx hb dX12_laysSafe_10 ki_0 ?_
  refine lv_istore (lv' := [(4, .int 0), (0, .ref (za Z 0)), (1, .int a1), (2, .int a2), (3, .int a3)]) hx hb dX12_laysSafe_11 hl (by decide) rfl (fun ls hl => ?_)
  obtain ⟨g61_13, ej, hf⟩ := bL_e hf
  have R61_13 : ∀ (S_3 : pS) (H : Heap) (locs : List Loc) (ls : Array Slot), Wd Z s S_3 H locs → lv_has ls 6 [] → g61_13 S_3 = some S2 → W p l e { frames := 10, cells := 0, slots := 0, locals := 233 } s m args below meth c H locs 0 0 Q (F0 m 61 ls []) := by
    intro S_3 H locs ls hw hl hf
    have hf := (congrFun ej S_3).symm.trans hf
    exact hret _ _ _ _ dX12_laysSafe_61 (by rw [← (Option.some.inj hf)]; exact hw)
  clear ej
  obtain ⟨b13, eb, hf⟩ := bL_e hf
  have RL13 : ∀ (n : Nat) z, (u1 g61_13) z = some S2 → ∀ (l4_4 : Int32) (S_5 : pS) (H : Heap) (locs : List Loc) (ls : Array Slot), Wd Z s S_5 H locs → lv_has ls 6 [(0, .ref (za Z 0)), (1, .int a1), (2, .int a2), (3, .int a3), (4, .int l4_4)] → bPn b13 n (l4_4, S_5) = some z → W p l e { frames := 10, cells := 0, slots := 0, locals := 233 } s m args below meth c H locs 0 0 Q (F0 m 13 ls []) := by
    intro n
    induction n with
    | zero =>
      intro z hg l4_4 S_5 H locs ls hw hl hz
      exact bPn_0 hz
    | succ n ih =>
      intro z hg l4_4 S_5 H locs ls hw hl hz
      obtain ⟨q_6, hf, hz⟩ := bPn_e hz
      have hf := u2_e ((congrFun eb _).symm.trans hf)
      refine lv_iload hx hb dX12_laysSafe_13 (lv_at hl 4 rfl) ?_
      refine lv_bipush hx hb dX12_laysSafe_15 kb_60 ?_
      refine lv_icmp_gt (tgt := 61) hx hb dX12_laysSafe_17 (by decide) (fun c_14 => ?_) (fun c_14 => ?_)
      · have hf := (if_pos c_14).symm.trans hf
        obtain rfl := Option.some.inj hf
        obtain rfl := Option.some.inj (hz : some _ = some _)
        exact R61_13 _ _ _ _ hw (lv_sub hl [] rfl) hg
      · have hf := (if_neg c_14).symm.trans hf
        refine lv_aload_n hx hb dX12_laysSafe_20 rfl (lv_at hl 0 rfl) ?_
        refine lv_iload_n hx hb dX12_laysSafe_21 rfl (lv_at hl 1 rfl) ?_
        refine lv_iload hx hb dX12_laysSafe_22 (lv_at hl 4 rfl) ?_
        refine lv_iload_n hx hb dX12_laysSafe_24 rfl (lv_at hl 2 rfl) ?_
        refine lv_iload_n hx hb dX12_laysSafe_25 rfl (lv_at hl 3 rfl) ?_
        obtain ⟨r_7, S_8, hr_7, hf⟩ := bB2_e hf
        refine kVi (rest := []) G hw (wX12_safeFar hZ S_5 a1 l4_4 a2 a3 r_7 S_8 hr_7) cw_X12_437 (m_this hZ) KX12 ⟨Nat.le_of_ble_eq_true rfl, Nat.le_of_ble_eq_true rfl⟩ rfl hl.1 rfl (Nat.le_of_ble_eq_true rfl) ⟨Nat.le_refl _, Nat.le_refl _⟩ dX12_laysSafe_26 (fun H locs hw => ?_)
        refine lv_istore (lv' := [(5, .int r_7), (0, .ref (za Z 0)), (1, .int a1), (2, .int a2), (3, .int a3), (4, .int l4_4)]) hx hb dX12_laysSafe_29 hl (by decide) rfl (fun ls hl => ?_)
        refine lv_iload hx hb dX12_laysSafe_31 (lv_at hl 0 rfl) ?_
        refine lv_aload_n hx hb dX12_laysSafe_33 rfl (lv_at hl 1 rfl) ?_
        refine gI G hw (m_this hZ) KX12 37 (by decide) rfl fl_X12_431 dX12_laysSafe_34 ?_
        obtain ⟨j55, ej, hf⟩ := bL_e hf
        have R55 : ∀ (S_9 : pS) (H : Heap) (locs : List Loc) (ls : Array Slot), Wd Z s S_9 H locs → lv_has ls 6 [(0, .ref (za Z 0)), (1, .int a1), (2, .int a2), (3, .int a3), (4, .int l4_4)] → j55 S_9 = some q_6 → W p l e { frames := 10, cells := 0, slots := 0, locals := 233 } s m args below meth c H locs 0 0 Q (F0 m 55 ls []) := by
          intro S_9 H locs ls hw hl hf
          have hf := (congrFun ej S_9).symm.trans hf
          obtain ⟨l4_10, el4_10, hf⟩ := bL_e hf
          refine lv_iinc (v := l4_10) (lv' := [(4, .int l4_10), (0, .ref (za Z 0)), (1, .int a1), (2, .int a2), (3, .int a3)]) hx hb dX12_laysSafe_55 hl (k := 4) rfl (by rw [el4_10]; rfl) (by decide) rfl (fun ls hl => ?_)
          refine lv_goto (tgt := 13) hx hb dX12_laysSafe_58 (by decide) ?_
          obtain rfl := Option.some.inj hf
          exact ih _ hg _ _ _ _ _ hw (lv_sub hl [1, 2, 3, 4, 0] rfl) hz
        clear ej
        refine lv_icmp_gt (tgt := 43) hx hb dX12_laysSafe_37 (by decide) (fun c_13 => ?_) (fun c_13 => ?_)
        · have hf := (if_pos c_13).symm.trans hf
          refine lv_aload_n hx hb dX12_laysSafe_43 rfl (lv_at hl 1 rfl) ?_
          refine lv_iload hx hb dX12_laysSafe_44 (lv_at hl 0 rfl) ?_
          obtain ⟨S_11, eS_11, hf⟩ := bL_e hf
          refine pI G hw (m_this hZ) KX12 37 (by decide) rfl rfl rfl eS_11 fl_X12_431 dX12_laysSafe_46 (fun H locs hw => ?_)
          refine lv_aload_n hx hb dX12_laysSafe_49 rfl (lv_at hl 1 rfl) ?_
          refine lv_iload hx hb dX12_laysSafe_50 (lv_at hl 5 rfl) ?_
          obtain ⟨S_12, eS_12, hf⟩ := bL_e hf
          refine pI G hw (m_this hZ) KX12 36 (by decide) rfl rfl rfl eS_12 fl_X12_428 dX12_laysSafe_52 (fun H locs hw => ?_)
          exact R55 _ _ _ _ hw (lv_sub hl [1, 2, 3, 4, 5] rfl) hf
        · have hf := (if_neg c_13).symm.trans hf
          refine lv_goto (tgt := 55) hx hb dX12_laysSafe_40 (by decide) ?_
          exact R55 _ _ _ _ hw (lv_sub hl [1, 2, 3, 4, 5] rfl) hf
  clear eb
  obtain ⟨z, hz, hf⟩ := bB_e hf
  obtain ⟨n, hz⟩ := bP_e hz
  exact RL13 n z hf _ _ _ _ _ hw (lv_sub hl [1, 2, 3, 4, 0] rfl) hz
noncomputable def F12_isForce (a0 : Int32) : Int32 :=
  ((F12_isIn a0 0 99) &&& 1)
set_option maxRecDepth 100000 in
set_option maxHeartbeats 4000000 in
theorem wX12_isForce {l : Launch} {Z : pZ}  (hZ : CM Z) (S : pS) (a0 : Int32) (r : Int32)  (hf : F12_isForce a0 = r) : CI l Z yX12_isForce cX12_isForce 1 .boolean 4 82 [.int a0] S r S := by
  unfold F12_isForce at hf
  refine eZ (own := RX12) (by decide) rfl (Nat.le_of_ble_eq_true rfl) (fun p e s m args below meth c Q ls G hl hw hret => ?_)
  obtain ⟨hx, hb, hml, hown, hts⟩ := G.1
  have hl : lv_has ls 1 [(0, .int a0)] := hl
  refine lv_iload_n hx hb dX12_isForce_0 rfl (lv_at hl 0 rfl) ?_
  refine lv_iconst hx hb dX12_isForce_1 ki_0 ?_
  refine lv_bipush hx hb dX12_isForce_2 kb_99 ?_
  refine kSi (rest := []) G hw (wX12_isIn hZ S a0 0 99 (F12_isIn a0 0 99) rfl) cw_X12_71 ⟨Nat.le_of_ble_eq_true rfl, Nat.le_of_ble_eq_true rfl⟩ rfl hl.1 rfl (Nat.le_of_ble_eq_true rfl) ⟨Nat.le_refl _, Nat.le_refl _⟩ dX12_isForce_4 (fun H locs hw => ?_)
  exact hret _ _ _ _ _ dX12_isForce_7 hf hw
noncomputable def F12_isWind (a0 : Int32) : Int32 :=
  ((F12_isIn a0 (-29) 29) &&& 1)
set_option maxRecDepth 100000 in
set_option maxHeartbeats 4000000 in
theorem wX12_isWind {l : Launch} {Z : pZ}  (hZ : CM Z) (S : pS) (a0 : Int32) (r : Int32)  (hf : F12_isWind a0 = r) : CI l Z yX12_isWind cX12_isWind 1 .boolean 4 82 [.int a0] S r S := by
  unfold F12_isWind at hf
  refine eZ (own := RX12) (by decide) rfl (Nat.le_of_ble_eq_true rfl) (fun p e s m args below meth c Q ls G hl hw hret => ?_)
  obtain ⟨hx, hb, hml, hown, hts⟩ := G.1
  have hl : lv_has ls 1 [(0, .int a0)] := hl
  refine lv_iload_n hx hb dX12_isWind_0 rfl (lv_at hl 0 rfl) ?_
  refine lv_bipush hx hb dX12_isWind_1 kb_m29 ?_
  refine lv_bipush hx hb dX12_isWind_3 kb_29 ?_
  refine kSi (rest := []) G hw (wX12_isIn hZ S a0 (-29) 29 (F12_isIn a0 (-29) 29) rfl) cw_X12_71 ⟨Nat.le_of_ble_eq_true rfl, Nat.le_of_ble_eq_true rfl⟩ rfl hl.1 rfl (Nat.le_of_ble_eq_true rfl) ⟨Nat.le_refl _, Nat.le_refl _⟩ dX12_isWind_5 (fun H locs hw => ?_)
  exact hret _ _ _ _ _ dX12_isWind_8 hf hw
noncomputable def F12_angle (S : pS) (a1 : Int32) (a2 : Int32) (a3 : Int32) (a4 : Int32) : Option (Int32 × pS) :=
  if (F12_isForce a1) = 0 then
    some (((-1) : Int32), S)
  else
    if (F12_isSpear S a2) = 0 then
      some (((-1) : Int32), S)
    else
      if (F12_isWind a3) = 0 then
        some (((-1) : Int32), S)
      else
        if (F12_isIn a4 0 3) = 0 then
          some (((-1) : Int32), S)
        else
          bL (fun (S_1 : pS) =>
            if (a4 - a4 / 2 * 2) = 0 then
              some (S_1 0 36, S_1)
            else
              some (S_1 0 37, S_1)) fun j57 =>
          if 2 ≤ a4 then
            bB (F12_laysSafe S a1 a2 a3) fun S_3 =>
            j57 S_3
          else
            bB (F12_laysAngle S a1 a2 a3) fun S_4 =>
            j57 S_4
set_option maxRecDepth 100000 in
set_option maxHeartbeats 4000000 in
theorem wX12_angle {l : Launch} {Z : pZ}  (hZ : CM Z) (S : pS) (a1 : Int32) (a2 : Int32) (a3 : Int32) (a4 : Int32) (r : Int32) (S2 : pS)  (hf : F12_angle S a1 a2 a3 a4 = some (r, S2)) : CI l Z yX12_angle cX12_angle 5 .int 11 258 [.ref (za Z 0), .int a1, .int a2, .int a3, .int a4] S r S2 := by
  unfold F12_angle at hf
  refine eI (own := RX12) (by decide) rfl (Nat.le_of_ble_eq_true rfl) (fun p e s m args below meth c Q ls G hl hw hret => ?_)
  obtain ⟨hx, hb, hml, hown, hts⟩ := G.1
  have hl : lv_has ls 5 [(0, .ref (za Z 0)), (1, .int a1), (2, .int a2), (3, .int a3), (4, .int a4)] := hl
  refine lv_iload_n hx hb dX12_angle_0 rfl (lv_at hl 1 rfl) ?_
  refine kSi (rest := []) G hw (wX12_isForce hZ S a1 (F12_isForce a1) rfl) cw_X12_440 ⟨Nat.le_of_ble_eq_true rfl, Nat.le_of_ble_eq_true rfl⟩ rfl hl.1 rfl (Nat.le_of_ble_eq_true rfl) ⟨Nat.le_refl _, Nat.le_refl _⟩ dX12_angle_1 (fun H locs hw => ?_)
  refine lv_if_eq (tgt := 32) hx hb dX12_angle_4 (by decide) (fun c_9 => ?_) (fun c_9 => ?_)
  · have hf := (if_pos c_9).symm.trans hf
    refine lv_iconst hx hb dX12_angle_32 ki_m1 ?_
    obtain ⟨e1, e2⟩ := Prod.mk.inj (Option.some.inj hf)
    exact hret _ _ _ _ _ dX12_angle_33 e1 (by rw [← e2]; exact hw)
  · have hf := (if_neg c_9).symm.trans hf
    refine lv_aload_n hx hb dX12_angle_7 rfl (lv_at hl 0 rfl) ?_
    refine lv_iload_n hx hb dX12_angle_8 rfl (lv_at hl 2 rfl) ?_
    refine kVi (rest := []) G hw (wX12_isSpear hZ S a2 (F12_isSpear S a2) rfl) cw_X12_401 (m_this hZ) KX12 ⟨Nat.le_of_ble_eq_true rfl, Nat.le_of_ble_eq_true rfl⟩ rfl hl.1 rfl (Nat.le_of_ble_eq_true rfl) ⟨Nat.le_refl _, Nat.le_refl _⟩ dX12_angle_9 (fun H locs hw => ?_)
    refine lv_if_eq (tgt := 32) hx hb dX12_angle_12 (by decide) (fun c_8 => ?_) (fun c_8 => ?_)
    · have hf := (if_pos c_8).symm.trans hf
      refine lv_iconst hx hb dX12_angle_32 ki_m1 ?_
      obtain ⟨e1, e2⟩ := Prod.mk.inj (Option.some.inj hf)
      exact hret _ _ _ _ _ dX12_angle_33 e1 (by rw [← e2]; exact hw)
    · have hf := (if_neg c_8).symm.trans hf
      refine lv_iload_n hx hb dX12_angle_15 rfl (lv_at hl 3 rfl) ?_
      refine kSi (rest := []) G hw (wX12_isWind hZ S a3 (F12_isWind a3) rfl) cw_X12_443 ⟨Nat.le_of_ble_eq_true rfl, Nat.le_of_ble_eq_true rfl⟩ rfl hl.1 rfl (Nat.le_of_ble_eq_true rfl) ⟨Nat.le_refl _, Nat.le_refl _⟩ dX12_angle_16 (fun H locs hw => ?_)
      refine lv_if_eq (tgt := 32) hx hb dX12_angle_19 (by decide) (fun c_7 => ?_) (fun c_7 => ?_)
      · have hf := (if_pos c_7).symm.trans hf
        refine lv_iconst hx hb dX12_angle_32 ki_m1 ?_
        obtain ⟨e1, e2⟩ := Prod.mk.inj (Option.some.inj hf)
        exact hret _ _ _ _ _ dX12_angle_33 e1 (by rw [← e2]; exact hw)
      · have hf := (if_neg c_7).symm.trans hf
        refine lv_iload hx hb dX12_angle_22 (lv_at hl 4 rfl) ?_
        refine lv_iconst hx hb dX12_angle_24 ki_0 ?_
        refine lv_iconst hx hb dX12_angle_25 ki_3 ?_
        refine kSi (rest := []) G hw (wX12_isIn hZ S a4 0 3 (F12_isIn a4 0 3) rfl) cw_X12_71 ⟨Nat.le_of_ble_eq_true rfl, Nat.le_of_ble_eq_true rfl⟩ rfl hl.1 rfl (Nat.le_of_ble_eq_true rfl) ⟨Nat.le_refl _, Nat.le_refl _⟩ dX12_angle_26 (fun H locs hw => ?_)
        refine lv_if_ne (tgt := 34) hx hb dX12_angle_29 (by decide) (fun c_6 => ?_) (fun c_6 => ?_)
        · have hf := (if_neg c_6).symm.trans hf
          refine lv_iload hx hb dX12_angle_34 (lv_at hl 4 rfl) ?_
          refine lv_iconst hx hb dX12_angle_36 ki_2 ?_
          obtain ⟨j57, ej, hf⟩ := bL_e hf
          have R57 : ∀ (S_1 : pS) (H : Heap) (locs : List Loc) (ls : Array Slot), Wd Z s S_1 H locs → lv_has ls 5 [(0, .ref (za Z 0)), (4, .int a4)] → j57 S_1 = some (r, S2) → W p l e { frames := 11, cells := 0, slots := 0, locals := 258 } s m args below meth c H locs 0 0 Q (F0 m 57 ls []) := by
            intro S_1 H locs ls hw hl hf
            have hf := (congrFun ej S_1).symm.trans hf
            refine lv_iload hx hb dX12_angle_57 (lv_at hl 1 rfl) ?_
            refine lv_iconst hx hb dX12_angle_59 ki_2 ?_
            refine lv_irem hx hb dX12_angle_60 (by decide) ?_
            refine lv_if_ne (tgt := 71) hx hb dX12_angle_61 (by decide) (fun c_2 => ?_) (fun c_2 => ?_)
            · have hf := (if_neg c_2).symm.trans hf
              refine lv_aload_n hx hb dX12_angle_71 rfl (lv_at hl 0 rfl) ?_
              refine gI G hw (m_this hZ) KX12 37 (by decide) rfl fl_X12_431 dX12_angle_72 ?_
              obtain ⟨e1, e2⟩ := Prod.mk.inj (Option.some.inj hf)
              exact hret _ _ _ _ _ dX12_angle_75 e1 (by rw [← e2]; exact hw)
            · have hf := (if_pos c_2).symm.trans hf
              refine lv_aload_n hx hb dX12_angle_64 rfl (lv_at hl 0 rfl) ?_
              refine gI G hw (m_this hZ) KX12 36 (by decide) rfl fl_X12_428 dX12_angle_65 ?_
              refine lv_goto (tgt := 75) hx hb dX12_angle_68 (by decide) ?_
              obtain ⟨e1, e2⟩ := Prod.mk.inj (Option.some.inj hf)
              exact hret _ _ _ _ _ dX12_angle_75 e1 (by rw [← e2]; exact hw)
          clear ej
          refine lv_icmp_ge (tgt := 50) hx hb dX12_angle_37 (by decide) (fun c_5 => ?_) (fun c_5 => ?_)
          · have hf := (if_pos c_5).symm.trans hf
            refine lv_aload_n hx hb dX12_angle_50 rfl (lv_at hl 0 rfl) ?_
            refine lv_iload_n hx hb dX12_angle_51 rfl (lv_at hl 1 rfl) ?_
            refine lv_iload_n hx hb dX12_angle_52 rfl (lv_at hl 2 rfl) ?_
            refine lv_iload_n hx hb dX12_angle_53 rfl (lv_at hl 3 rfl) ?_
            obtain ⟨S_3, hS_3, hf⟩ := bB_e hf
            refine kVv (rest := []) G hw (wX12_laysSafe hZ S a1 a2 a3 S_3 hS_3) cw_X12_449 (m_this hZ) KX12 ⟨Nat.le_of_ble_eq_true rfl, Nat.le_of_ble_eq_true rfl⟩ rfl hl.1 rfl (Nat.le_of_ble_eq_true rfl) ⟨Nat.le_refl _, Nat.le_refl _⟩ dX12_angle_54 (fun H locs hw => ?_)
            exact R57 _ _ _ _ hw (lv_sub hl [0, 4] rfl) hf
          · have hf := (if_neg c_5).symm.trans hf
            refine lv_aload_n hx hb dX12_angle_40 rfl (lv_at hl 0 rfl) ?_
            refine lv_iload_n hx hb dX12_angle_41 rfl (lv_at hl 1 rfl) ?_
            refine lv_iload_n hx hb dX12_angle_42 rfl (lv_at hl 2 rfl) ?_
            refine lv_iload_n hx hb dX12_angle_43 rfl (lv_at hl 3 rfl) ?_
            obtain ⟨S_4, hS_4, hf⟩ := bB_e hf
            refine kVv (rest := []) G hw (wX12_laysAngle hZ S a1 a2 a3 S_4 hS_4) cw_X12_446 (m_this hZ) KX12 ⟨Nat.le_of_ble_eq_true rfl, Nat.le_of_ble_eq_true rfl⟩ rfl hl.1 rfl (Nat.le_of_ble_eq_true rfl) ⟨Nat.le_refl _, Nat.le_refl _⟩ dX12_angle_44 (fun H locs hw => ?_)
            refine lv_goto (tgt := 57) hx hb dX12_angle_47 (by decide) ?_
            exact R57 _ _ _ _ hw (lv_sub hl [0, 4] rfl) hf
        · have hf := (if_pos c_6).symm.trans hf
          refine lv_iconst hx hb dX12_angle_32 ki_m1 ?_
          obtain ⟨e1, e2⟩ := Prod.mk.inj (Option.some.inj hf)
          exact hret _ _ _ _ _ dX12_angle_33 e1 (by rw [← e2]; exact hw)
noncomputable def F12_right (S : pS) (a1 : Int32) (a2 : Int32) : Option (Int32 × pS) :=
  if (F12_isForce a1) = 0 then
    some (((-1) : Int32), S)
  else
    if (F12_isWind a2) = 0 then
      some (((-1) : Int32), S)
    else
      bL (fun (l3_1 : Int32) (S_2 : pS) =>
        some (l3_1, S_2)) fun g71_24 =>
      bL (u4 fun (l3_3 : Int32) (l4_4 : Int32) (l5_5 : Int32) (S_6 : pS) =>
        if (S_6 1 67) ≤ l5_5 then
          some (.inr (l3_3, S_6))
        else
          bB (F12_laysAngle S_6 a1 l5_5 a2) fun S_8 =>
          bL (fun (l3_9 : Int32) (l4_10 : Int32) =>
            bL (l5_5 + 1) fun l5_11 =>
            some (.inl (l3_9, l4_10, l5_11, S_8))) fun j65 =>
          if l4_4 < (S_8 0 37) then
            bL (S_8 0 37) fun l4_12 =>
            j65 l5_5 l4_12
          else
            j65 l3_3 l4_4) fun b24 =>
      bB (bP b24 (((-1) : Int32), ((-1) : Int32), (0 : Int32), S)) (u2 g71_24)
set_option maxRecDepth 100000 in
set_option maxHeartbeats 4000000 in
theorem wX12_right {l : Launch} {Z : pZ}  (hZ : CM Z) (S : pS) (a1 : Int32) (a2 : Int32) (r : Int32) (S2 : pS)  (hf : F12_right S a1 a2 = some (r, S2)) : CI l Z yX12_right cX12_right 6 .int 10 232 [.ref (za Z 0), .int a1, .int a2] S r S2 := by
  unfold F12_right at hf
  refine eI (own := RX12) (by decide) rfl (Nat.le_of_ble_eq_true rfl) (fun p e s m args below meth c Q ls G hl hw hret => ?_)
  obtain ⟨hx, hb, hml, hown, hts⟩ := G.1
  have hl : lv_has ls 6 [(0, .ref (za Z 0)), (1, .int a1), (2, .int a2)] := hl
  refine lv_iload_n hx hb dX12_right_0 rfl (lv_at hl 1 rfl) ?_
  refine kSi (rest := []) G hw (wX12_isForce hZ S a1 (F12_isForce a1) rfl) cw_X12_440 ⟨Nat.le_of_ble_eq_true rfl, Nat.le_of_ble_eq_true rfl⟩ rfl hl.1 rfl (Nat.le_of_ble_eq_true rfl) ⟨Nat.le_refl _, Nat.le_refl _⟩ dX12_right_1 (fun H locs hw => ?_)
  refine lv_if_eq (tgt := 14) hx hb dX12_right_4 (by decide) (fun c_16 => ?_) (fun c_16 => ?_)
  · have hf := (if_pos c_16).symm.trans hf
    refine lv_iconst hx hb dX12_right_14 ki_m1 ?_
    obtain ⟨e1, e2⟩ := Prod.mk.inj (Option.some.inj hf)
    exact hret _ _ _ _ _ dX12_right_15 e1 (by rw [← e2]; exact hw)
  · have hf := (if_neg c_16).symm.trans hf
    refine lv_iload_n hx hb dX12_right_7 rfl (lv_at hl 2 rfl) ?_
    refine kSi (rest := []) G hw (wX12_isWind hZ S a2 (F12_isWind a2) rfl) cw_X12_443 ⟨Nat.le_of_ble_eq_true rfl, Nat.le_of_ble_eq_true rfl⟩ rfl hl.1 rfl (Nat.le_of_ble_eq_true rfl) ⟨Nat.le_refl _, Nat.le_refl _⟩ dX12_right_8 (fun H locs hw => ?_)
    refine lv_if_ne (tgt := 16) hx hb dX12_right_11 (by decide) (fun c_15 => ?_) (fun c_15 => ?_)
    · have hf := (if_neg c_15).symm.trans hf
      refine lv_iconst hx hb dX12_right_16 ki_m1 ?_
      refine lv_istore_n (lv' := [(3, .int (-1)), (0, .ref (za Z 0)), (1, .int a1), (2, .int a2)]) hx hb dX12_right_17 rfl hl (by decide) rfl (fun ls hl => ?_)
      refine lv_iconst hx hb dX12_right_18 ki_m1 ?_
      refine lv_istore (lv' := [(4, .int (-1)), (3, .int (-1)), (0, .ref (za Z 0)), (1, .int a1), (2, .int a2)]) hx hb dX12_right_19 hl (by decide) rfl (fun ls hl => ?_)
      refine lv_iconst hx hb dX12_right_21 ki_0 ?_
      refine lv_istore (lv' := [(5, .int 0), (4, .int (-1)), (3, .int (-1)), (0, .ref (za Z 0)), (1, .int a1), (2, .int a2)]) hx hb dX12_right_22 hl (by decide) rfl (fun ls hl => ?_)
      obtain ⟨g71_24, ej, hf⟩ := bL_e hf
      have R71_24 : ∀ (l3_1 : Int32) (S_2 : pS) (H : Heap) (locs : List Loc) (ls : Array Slot), Wd Z s S_2 H locs → lv_has ls 6 [(3, .int l3_1)] → g71_24 l3_1 S_2 = some (r, S2) → W p l e { frames := 10, cells := 0, slots := 0, locals := 232 } s m args below meth c H locs 0 0 Q (F0 m 71 ls []) := by
        intro l3_1 S_2 H locs ls hw hl hf
        have hf := (congrFun (congrFun ej l3_1) S_2).symm.trans hf
        refine lv_iload_n hx hb dX12_right_71 rfl (lv_at hl 0 rfl) ?_
        obtain ⟨e1, e2⟩ := Prod.mk.inj (Option.some.inj hf)
        exact hret _ _ _ _ _ dX12_right_72 e1 (by rw [← e2]; exact hw)
      clear ej
      obtain ⟨b24, eb, hf⟩ := bL_e hf
      have RL24 : ∀ (n : Nat) z, (u2 g71_24) z = some (r, S2) → ∀ (l3_3 : Int32) (l4_4 : Int32) (l5_5 : Int32) (S_6 : pS) (H : Heap) (locs : List Loc) (ls : Array Slot), Wd Z s S_6 H locs → lv_has ls 6 [(0, .ref (za Z 0)), (1, .int a1), (2, .int a2), (3, .int l3_3), (4, .int l4_4), (5, .int l5_5)] → bPn b24 n (l3_3, l4_4, l5_5, S_6) = some z → W p l e { frames := 10, cells := 0, slots := 0, locals := 232 } s m args below meth c H locs 0 0 Q (F0 m 24 ls []) := by
        intro n
        induction n with
        | zero =>
          intro z hg l3_3 l4_4 l5_5 S_6 H locs ls hw hl hz
          exact bPn_0 hz
        | succ n ih =>
          intro z hg l3_3 l4_4 l5_5 S_6 H locs ls hw hl hz
          obtain ⟨q_7, hf, hz⟩ := bPn_e hz
          have hf := u4_e ((congrFun eb _).symm.trans hf)
          refine lv_iload hx hb dX12_right_24 (lv_at hl 5 rfl) ?_
          refine lv_aload_n hx hb dX12_right_26 rfl (lv_at hl 0 rfl) ?_
          refine gF G hw (m_this hZ) KX12 0 (k2 := 1) rfl (by decide) rfl fl_X12_7 dX12_right_27 ?_
          refine lv_bipush hx hb dX12_right_30 kb_67 ?_
          refine aI G hw (m_w hZ) (vin_e (by decide)) (j := 67) (by decide) dX12_right_32 ?_
          refine lv_icmp_ge (tgt := 71) hx hb dX12_right_33 (by decide) (fun c_14 => ?_) (fun c_14 => ?_)
          · have hf := (if_pos c_14).symm.trans hf
            obtain rfl := Option.some.inj hf
            obtain rfl := Option.some.inj (hz : some _ = some _)
            exact R71_24 _ _ _ _ _ hw (lv_sub hl [3] rfl) hg
          · have hf := (if_neg c_14).symm.trans hf
            refine lv_aload_n hx hb dX12_right_36 rfl (lv_at hl 0 rfl) ?_
            refine lv_iload_n hx hb dX12_right_37 rfl (lv_at hl 1 rfl) ?_
            refine lv_iload hx hb dX12_right_38 (lv_at hl 5 rfl) ?_
            refine lv_iload_n hx hb dX12_right_40 rfl (lv_at hl 2 rfl) ?_
            obtain ⟨S_8, hS_8, hf⟩ := bB_e hf
            refine kVv (rest := []) G hw (wX12_laysAngle hZ S_6 a1 l5_5 a2 S_8 hS_8) cw_X12_446 (m_this hZ) KX12 ⟨Nat.le_of_ble_eq_true rfl, Nat.le_of_ble_eq_true rfl⟩ rfl hl.1 rfl (Nat.le_of_ble_eq_true rfl) ⟨Nat.le_refl _, Nat.le_refl _⟩ dX12_right_41 (fun H locs hw => ?_)
            refine lv_aload_n hx hb dX12_right_44 rfl (lv_at hl 0 rfl) ?_
            refine gI G hw (m_this hZ) KX12 37 (by decide) rfl fl_X12_431 dX12_right_45 ?_
            refine lv_iload hx hb dX12_right_48 (lv_at hl 4 rfl) ?_
            obtain ⟨j65, ej, hf⟩ := bL_e hf
            have R65 : ∀ (l3_9 : Int32) (l4_10 : Int32) (H : Heap) (locs : List Loc) (ls : Array Slot), Wd Z s S_8 H locs → lv_has ls 6 [(0, .ref (za Z 0)), (1, .int a1), (2, .int a2), (3, .int l3_9), (4, .int l4_10), (5, .int l5_5)] → j65 l3_9 l4_10 = some q_7 → W p l e { frames := 10, cells := 0, slots := 0, locals := 232 } s m args below meth c H locs 0 0 Q (F0 m 65 ls []) := by
              intro l3_9 l4_10 H locs ls hw hl hf
              have hf := (congrFun (congrFun ej l3_9) l4_10).symm.trans hf
              obtain ⟨l5_11, el5_11, hf⟩ := bL_e hf
              refine lv_iinc (v := l5_11) (lv' := [(5, .int l5_11), (0, .ref (za Z 0)), (1, .int a1), (2, .int a2), (3, .int l3_9), (4, .int l4_10)]) hx hb dX12_right_65 hl (k := 5) rfl (by rw [el5_11]; rfl) (by decide) rfl (fun ls hl => ?_)
              refine lv_goto (tgt := 24) hx hb dX12_right_68 (by decide) ?_
              obtain rfl := Option.some.inj hf
              exact ih _ hg _ _ _ _ _ _ _ hw (lv_sub hl [1, 2, 3, 4, 5, 0] rfl) hz
            clear ej
            refine lv_icmp_gt (tgt := 56) hx hb dX12_right_50 (by decide) (fun c_13 => ?_) (fun c_13 => ?_)
            · have hf := (if_pos c_13).symm.trans hf
              refine lv_aload_n hx hb dX12_right_56 rfl (lv_at hl 0 rfl) ?_
              refine gI G hw (m_this hZ) KX12 37 (by decide) rfl fl_X12_431 dX12_right_57 ?_
              obtain ⟨l4_12, el4_12, hf⟩ := bL_e hf
              refine top_i el4_12 ?_
              refine lv_istore (lv' := [(4, .int l4_12), (0, .ref (za Z 0)), (1, .int a1), (2, .int a2), (3, .int l3_3), (5, .int l5_5)]) hx hb dX12_right_60 hl (by decide) rfl (fun ls hl => ?_)
              refine lv_iload hx hb dX12_right_62 (lv_at hl 5 rfl) ?_
              refine lv_istore_n (lv' := [(3, .int l5_5), (4, .int l4_12), (0, .ref (za Z 0)), (1, .int a1), (2, .int a2), (5, .int l5_5)]) hx hb dX12_right_64 rfl hl (by decide) rfl (fun ls hl => ?_)
              exact R65 _ _ _ _ _ hw (lv_sub hl [2, 3, 4, 0, 1, 5] rfl) hf
            · have hf := (if_neg c_13).symm.trans hf
              refine lv_goto (tgt := 65) hx hb dX12_right_53 (by decide) ?_
              exact R65 _ _ _ _ _ hw (lv_sub hl [0, 1, 2, 3, 4, 5] rfl) hf
      clear eb
      obtain ⟨z, hz, hf⟩ := bB_e hf
      obtain ⟨n, hz⟩ := bP_e hz
      exact RL24 n z hf _ _ _ _ _ _ _ hw (lv_sub hl [3, 4, 5, 2, 1, 0] rfl) hz
    · have hf := (if_pos c_15).symm.trans hf
      refine lv_iconst hx hb dX12_right_14 ki_m1 ?_
      obtain ⟨e1, e2⟩ := Prod.mk.inj (Option.some.inj hf)
      exact hret _ _ _ _ _ dX12_right_15 e1 (by rw [← e2]; exact hw)

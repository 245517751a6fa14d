noncomputable def F12_rests (S : pS) (a1 : Int32) (a2 : Int32) : Option (Int32 × pS) :=
  if (F12_isThrower S a1) = 0 then
    some (((-1) : Int32), S)
  else
    if (F12_isIn a2 0 1000) = 0 then
      some (((-1) : Int32), S)
    else
      bB (F12_own S a1 1) fun r_1 =>
      bL (fun (l3_2 : Int32) (l4_3 : Int32) (S_4 : pS) =>
        if l3_2 ≤ a2 then
          some (l4_3, S_4)
        else
          some (((-1) : Int32), S_4)) fun g83_31 =>
      bL (u3 fun (l3_6 : Int32) (l4_7 : Int32) (S_8 : pS) =>
        if l3_6 ≤ a2 then
          some (.inr (l3_6, l4_7, S_8))
        else
          if 400 ≤ l4_7 then
            some (.inr (l3_6, l4_7, S_8))
          else
            bB (F12_own S_8 a1 3) fun r_10 =>
            bB (F12_armFacts S_8 a1 0 0 0 l3_6 r_10) fun S_11 =>
            bB2 (F12_lawSays S_11 1 26 0 1000) fun r_12 S_13 =>
            bL (F12_greater 0 (l3_6 - r_12)) fun l3_14 =>
            bL (l4_7 + 1) fun l4_15 =>
            some (.inl (l3_14, l4_15, S_13))) fun b31 =>
      bB (bP b31 (r_1, (0 : Int32), S)) (u3 g83_31)
set_option maxRecDepth 100000 in
set_option maxHeartbeats 4000000 in
theorem wX12_rests {l : Launch} {Z : pZ}  (hZ : CM Z) (S : pS) (a1 : Int32) (a2 : Int32) (r : Int32) (S2 : pS)  (hf : F12_rests S a1 a2 = some (r, S2)) : CI l Z yX12_rests cX12_rests 5 .int 6 134 [.ref (za Z 0), .int a1, .int a2] S r S2 := by
  unfold F12_rests at hf
  refine eI (own := RX12) (by decide) rfl (Nat.le_of_ble_eq_true rfl) (fun p e s m args below meth c Q ls G hl hw hret => ?_)
  obtain ⟨hx, hb, hml, hown, hts⟩ := G.1
  have hl : lv_has ls 5 [(0, .ref (za Z 0)), (1, .int a1), (2, .int a2)] := hl
  refine lv_aload_n hx hb dX12_rests_0 rfl (lv_at hl 0 rfl) ?_
  refine lv_iload_n hx hb dX12_rests_1 rfl (lv_at hl 1 rfl) ?_
  refine kVi (rest := []) G hw (wX12_isThrower hZ S a1 (F12_isThrower S a1) rfl) cw_X12_87 (m_this hZ) KX12 ⟨Nat.le_of_ble_eq_true rfl, Nat.le_of_ble_eq_true rfl⟩ rfl hl.1 rfl (Nat.le_of_ble_eq_true rfl) ⟨Nat.le_refl _, Nat.le_refl _⟩ dX12_rests_2 (fun H locs hw => ?_)
  refine lv_if_eq (tgt := 19) hx hb dX12_rests_5 (by decide) (fun c_19 => ?_) (fun c_19 => ?_)
  · have hf := (if_pos c_19).symm.trans hf
    refine lv_iconst hx hb dX12_rests_19 ki_m1 ?_
    obtain ⟨e1, e2⟩ := Prod.mk.inj (Option.some.inj hf)
    exact hret _ _ _ _ _ dX12_rests_20 e1 (by rw [← e2]; exact hw)
  · have hf := (if_neg c_19).symm.trans hf
    refine lv_iload_n hx hb dX12_rests_8 rfl (lv_at hl 2 rfl) ?_
    refine lv_iconst hx hb dX12_rests_9 ki_0 ?_
    refine lv_sipush hx hb dX12_rests_10 ks_1000 ?_
    refine kSi (rest := []) G hw (wX12_isIn hZ S a2 0 1000 (F12_isIn a2 0 1000) rfl) cw_X12_71 ⟨Nat.le_of_ble_eq_true rfl, Nat.le_of_ble_eq_true rfl⟩ rfl hl.1 rfl (Nat.le_of_ble_eq_true rfl) ⟨Nat.le_refl _, Nat.le_refl _⟩ dX12_rests_13 (fun H locs hw => ?_)
    refine lv_if_ne (tgt := 21) hx hb dX12_rests_16 (by decide) (fun c_18 => ?_) (fun c_18 => ?_)
    · have hf := (if_neg c_18).symm.trans hf
      refine lv_aload_n hx hb dX12_rests_21 rfl (lv_at hl 0 rfl) ?_
      refine lv_iload_n hx hb dX12_rests_22 rfl (lv_at hl 1 rfl) ?_
      refine lv_iconst hx hb dX12_rests_23 ki_1 ?_
      obtain ⟨r_1, hr_1, hf⟩ := bB_e hf
      refine kVi (rest := []) G hw (wX12_own hZ S a1 1 r_1 hr_1) cw_X12_324 (m_this hZ) KX12 ⟨Nat.le_of_ble_eq_true rfl, Nat.le_of_ble_eq_true rfl⟩ rfl hl.1 rfl (Nat.le_of_ble_eq_true rfl) ⟨Nat.le_refl _, Nat.le_refl _⟩ dX12_rests_24 (fun H locs hw => ?_)
      refine lv_istore_n (lv' := [(3, .int r_1), (0, .ref (za Z 0)), (1, .int a1), (2, .int a2)]) hx hb dX12_rests_27 rfl hl (by decide) rfl (fun ls hl => ?_)
      refine lv_iconst hx hb dX12_rests_28 ki_0 ?_
      refine lv_istore (lv' := [(4, .int 0), (3, .int r_1), (0, .ref (za Z 0)), (1, .int a1), (2, .int a2)]) hx hb dX12_rests_29 hl (by decide) rfl (fun ls hl => ?_)
      obtain ⟨g83_31, ej, hf⟩ := bL_e hf
      have R83_31 : ∀ (l3_2 : Int32) (l4_3 : Int32) (S_4 : pS) (H : Heap) (locs : List Loc) (ls : Array Slot), Wd Z s S_4 H locs → lv_has ls 5 [(2, .int a2), (3, .int l3_2), (4, .int l4_3)] → g83_31 l3_2 l4_3 S_4 = some (r, S2) → W p l e { frames := 6, cells := 0, slots := 0, locals := 134 } s m args below meth c H locs 0 0 Q (F0 m 83 ls []) := by
        intro l3_2 l4_3 S_4 H locs ls hw hl hf
        have hf := (congrFun (congrFun (congrFun ej l3_2) l4_3) S_4).symm.trans hf
        refine lv_iload_n hx hb dX12_rests_83 rfl (lv_at hl 1 rfl) ?_
        refine lv_iload_n hx hb dX12_rests_84 rfl (lv_at hl 0 rfl) ?_
        refine lv_icmp_le (tgt := 92) hx hb dX12_rests_85 (by decide) (fun c_5 => ?_) (fun c_5 => ?_)
        · have hf := (if_pos c_5).symm.trans hf
          refine lv_iload hx hb dX12_rests_92 (lv_at hl 2 rfl) ?_
          obtain ⟨e1, e2⟩ := Prod.mk.inj (Option.some.inj hf)
          exact hret _ _ _ _ _ dX12_rests_94 e1 (by rw [← e2]; exact hw)
        · have hf := (if_neg c_5).symm.trans hf
          refine lv_iconst hx hb dX12_rests_88 ki_m1 ?_
          refine lv_goto (tgt := 94) hx hb dX12_rests_89 (by decide) ?_
          obtain ⟨e1, e2⟩ := Prod.mk.inj (Option.some.inj hf)
          exact hret _ _ _ _ _ dX12_rests_94 e1 (by rw [← e2]; exact hw)
      clear ej
      obtain ⟨b31, eb, hf⟩ := bL_e hf
      have RL31 : ∀ (n : Nat) z, (u3 g83_31) z = some (r, S2) → ∀ (l3_6 : Int32) (l4_7 : Int32) (S_8 : pS) (H : Heap) (locs : List Loc) (ls : Array Slot), Wd Z s S_8 H locs → lv_has ls 5 [(0, .ref (za Z 0)), (1, .int a1), (2, .int a2), (3, .int l3_6), (4, .int l4_7)] → bPn b31 n (l3_6, l4_7, S_8) = some z → W p l e { frames := 6, cells := 0, slots := 0, locals := 134 } s m args below meth c H locs 0 0 Q (F0 m 31 ls []) := by
        intro n
        induction n with
        | zero =>
          intro z hg l3_6 l4_7 S_8 H locs ls hw hl hz
          exact bPn_0 hz
        | succ n ih =>
          intro z hg l3_6 l4_7 S_8 H locs ls hw hl hz
          obtain ⟨q_9, hf, hz⟩ := bPn_e hz
          have hf := u3_e ((congrFun eb _).symm.trans hf)
          refine lv_iload_n hx hb dX12_rests_31 rfl (lv_at hl 3 rfl) ?_
          refine lv_iload_n hx hb dX12_rests_32 rfl (lv_at hl 2 rfl) ?_
          refine lv_icmp_le (tgt := 83) hx hb dX12_rests_33 (by decide) (fun c_17 => ?_) (fun c_17 => ?_)
          · have hf := (if_pos c_17).symm.trans hf
            obtain rfl := Option.some.inj hf
            obtain rfl := Option.some.inj (hz : some _ = some _)
            exact R83_31 _ _ _ _ _ _ hw (lv_sub hl [2, 3, 4] rfl) hg
          · have hf := (if_neg c_17).symm.trans hf
            refine lv_iload hx hb dX12_rests_36 (lv_at hl 4 rfl) ?_
            refine lv_sipush hx hb dX12_rests_38 ks_400 ?_
            refine lv_icmp_ge (tgt := 83) hx hb dX12_rests_41 (by decide) (fun c_16 => ?_) (fun c_16 => ?_)
            · have hf := (if_pos c_16).symm.trans hf
              obtain rfl := Option.some.inj hf
              obtain rfl := Option.some.inj (hz : some _ = some _)
              exact R83_31 _ _ _ _ _ _ hw (lv_sub hl [2, 3, 4] rfl) hg
            · have hf := (if_neg c_16).symm.trans hf
              refine lv_aload_n hx hb dX12_rests_44 rfl (lv_at hl 0 rfl) ?_
              refine lv_iload_n hx hb dX12_rests_45 rfl (lv_at hl 1 rfl) ?_
              refine lv_iconst hx hb dX12_rests_46 ki_0 ?_
              refine lv_iconst hx hb dX12_rests_47 ki_0 ?_
              refine lv_iconst hx hb dX12_rests_48 ki_0 ?_
              refine lv_iload_n hx hb dX12_rests_49 rfl (lv_at hl 3 rfl) ?_
              refine lv_aload_n hx hb dX12_rests_50 rfl (lv_at hl 0 rfl) ?_
              refine lv_iload_n hx hb dX12_rests_51 rfl (lv_at hl 1 rfl) ?_
              refine lv_iconst hx hb dX12_rests_52 ki_3 ?_
              obtain ⟨r_10, hr_10, hf⟩ := bB_e hf
              refine kVi (rest := [.int l3_6, .int 0, .int 0, .int 0, .int a1, .ref (za Z 0)]) G hw (wX12_own hZ S_8 a1 3 r_10 hr_10) cw_X12_324 (m_this hZ) KX12 ⟨Nat.le_of_ble_eq_true rfl, Nat.le_of_ble_eq_true rfl⟩ rfl hl.1 rfl (Nat.le_of_ble_eq_true rfl) ⟨Nat.le_refl _, Nat.le_refl _⟩ dX12_rests_53 (fun H locs hw => ?_)
              obtain ⟨S_11, hS_11, hf⟩ := bB_e hf
              refine kVv (rest := []) G hw (wX12_armFacts hZ S_8 a1 0 0 0 l3_6 r_10 S_11 hS_11) cw_X12_376 (m_this hZ) KX12 ⟨Nat.le_of_ble_eq_true rfl, Nat.le_of_ble_eq_true rfl⟩ rfl hl.1 rfl (Nat.le_of_ble_eq_true rfl) ⟨Nat.le_refl _, Nat.le_refl _⟩ dX12_rests_56 (fun H locs hw => ?_)
              refine lv_iconst hx hb dX12_rests_59 ki_0 ?_
              refine lv_iload_n hx hb dX12_rests_60 rfl (lv_at hl 3 rfl) ?_
              refine lv_aload_n hx hb dX12_rests_61 rfl (lv_at hl 0 rfl) ?_
              refine lv_iconst hx hb dX12_rests_62 ki_1 ?_
              refine lv_bipush hx hb dX12_rests_63 kb_26 ?_
              refine lv_iconst hx hb dX12_rests_65 ki_0 ?_
              refine lv_sipush hx hb dX12_rests_66 ks_1000 ?_
              obtain ⟨r_12, S_13, hr_12, hf⟩ := bB2_e hf
              refine kVi (rest := [.int l3_6, .int 0]) G hw (wX12_lawSays hZ S_11 1 26 0 1000 r_12 S_13 hr_12) cw_X12_327 (m_this hZ) KX12 ⟨Nat.le_of_ble_eq_true rfl, Nat.le_of_ble_eq_true rfl⟩ rfl hl.1 rfl (Nat.le_of_ble_eq_true rfl) ⟨Nat.le_refl _, Nat.le_refl _⟩ dX12_rests_69 (fun H locs hw => ?_)
              refine lv_isub hx hb dX12_rests_72 ?_
              refine kSi (rest := []) G hw (wX12_greater hZ S_13 0 (l3_6 - r_12) (F12_greater 0 (l3_6 - r_12)) rfl) cw_X12_68 ⟨Nat.le_of_ble_eq_true rfl, Nat.le_of_ble_eq_true rfl⟩ rfl hl.1 rfl (Nat.le_of_ble_eq_true rfl) ⟨Nat.le_refl _, Nat.le_refl _⟩ dX12_rests_73 (fun H locs hw => ?_)
              obtain ⟨l3_14, el3_14, hf⟩ := bL_e hf
              refine top_i el3_14 ?_
              refine lv_istore_n (lv' := [(3, .int l3_14), (0, .ref (za Z 0)), (1, .int a1), (2, .int a2), (4, .int l4_7)]) hx hb dX12_rests_76 rfl hl (by decide) rfl (fun ls hl => ?_)
              obtain ⟨l4_15, el4_15, hf⟩ := bL_e hf
              refine lv_iinc (v := l4_15) (lv' := [(4, .int l4_15), (3, .int l3_14), (0, .ref (za Z 0)), (1, .int a1), (2, .int a2)]) hx hb dX12_rests_77 hl (k := 4) rfl (by rw [el4_15]; rfl) (by decide) rfl (fun ls hl => ?_)
              refine lv_goto (tgt := 31) hx hb dX12_rests_80 (by decide) ?_
              obtain rfl := Option.some.inj hf
              exact ih _ hg _ _ _ _ _ _ hw (lv_sub hl [2, 3, 4, 1, 0] rfl) hz
      clear eb
      obtain ⟨z, hz, hf⟩ := bB_e hf
      obtain ⟨n, hz⟩ := bP_e hz
      exact RL31 n z hf _ _ _ _ _ _ hw (lv_sub hl [2, 3, 4, 1, 0] rfl) hz
    · have hf := (if_pos c_18).symm.trans hf
      refine lv_iconst hx hb dX12_rests_19 ki_m1 ?_
      obtain ⟨e1, e2⟩ := Prod.mk.inj (Option.some.inj hf)
      exact hret _ _ _ _ _ dX12_rests_20 e1 (by rw [← e2]; exact hw)
noncomputable def F12_place (S : pS) (a1 : Int32) : Option (Int32) :=
  bL (fun (_ : Unit) =>
    some ((-1) : Int32)) fun g95_2 =>
  bL (fun (l2_1 : Int32) =>
    some l2_1) fun g87_2 =>
  bL (u1 fun (l2_2 : Int32) =>
    if (S 1 68) ≤ l2_2 then
      some (.inr (.inl ()))
    else
      bL (fun (l3_4 : Int32) =>
        if l3_4 = a1 then
          some (.inr (.inr l2_2))
        else
          bL (l2_2 + 1) fun l2_5 =>
          some (.inl l2_5)) fun g82_18 =>
      bL (u2 fun (l3_7 : Int32) (l4_8 : Int32) =>
        if (S 1 68) ≤ l4_8 then
          some (.inr l3_7)
        else
          bB (F12_own S l4_8 2) fun r_10 =>
          bB (F12_own S l2_2 2) fun r_11 =>
          bL (fun (t_12 : Int32) =>
            bL (l3_7 + t_12) fun l3_13 =>
            bL (l4_8 + 1) fun l4_14 =>
            some (.inl (l3_13, l4_14))) fun j74 =>
          bL (fun (_ : Unit) =>
            j74 1) fun j69 =>
          if r_11 < r_10 then
            j69 ()
          else
            bB (F12_own S l4_8 2) fun r_15 =>
            bB (F12_own S l2_2 2) fun r_16 =>
            bL (fun (_ : Unit) =>
              j74 0) fun j73 =>
            if r_15 = r_16 then
              if l2_2 ≤ l4_8 then
                j73 ()
              else
                j69 ()
            else
              j73 ()) fun b18 =>
      bB (bP b18 ((0 : Int32), (0 : Int32))) (u1 g82_18)) fun b2 =>
  bB (bP b2 (0 : Int32)) (Sum.elim ((fun (_ : Unit) => g95_2 ())) (u1 g87_2))
set_option maxRecDepth 100000 in
set_option maxHeartbeats 4000000 in
theorem wX12_place {l : Launch} {Z : pZ}  (hZ : CM Z) (S : pS) (a1 : Int32) (r : Int32)  (hf : F12_place S a1 = some r) : CI l Z yX12_place cX12_place 5 .int 4 82 [.ref (za Z 0), .int a1] S r S := by
  unfold F12_place at hf
  refine eI (own := RX12) (by decide) rfl (Nat.le_of_ble_eq_true rfl) (fun p e s m args below meth c Q ls G hl hw hret => ?_)
  obtain ⟨hx, hb, hml, hown, hts⟩ := G.1
  have hl : lv_has ls 5 [(0, .ref (za Z 0)), (1, .int a1)] := hl
  refine lv_iconst hx hb dX12_place_0 ki_0 ?_
  refine lv_istore_n (lv' := [(2, .int 0), (0, .ref (za Z 0)), (1, .int a1)]) hx hb dX12_place_1 rfl hl (by decide) rfl (fun ls hl => ?_)
  obtain ⟨g95_2, ej, hf⟩ := bL_e hf
  have R95_2 : ∀ (H : Heap) (locs : List Loc) (ls : Array Slot), Wd Z s S H locs → lv_has ls 5 [] → g95_2 () = some r → W p l e { frames := 4, cells := 0, slots := 0, locals := 82 } s m args below meth c H locs 0 0 Q (F0 m 95 ls []) := by
    intro  H locs ls hw hl hf
    have hf := (congrFun ej ()).symm.trans hf
    refine lv_iconst hx hb dX12_place_95 ki_m1 ?_
    exact hret _ _ _ _ _ dX12_place_96 (Option.some.inj hf) hw
  clear ej
  obtain ⟨g87_2, ej, hf⟩ := bL_e hf
  have R87_2 : ∀ (l2_1 : Int32) (H : Heap) (locs : List Loc) (ls : Array Slot), Wd Z s S H locs → lv_has ls 5 [(2, .int l2_1)] → g87_2 l2_1 = some r → W p l e { frames := 4, cells := 0, slots := 0, locals := 82 } s m args below meth c H locs 0 0 Q (F0 m 87 ls []) := by
    intro l2_1 H locs ls hw hl hf
    have hf := (congrFun ej l2_1).symm.trans hf
    refine lv_iload_n hx hb dX12_place_87 rfl (lv_at hl 0 rfl) ?_
    exact hret _ _ _ _ _ dX12_place_88 (Option.some.inj hf) hw
  clear ej
  obtain ⟨b2, eb, hf⟩ := bL_e hf
  have RL2 : ∀ (n : Nat) z, (Sum.elim ((fun (_ : Unit) => g95_2 ())) (u1 g87_2)) z = some r → ∀ (l2_2 : Int32) (H : Heap) (locs : List Loc) (ls : Array Slot), Wd Z s S H locs → lv_has ls 5 [(0, .ref (za Z 0)), (1, .int a1), (2, .int l2_2)] → bPn b2 n l2_2 = some z → W p l e { frames := 4, cells := 0, slots := 0, locals := 82 } s m args below meth c H locs 0 0 Q (F0 m 2 ls []) := by
    intro n
    induction n with
    | zero =>
      intro z hg l2_2 H locs ls hw hl hz
      exact bPn_0 hz
    | succ n ih =>
      intro z hg l2_2 H locs ls hw hl hz
      obtain ⟨q_3, hf, hz⟩ := bPn_e hz
      have hf := u1_e ((congrFun eb _).symm.trans hf)
      refine lv_iload_n hx hb dX12_place_2 rfl (lv_at hl 2 rfl) ?_
      refine lv_aload_n hx hb dX12_place_3 rfl (lv_at hl 0 rfl) ?_
      refine gF G hw (m_this hZ) KX12 0 (k2 := 1) rfl (by decide) rfl fl_X12_7 dX12_place_4 ?_
      refine lv_bipush hx hb dX12_place_7 kb_68 ?_
      refine aI G hw (m_w hZ) (vin_e (by decide)) (j := 68) (by decide) dX12_place_9 ?_
      refine lv_icmp_ge (tgt := 95) hx hb dX12_place_10 (by decide) (fun c_21 => ?_) (fun c_21 => ?_)
      · have hf := (if_pos c_21).symm.trans hf
        obtain rfl := Option.some.inj hf
        obtain rfl := Option.some.inj (hz : some _ = some _)
        exact R95_2 _ _ _ hw (lv_sub hl [] rfl) hg
      · have hf := (if_neg c_21).symm.trans hf
        refine lv_iconst hx hb dX12_place_13 ki_0 ?_
        refine lv_istore_n (lv' := [(3, .int 0), (0, .ref (za Z 0)), (1, .int a1), (2, .int l2_2)]) hx hb dX12_place_14 rfl hl (by decide) rfl (fun ls hl => ?_)
        refine lv_iconst hx hb dX12_place_15 ki_0 ?_
        refine lv_istore (lv' := [(4, .int 0), (3, .int 0), (0, .ref (za Z 0)), (1, .int a1), (2, .int l2_2)]) hx hb dX12_place_16 hl (by decide) rfl (fun ls hl => ?_)
        obtain ⟨g82_18, ej, hf⟩ := bL_e hf
        have R82_18 : ∀ (l3_4 : Int32) (H : Heap) (locs : List Loc) (ls : Array Slot), Wd Z s S H locs → lv_has ls 5 [(0, .ref (za Z 0)), (1, .int a1), (2, .int l2_2), (3, .int l3_4)] → g82_18 l3_4 = some q_3 → W p l e { frames := 4, cells := 0, slots := 0, locals := 82 } s m args below meth c H locs 0 0 Q (F0 m 82 ls []) := by
          intro l3_4 H locs ls hw hl hf
          have hf := (congrFun ej l3_4).symm.trans hf
          refine lv_iload_n hx hb dX12_place_82 rfl (lv_at hl 3 rfl) ?_
          refine lv_iload_n hx hb dX12_place_83 rfl (lv_at hl 1 rfl) ?_
          refine lv_icmp_ne (tgt := 89) hx hb dX12_place_84 (by decide) (fun c_6 => ?_) (fun c_6 => ?_)
          · have hf := (if_neg c_6).symm.trans hf
            obtain ⟨l2_5, el2_5, hf⟩ := bL_e hf
            refine lv_iinc (v := l2_5) (lv' := [(2, .int l2_5), (0, .ref (za Z 0)), (1, .int a1), (3, .int l3_4)]) hx hb dX12_place_89 hl (k := 2) rfl (by rw [el2_5]; rfl) (by decide) rfl (fun ls hl => ?_)
            refine lv_goto (tgt := 2) hx hb dX12_place_92 (by decide) ?_
            obtain rfl := Option.some.inj hf
            exact ih _ hg _ _ _ _ hw (lv_sub hl [1, 2, 0] rfl) hz
          · have hf := (if_pos c_6).symm.trans hf
            obtain rfl := Option.some.inj hf
            obtain rfl := Option.some.inj (hz : some _ = some _)
            exact R87_2 _ _ _ _ hw (lv_sub hl [2] rfl) hg
        clear ej
        obtain ⟨b18, eb, hf⟩ := bL_e hf
        have RL18 : ∀ (n : Nat) z, (u1 g82_18) z = some q_3 → ∀ (l3_7 : Int32) (l4_8 : Int32) (H : Heap) (locs : List Loc) (ls : Array Slot), Wd Z s S H locs → lv_has ls 5 [(0, .ref (za Z 0)), (1, .int a1), (2, .int l2_2), (3, .int l3_7), (4, .int l4_8)] → bPn b18 n (l3_7, l4_8) = some z → W p l e { frames := 4, cells := 0, slots := 0, locals := 82 } s m args below meth c H locs 0 0 Q (F0 m 18 ls []) := by
          intro n
          induction n with
          | zero =>
            intro z hg l3_7 l4_8 H locs ls hw hl hz
            exact bPn_0 hz
          | succ n ih =>
            intro z hg l3_7 l4_8 H locs ls hw hl hz
            obtain ⟨q_9, hf, hz⟩ := bPn_e hz
            have hf := u2_e ((congrFun eb _).symm.trans hf)
            refine lv_iload hx hb dX12_place_18 (lv_at hl 4 rfl) ?_
            refine lv_aload_n hx hb dX12_place_20 rfl (lv_at hl 0 rfl) ?_
            refine gF G hw (m_this hZ) KX12 0 (k2 := 1) rfl (by decide) rfl fl_X12_7 dX12_place_21 ?_
            refine lv_bipush hx hb dX12_place_24 kb_68 ?_
            refine aI G hw (m_w hZ) (vin_e (by decide)) (j := 68) (by decide) dX12_place_26 ?_
            refine lv_icmp_ge (tgt := 82) hx hb dX12_place_27 (by decide) (fun c_20 => ?_) (fun c_20 => ?_)
            · have hf := (if_pos c_20).symm.trans hf
              obtain rfl := Option.some.inj hf
              obtain rfl := Option.some.inj (hz : some _ = some _)
              exact R82_18 _ _ _ _ hw (lv_sub hl [0, 1, 2, 3] rfl) hg
            · have hf := (if_neg c_20).symm.trans hf
              refine lv_iload_n hx hb dX12_place_30 rfl (lv_at hl 3 rfl) ?_
              refine lv_aload_n hx hb dX12_place_31 rfl (lv_at hl 0 rfl) ?_
              refine lv_iload hx hb dX12_place_32 (lv_at hl 4 rfl) ?_
              refine lv_iconst hx hb dX12_place_34 ki_2 ?_
              obtain ⟨r_10, hr_10, hf⟩ := bB_e hf
              refine kVi (rest := [.int l3_7]) G hw (wX12_own hZ S l4_8 2 r_10 hr_10) cw_X12_324 (m_this hZ) KX12 ⟨Nat.le_of_ble_eq_true rfl, Nat.le_of_ble_eq_true rfl⟩ rfl hl.1 rfl (Nat.le_of_ble_eq_true rfl) ⟨Nat.le_refl _, Nat.le_refl _⟩ dX12_place_35 (fun H locs hw => ?_)
              refine lv_aload_n hx hb dX12_place_38 rfl (lv_at hl 0 rfl) ?_
              refine lv_iload_n hx hb dX12_place_39 rfl (lv_at hl 2 rfl) ?_
              refine lv_iconst hx hb dX12_place_40 ki_2 ?_
              obtain ⟨r_11, hr_11, hf⟩ := bB_e hf
              refine kVi (rest := [.int r_10, .int l3_7]) G hw (wX12_own hZ S l2_2 2 r_11 hr_11) cw_X12_324 (m_this hZ) KX12 ⟨Nat.le_of_ble_eq_true rfl, Nat.le_of_ble_eq_true rfl⟩ rfl hl.1 rfl (Nat.le_of_ble_eq_true rfl) ⟨Nat.le_refl _, Nat.le_refl _⟩ dX12_place_41 (fun H locs hw => ?_)
              obtain ⟨j74, ej, hf⟩ := bL_e hf
              have R74 : ∀ (t_12 : Int32) (H : Heap) (locs : List Loc) (ls : Array Slot), Wd Z s S H locs → lv_has ls 5 [(0, .ref (za Z 0)), (1, .int a1), (2, .int l2_2), (4, .int l4_8)] → j74 t_12 = some q_9 → W p l e { frames := 4, cells := 0, slots := 0, locals := 82 } s m args below meth c H locs 0 0 Q (F0 m 74 ls [.int t_12, .int l3_7]) := by
                intro t_12 H locs ls hw hl hf
                have hf := (congrFun ej t_12).symm.trans hf
                refine lv_iadd hx hb dX12_place_74 ?_
                obtain ⟨l3_13, el3_13, hf⟩ := bL_e hf
                refine top_i el3_13 ?_
                refine lv_istore_n (lv' := [(3, .int l3_13), (0, .ref (za Z 0)), (1, .int a1), (2, .int l2_2), (4, .int l4_8)]) hx hb dX12_place_75 rfl hl (by decide) rfl (fun ls hl => ?_)
                obtain ⟨l4_14, el4_14, hf⟩ := bL_e hf
                refine lv_iinc (v := l4_14) (lv' := [(4, .int l4_14), (3, .int l3_13), (0, .ref (za Z 0)), (1, .int a1), (2, .int l2_2)]) hx hb dX12_place_76 hl (k := 4) rfl (by rw [el4_14]; rfl) (by decide) rfl (fun ls hl => ?_)
                refine lv_goto (tgt := 18) hx hb dX12_place_79 (by decide) ?_
                obtain rfl := Option.some.inj hf
                exact ih _ hg _ _ _ _ _ hw (lv_sub hl [2, 3, 4, 1, 0] rfl) hz
              clear ej
              obtain ⟨j69, ej, hf⟩ := bL_e hf
              have R69 : ∀ (H : Heap) (locs : List Loc) (ls : Array Slot), Wd Z s S H locs → lv_has ls 5 [(0, .ref (za Z 0)), (1, .int a1), (2, .int l2_2), (4, .int l4_8)] → j69 () = some q_9 → W p l e { frames := 4, cells := 0, slots := 0, locals := 82 } s m args below meth c H locs 0 0 Q (F0 m 69 ls [.int l3_7]) := by
                intro  H locs ls hw hl hf
                have hf := (congrFun ej ()).symm.trans hf
                refine lv_iconst hx hb dX12_place_69 ki_1 ?_
                refine lv_goto (tgt := 74) hx hb dX12_place_70 (by decide) ?_
                exact R74 _ _ _ _ hw (lv_sub hl [0, 1, 2, 3] rfl) hf
              clear ej
              refine lv_icmp_gt (tgt := 69) hx hb dX12_place_44 (by decide) (fun c_19 => ?_) (fun c_19 => ?_)
              · have hf := (if_pos c_19).symm.trans hf
                exact R69 _ _ _ hw (lv_sub hl [0, 1, 2, 4] rfl) hf
              · have hf := (if_neg c_19).symm.trans hf
                refine lv_aload_n hx hb dX12_place_47 rfl (lv_at hl 0 rfl) ?_
                refine lv_iload hx hb dX12_place_48 (lv_at hl 4 rfl) ?_
                refine lv_iconst hx hb dX12_place_50 ki_2 ?_
                obtain ⟨r_15, hr_15, hf⟩ := bB_e hf
                refine kVi (rest := [.int l3_7]) G hw (wX12_own hZ S l4_8 2 r_15 hr_15) cw_X12_324 (m_this hZ) KX12 ⟨Nat.le_of_ble_eq_true rfl, Nat.le_of_ble_eq_true rfl⟩ rfl hl.1 rfl (Nat.le_of_ble_eq_true rfl) ⟨Nat.le_refl _, Nat.le_refl _⟩ dX12_place_51 (fun H locs hw => ?_)
                refine lv_aload_n hx hb dX12_place_54 rfl (lv_at hl 0 rfl) ?_
                refine lv_iload_n hx hb dX12_place_55 rfl (lv_at hl 2 rfl) ?_
                refine lv_iconst hx hb dX12_place_56 ki_2 ?_
                obtain ⟨r_16, hr_16, hf⟩ := bB_e hf
                refine kVi (rest := [.int r_15, .int l3_7]) G hw (wX12_own hZ S l2_2 2 r_16 hr_16) cw_X12_324 (m_this hZ) KX12 ⟨Nat.le_of_ble_eq_true rfl, Nat.le_of_ble_eq_true rfl⟩ rfl hl.1 rfl (Nat.le_of_ble_eq_true rfl) ⟨Nat.le_refl _, Nat.le_refl _⟩ dX12_place_57 (fun H locs hw => ?_)
                obtain ⟨j73, ej, hf⟩ := bL_e hf
                have R73 : ∀ (H : Heap) (locs : List Loc) (ls : Array Slot), Wd Z s S H locs → lv_has ls 5 [(0, .ref (za Z 0)), (1, .int a1), (2, .int l2_2), (4, .int l4_8)] → j73 () = some q_9 → W p l e { frames := 4, cells := 0, slots := 0, locals := 82 } s m args below meth c H locs 0 0 Q (F0 m 73 ls [.int l3_7]) := by
                  intro  H locs ls hw hl hf
                  have hf := (congrFun ej ()).symm.trans hf
                  refine lv_iconst hx hb dX12_place_73 ki_0 ?_
                  exact R74 _ _ _ _ hw (lv_sub hl [0, 1, 2, 3] rfl) hf
                clear ej
                refine lv_icmp_ne (tgt := 73) hx hb dX12_place_60 (by decide) (fun c_18 => ?_) (fun c_18 => ?_)
                · have hf := (if_neg c_18).symm.trans hf
                  exact R73 _ _ _ hw (lv_sub hl [0, 1, 2, 4] rfl) hf
                · have hf := (if_pos c_18).symm.trans hf
                  refine lv_iload hx hb dX12_place_63 (lv_at hl 4 rfl) ?_
                  refine lv_iload_n hx hb dX12_place_65 rfl (lv_at hl 2 rfl) ?_
                  refine lv_icmp_ge (tgt := 73) hx hb dX12_place_66 (by decide) (fun c_17 => ?_) (fun c_17 => ?_)
                  · have hf := (if_pos c_17).symm.trans hf
                    exact R73 _ _ _ hw (lv_sub hl [0, 1, 2, 4] rfl) hf
                  · have hf := (if_neg c_17).symm.trans hf
                    exact R69 _ _ _ hw (lv_sub hl [0, 1, 2, 4] rfl) hf
        clear eb
        obtain ⟨z, hz, hf⟩ := bB_e hf
        obtain ⟨n, hz⟩ := bP_e hz
        exact RL18 n z hf _ _ _ _ _ hw (lv_sub hl [2, 3, 4, 1, 0] rfl) hz
  clear eb
  obtain ⟨z, hz, hf⟩ := bB_e hf
  obtain ⟨n, hz⟩ := bP_e hz
  exact RL2 n z hf _ _ _ _ hw (lv_sub hl [1, 2, 0] rfl) hz
noncomputable def F12_after (S : pS) (a1 : Int32) (a2 : Int32) : Option (Int32) :=
  if (F12_isThrower S a1) = 0 then
    some ((-1) : Int32)
  else
    if (F12_isIn a2 0 6) = 0 then
      some ((-1) : Int32)
    else
      bL (fun (l3_1 : Int32) =>
        some l3_1) fun g124_25 =>
      bL (u2 fun (l3_2 : Int32) (l4_3 : Int32) =>
        if (S 1 2) ≤ l4_3 then
          some (.inr l3_2)
        else
          bL (3296 + (10 * l4_3)) fun l5_5 =>
          bG (vp_in l5_5 4296) <|
          bL (fun (l3_6 : Int32) =>
            bL (l4_3 + 1) fun l4_7 =>
            some (.inl (l3_6, l4_7))) fun j118 =>
          if (S 1 l5_5.toNatClampNeg) = (S 1 66) then
            bG (vp_in (l5_5 + 2) 4296) <|
            if (S 1 ((l5_5 + 2).toNatClampNeg)) = a1 then
              bG (vp_in (l5_5 + 8) 4296) <|
              if (S 1 ((l5_5 + 8).toNatClampNeg)) = 0 then
                bG (vp_in (l5_5 + 1) 4296) <|
                if a2 ≤ (S 1 ((l5_5 + 1).toNatClampNeg)) then
                  j118 l3_2
                else
                  bG (vp_in (l5_5 + 7) 4296) <|
                  bL (F12_greater l3_2 (S 1 ((l5_5 + 7).toNatClampNeg))) fun l3_8 =>
                  j118 l3_8
              else
                j118 l3_2
            else
              j118 l3_2
          else
            j118 l3_2) fun b25 =>
      bB (bP b25 ((0 : Int32), (0 : Int32))) (u1 g124_25)
set_option maxRecDepth 100000 in
set_option maxHeartbeats 4000000 in
theorem wX12_after {l : Launch} {Z : pZ}  (hZ : CM Z) (S : pS) (a1 : Int32) (a2 : Int32) (r : Int32)  (hf : F12_after S a1 a2 = some r) : CI l Z yX12_after cX12_after 6 .int 5 103 [.ref (za Z 0), .int a1, .int a2] S r S := by
  unfold F12_after at hf
  refine eI (own := RX12) (by decide) rfl (Nat.le_of_ble_eq_true rfl) (fun p e s m args below meth c Q ls G hl hw hret => ?_)
  obtain ⟨hx, hb, hml, hown, hts⟩ := G.1
  have hl : lv_has ls 6 [(0, .ref (za Z 0)), (1, .int a1), (2, .int a2)] := hl
  refine lv_aload_n hx hb dX12_after_0 rfl (lv_at hl 0 rfl) ?_
  refine lv_iload_n hx hb dX12_after_1 rfl (lv_at hl 1 rfl) ?_
  refine kVi (rest := []) G hw (wX12_isThrower hZ S a1 (F12_isThrower S a1) rfl) cw_X12_87 (m_this hZ) KX12 ⟨Nat.le_of_ble_eq_true rfl, Nat.le_of_ble_eq_true rfl⟩ rfl hl.1 rfl (Nat.le_of_ble_eq_true rfl) ⟨Nat.le_refl _, Nat.le_refl _⟩ dX12_after_2 (fun H locs hw => ?_)
  refine lv_if_eq (tgt := 18) hx hb dX12_after_5 (by decide) (fun c_15 => ?_) (fun c_15 => ?_)
  · have hf := (if_pos c_15).symm.trans hf
    refine lv_iconst hx hb dX12_after_18 ki_m1 ?_
    exact hret _ _ _ _ _ dX12_after_19 (Option.some.inj hf) hw
  · have hf := (if_neg c_15).symm.trans hf
    refine lv_iload_n hx hb dX12_after_8 rfl (lv_at hl 2 rfl) ?_
    refine lv_iconst hx hb dX12_after_9 ki_0 ?_
    refine lv_bipush hx hb dX12_after_10 kb_6 ?_
    refine kSi (rest := []) G hw (wX12_isIn hZ S a2 0 6 (F12_isIn a2 0 6) rfl) cw_X12_71 ⟨Nat.le_of_ble_eq_true rfl, Nat.le_of_ble_eq_true rfl⟩ rfl hl.1 rfl (Nat.le_of_ble_eq_true rfl) ⟨Nat.le_refl _, Nat.le_refl _⟩ dX12_after_12 (fun H locs hw => ?_)
    refine lv_if_ne (tgt := 20) hx hb dX12_after_15 (by decide) (fun c_14 => ?_) (fun c_14 => ?_)
    · have hf := (if_neg c_14).symm.trans hf
      refine lv_iconst hx hb dX12_after_20 ki_0 ?_
      refine lv_istore_n (lv' := [(3, .int 0), (0, .ref (za Z 0)), (1, .int a1), (2, .int a2)]) hx hb dX12_after_21 rfl hl (by decide) rfl (fun ls hl => ?_)
      refine lv_iconst hx hb dX12_after_22 ki_0 ?_
      refine lv_istore (lv' := [(4, .int 0), (3, .int 0), (0, .ref (za Z 0)), (1, .int a1), (2, .int a2)]) hx hb dX12_after_23 hl (by decide) rfl (fun ls hl => ?_)
      obtain ⟨g124_25, ej, hf⟩ := bL_e hf
      have R124_25 : ∀ (l3_1 : Int32) (H : Heap) (locs : List Loc) (ls : Array Slot), Wd Z s S H locs → lv_has ls 6 [(3, .int l3_1)] → g124_25 l3_1 = some r → W p l e { frames := 5, cells := 0, slots := 0, locals := 103 } s m args below meth c H locs 0 0 Q (F0 m 124 ls []) := by
        intro l3_1 H locs ls hw hl hf
        have hf := (congrFun ej l3_1).symm.trans hf
        refine lv_iload_n hx hb dX12_after_124 rfl (lv_at hl 0 rfl) ?_
        exact hret _ _ _ _ _ dX12_after_125 (Option.some.inj hf) hw
      clear ej
      obtain ⟨b25, eb, hf⟩ := bL_e hf
      have RL25 : ∀ (n : Nat) z, (u1 g124_25) z = some r → ∀ (l3_2 : Int32) (l4_3 : Int32) (H : Heap) (locs : List Loc) (ls : Array Slot), Wd Z s S H locs → lv_has ls 6 [(0, .ref (za Z 0)), (1, .int a1), (2, .int a2), (3, .int l3_2), (4, .int l4_3)] → bPn b25 n (l3_2, l4_3) = some z → W p l e { frames := 5, cells := 0, slots := 0, locals := 103 } s m args below meth c H locs 0 0 Q (F0 m 25 ls []) := by
        intro n
        induction n with
        | zero =>
          intro z hg l3_2 l4_3 H locs ls hw hl hz
          exact bPn_0 hz
        | succ n ih =>
          intro z hg l3_2 l4_3 H locs ls hw hl hz
          obtain ⟨q_4, hf, hz⟩ := bPn_e hz
          have hf := u2_e ((congrFun eb _).symm.trans hf)
          refine lv_iload hx hb dX12_after_25 (lv_at hl 4 rfl) ?_
          refine lv_aload_n hx hb dX12_after_27 rfl (lv_at hl 0 rfl) ?_
          refine gF G hw (m_this hZ) KX12 0 (k2 := 1) rfl (by decide) rfl fl_X12_7 dX12_after_28 ?_
          refine lv_iconst hx hb dX12_after_31 ki_2 ?_
          refine aI G hw (m_w hZ) (vin_e (by decide)) (j := 2) (by decide) dX12_after_32 ?_
          refine lv_icmp_ge (tgt := 124) hx hb dX12_after_33 (by decide) (fun c_13 => ?_) (fun c_13 => ?_)
          · have hf := (if_pos c_13).symm.trans hf
            obtain rfl := Option.some.inj hf
            obtain rfl := Option.some.inj (hz : some _ = some _)
            exact R124_25 _ _ _ _ hw (lv_sub hl [3] rfl) hg
          · have hf := (if_neg c_13).symm.trans hf
            refine lv_sipush hx hb dX12_after_36 ks_3296 ?_
            refine lv_bipush hx hb dX12_after_39 kb_10 ?_
            refine lv_iload hx hb dX12_after_41 (lv_at hl 4 rfl) ?_
            refine lv_imul hx hb dX12_after_43 ?_
            refine lv_iadd hx hb dX12_after_44 ?_
            obtain ⟨l5_5, el5_5, hf⟩ := bL_e hf
            refine top_i el5_5 ?_
            refine lv_istore (lv' := [(5, .int l5_5), (0, .ref (za Z 0)), (1, .int a1), (2, .int a2), (3, .int l3_2), (4, .int l4_3)]) hx hb dX12_after_45 hl (by decide) rfl (fun ls hl => ?_)
            refine lv_aload_n hx hb dX12_after_47 rfl (lv_at hl 1 rfl) ?_
            refine gF G hw (m_this hZ) KX12 0 (k2 := 1) rfl (by decide) rfl fl_X12_7 dX12_after_48 ?_
            refine lv_iload hx hb dX12_after_51 (lv_at hl 0 rfl) ?_
            obtain ⟨hg1, hf⟩ := bG_e hf
            refine aI G hw (m_w hZ) hg1 (j := l5_5.toNatClampNeg) rfl dX12_after_53 ?_
            refine lv_aload_n hx hb dX12_after_54 rfl (lv_at hl 1 rfl) ?_
            refine gF G hw (m_this hZ) KX12 0 (k2 := 1) rfl (by decide) rfl fl_X12_7 dX12_after_55 ?_
            refine lv_bipush hx hb dX12_after_58 kb_66 ?_
            refine aI G hw (m_w hZ) (vin_e (by decide)) (j := 66) (by decide) dX12_after_60 ?_
            obtain ⟨j118, ej, hf⟩ := bL_e hf
            have R118 : ∀ (l3_6 : Int32) (H : Heap) (locs : List Loc) (ls : Array Slot), Wd Z s S H locs → lv_has ls 6 [(0, .ref (za Z 0)), (1, .int a1), (2, .int a2), (3, .int l3_6), (4, .int l4_3)] → j118 l3_6 = some q_4 → W p l e { frames := 5, cells := 0, slots := 0, locals := 103 } s m args below meth c H locs 0 0 Q (F0 m 118 ls []) := by
              intro l3_6 H locs ls hw hl hf
              have hf := (congrFun ej l3_6).symm.trans hf
              obtain ⟨l4_7, el4_7, hf⟩ := bL_e hf
              refine lv_iinc (v := l4_7) (lv' := [(4, .int l4_7), (0, .ref (za Z 0)), (1, .int a1), (2, .int a2), (3, .int l3_6)]) hx hb dX12_after_118 hl (k := 4) rfl (by rw [el4_7]; rfl) (by decide) rfl (fun ls hl => ?_)
              refine lv_goto (tgt := 25) hx hb dX12_after_121 (by decide) ?_
              obtain rfl := Option.some.inj hf
              exact ih _ hg _ _ _ _ _ hw (lv_sub hl [1, 2, 3, 4, 0] rfl) hz
            clear ej
            refine lv_icmp_ne (tgt := 118) hx hb dX12_after_61 (by decide) (fun c_12 => ?_) (fun c_12 => ?_)
            · have hf := (if_neg c_12).symm.trans hf
              exact R118 _ _ _ _ hw (lv_sub hl [1, 2, 3, 4, 5] rfl) hf
            · have hf := (if_pos c_12).symm.trans hf
              refine lv_aload_n hx hb dX12_after_64 rfl (lv_at hl 1 rfl) ?_
              refine gF G hw (m_this hZ) KX12 0 (k2 := 1) rfl (by decide) rfl fl_X12_7 dX12_after_65 ?_
              refine lv_iload hx hb dX12_after_68 (lv_at hl 0 rfl) ?_
              refine lv_iconst hx hb dX12_after_70 ki_2 ?_
              refine lv_iadd hx hb dX12_after_71 ?_
              obtain ⟨hg1, hf⟩ := bG_e hf
              refine aI G hw (m_w hZ) hg1 (j := (l5_5 + 2).toNatClampNeg) rfl dX12_after_72 ?_
              refine lv_iload_n hx hb dX12_after_73 rfl (lv_at hl 2 rfl) ?_
              refine lv_icmp_ne (tgt := 118) hx hb dX12_after_74 (by decide) (fun c_11 => ?_) (fun c_11 => ?_)
              · have hf := (if_neg c_11).symm.trans hf
                exact R118 _ _ _ _ hw (lv_sub hl [1, 2, 3, 4, 5] rfl) hf
              · have hf := (if_pos c_11).symm.trans hf
                refine lv_aload_n hx hb dX12_after_77 rfl (lv_at hl 1 rfl) ?_
                refine gF G hw (m_this hZ) KX12 0 (k2 := 1) rfl (by decide) rfl fl_X12_7 dX12_after_78 ?_
                refine lv_iload hx hb dX12_after_81 (lv_at hl 0 rfl) ?_
                refine lv_bipush hx hb dX12_after_83 kb_8 ?_
                refine lv_iadd hx hb dX12_after_85 ?_
                obtain ⟨hg1, hf⟩ := bG_e hf
                refine aI G hw (m_w hZ) hg1 (j := (l5_5 + 8).toNatClampNeg) rfl dX12_after_86 ?_
                refine lv_if_ne (tgt := 118) hx hb dX12_after_87 (by decide) (fun c_10 => ?_) (fun c_10 => ?_)
                · have hf := (if_neg c_10).symm.trans hf
                  exact R118 _ _ _ _ hw (lv_sub hl [1, 2, 3, 4, 5] rfl) hf
                · have hf := (if_pos c_10).symm.trans hf
                  refine lv_aload_n hx hb dX12_after_90 rfl (lv_at hl 1 rfl) ?_
                  refine gF G hw (m_this hZ) KX12 0 (k2 := 1) rfl (by decide) rfl fl_X12_7 dX12_after_91 ?_
                  refine lv_iload hx hb dX12_after_94 (lv_at hl 0 rfl) ?_
                  refine lv_iconst hx hb dX12_after_96 ki_1 ?_
                  refine lv_iadd hx hb dX12_after_97 ?_
                  obtain ⟨hg1, hf⟩ := bG_e hf
                  refine aI G hw (m_w hZ) hg1 (j := (l5_5 + 1).toNatClampNeg) rfl dX12_after_98 ?_
                  refine lv_iload_n hx hb dX12_after_99 rfl (lv_at hl 3 rfl) ?_
                  refine lv_icmp_ge (tgt := 118) hx hb dX12_after_100 (by decide) (fun c_9 => ?_) (fun c_9 => ?_)
                  · have hf := (if_pos c_9).symm.trans hf
                    exact R118 _ _ _ _ hw (lv_sub hl [1, 2, 3, 4, 5] rfl) hf
                  · have hf := (if_neg c_9).symm.trans hf
                    refine lv_iload_n hx hb dX12_after_103 rfl (lv_at hl 4 rfl) ?_
                    refine lv_aload_n hx hb dX12_after_104 rfl (lv_at hl 1 rfl) ?_
                    refine gF G hw (m_this hZ) KX12 0 (k2 := 1) rfl (by decide) rfl fl_X12_7 dX12_after_105 ?_
                    refine lv_iload hx hb dX12_after_108 (lv_at hl 0 rfl) ?_
                    refine lv_bipush hx hb dX12_after_110 kb_7 ?_
                    refine lv_iadd hx hb dX12_after_112 ?_
                    obtain ⟨hg1, hf⟩ := bG_e hf
                    refine aI G hw (m_w hZ) hg1 (j := (l5_5 + 7).toNatClampNeg) rfl dX12_after_113 ?_
                    refine kSi (rest := []) G hw (wX12_greater hZ S l3_2 (S 1 ((l5_5 + 7).toNatClampNeg)) (F12_greater l3_2 (S 1 ((l5_5 + 7).toNatClampNeg))) rfl) cw_X12_68 ⟨Nat.le_of_ble_eq_true rfl, Nat.le_of_ble_eq_true rfl⟩ rfl hl.1 rfl (Nat.le_of_ble_eq_true rfl) ⟨Nat.le_refl _, Nat.le_refl _⟩ dX12_after_114 (fun H locs hw => ?_)
                    obtain ⟨l3_8, el3_8, hf⟩ := bL_e hf
                    refine top_i el3_8 ?_
                    refine lv_istore_n (lv' := [(3, .int l3_8), (5, .int l5_5), (0, .ref (za Z 0)), (1, .int a1), (2, .int a2), (4, .int l4_3)]) hx hb dX12_after_117 rfl hl (by decide) rfl (fun ls hl => ?_)
                    exact R118 _ _ _ _ hw (lv_sub hl [2, 3, 4, 0, 5] rfl) hf
      clear eb
      obtain ⟨z, hz, hf⟩ := bB_e hf
      obtain ⟨n, hz⟩ := bP_e hz
      exact RL25 n z hf _ _ _ _ _ hw (lv_sub hl [2, 3, 4, 1, 0] rfl) hz
    · have hf := (if_pos c_14).symm.trans hf
      refine lv_iconst hx hb dX12_after_18 ki_m1 ?_
      exact hret _ _ _ _ _ dX12_after_19 (Option.some.inj hf) hw
noncomputable def F12_isMeant (S : pS) : Option (pS) :=
  bL (S 1 1) fun l1_1 =>
  bB (F12_own S l1_1 4) fun r_2 =>
  bL ((150 + (60 * l1_1)) + (5 * r_2)) fun l3_3 =>
  bB (F12_passesBy S l1_1 r_2 l3_3) fun r_4 =>
  bL (fun (S_5 : pS) =>
    bG (vp_in (82 + l1_1) 4296) <|
    bL (fun (S_6 : pS) =>
      bL (F12_nextTurn S_6) fun S_7 =>
      some S_7) fun j199 =>
    if (S_5 1 ((82 + l1_1).toNatClampNeg)) ≤ r_2 then
      j199 S_5
    else
      bB (F12_gives S_5 l1_1 4 (r_2 + 1)) fun S_8 =>
      j199 S_8) fun j177 =>
  if r_4 = 0 then
    bG (vp_in l3_3 4296) <|
    bG (vp_in (l3_3 + 3) 4296) <|
    bB (F12_own S l1_1 0) fun r_10 =>
    bL (F12_lesser ((S 1 l3_3.toNatClampNeg) + (S 1 ((l3_3 + 3).toNatClampNeg))) r_10) fun l4_11 =>
    bG (vp_in (l3_3 + 3) 4296) <|
    bG (vp_in (l3_3 + 1) 4296) <|
    bB (F12_own S l1_1 1) fun r_12 =>
    bB (F12_own S l1_1 3) fun r_13 =>
    bB (F12_armFacts S l1_1 l4_11 (S 1 ((l3_3 + 3).toNatClampNeg)) (S 1 ((l3_3 + 1).toNatClampNeg)) r_12 r_13) fun S_14 =>
    bB (F12_own S_14 l1_1 1) fun r_15 =>
    bB2 (F12_wearOf S_14) fun r_16 S_17 =>
    bB (F12_gives S_17 l1_1 1 (F12_lesser 1000 (r_15 + r_16))) fun S_18 =>
    bB (F12_own S_18 l1_1 2) fun r_19 =>
    bG (vp_in (l3_3 + 1) 4296) <|
    bG (vp_in (l3_3 + 2) 4296) <|
    bB (F12_weather S_18 0) fun r_20 =>
    bB2 (F12_goodFar S_18 l4_11 (S_18 1 ((l3_3 + 1).toNatClampNeg)) (S_18 1 ((l3_3 + 2).toNatClampNeg)) r_20) fun r_21 S_22 =>
    bB (F12_gives S_22 l1_1 2 (F12_greater r_19 r_21)) fun S_23 =>
    bB (F12_own S_23 l1_1 3) fun r_24 =>
    bB (F12_gives S_23 l1_1 3 (r_24 + 1)) fun S_25 =>
    j177 S_25
  else
    j177 S
set_option maxRecDepth 100000 in
set_option maxHeartbeats 4000000 in
theorem wX12_isMeant {l : Launch} {Z : pZ}  (hZ : CM Z) (S : pS)  (S2 : pS)  (hf : F12_isMeant S = some S2) : CV l Z yX12_isMeant cX12_isMeant 5 9 207 [.ref (za Z 0)] S S2 := by
  unfold F12_isMeant at hf
  refine eV (own := RX12) (by decide) rfl (Nat.le_of_ble_eq_true rfl) (fun p e s m args below meth c Q ls G hl hw hret => ?_)
  obtain ⟨hx, hb, hml, hown, hts⟩ := G.1
  have hl : lv_has ls 5 [(0, .ref (za Z 0))] := hl
  refine lv_aload_n hx hb dX12_isMeant_0 rfl (lv_at hl 0 rfl) ?_
  refine gF G hw (m_this hZ) KX12 0 (k2 := 1) rfl (by decide) rfl fl_X12_7 dX12_isMeant_1 ?_
  refine lv_iconst hx hb dX12_isMeant_4 ki_1 ?_
  refine aI G hw (m_w hZ) (vin_e (by decide)) (j := 1) (by decide) dX12_isMeant_5 ?_
  obtain ⟨l1_1, el1_1, hf⟩ := bL_e hf
  refine top_i el1_1 ?_
  refine lv_istore_n (lv' := [(1, .int l1_1), (0, .ref (za Z 0))]) hx hb dX12_isMeant_6 rfl hl (by decide) rfl (fun ls hl => ?_)
  refine lv_aload_n hx hb dX12_isMeant_7 rfl (lv_at hl 1 rfl) ?_
  refine lv_iload_n hx hb dX12_isMeant_8 rfl (lv_at hl 0 rfl) ?_
  refine lv_iconst hx hb dX12_isMeant_9 ki_4 ?_
  obtain ⟨r_2, hr_2, hf⟩ := bB_e hf
  refine kVi (rest := []) G hw (wX12_own hZ S l1_1 4 r_2 hr_2) cw_X12_324 (m_this hZ) KX12 ⟨Nat.le_of_ble_eq_true rfl, Nat.le_of_ble_eq_true rfl⟩ rfl hl.1 rfl (Nat.le_of_ble_eq_true rfl) ⟨Nat.le_refl _, Nat.le_refl _⟩ dX12_isMeant_10 (fun H locs hw => ?_)
  refine lv_istore_n (lv' := [(2, .int r_2), (1, .int l1_1), (0, .ref (za Z 0))]) hx hb dX12_isMeant_13 rfl hl (by decide) rfl (fun ls hl => ?_)
  refine lv_sipush hx hb dX12_isMeant_14 ks_150 ?_
  refine lv_bipush hx hb dX12_isMeant_17 kb_60 ?_
  refine lv_iload_n hx hb dX12_isMeant_19 rfl (lv_at hl 1 rfl) ?_
  refine lv_imul hx hb dX12_isMeant_20 ?_
  refine lv_iadd hx hb dX12_isMeant_21 ?_
  refine lv_iconst hx hb dX12_isMeant_22 ki_5 ?_
  refine lv_iload_n hx hb dX12_isMeant_23 rfl (lv_at hl 0 rfl) ?_
  refine lv_imul hx hb dX12_isMeant_24 ?_
  refine lv_iadd hx hb dX12_isMeant_25 ?_
  obtain ⟨l3_3, el3_3, hf⟩ := bL_e hf
  refine top_i el3_3 ?_
  refine lv_istore_n (lv' := [(3, .int l3_3), (2, .int r_2), (1, .int l1_1), (0, .ref (za Z 0))]) hx hb dX12_isMeant_26 rfl hl (by decide) rfl (fun ls hl => ?_)
  refine lv_aload_n hx hb dX12_isMeant_27 rfl (lv_at hl 3 rfl) ?_
  refine lv_iload_n hx hb dX12_isMeant_28 rfl (lv_at hl 2 rfl) ?_
  refine lv_iload_n hx hb dX12_isMeant_29 rfl (lv_at hl 1 rfl) ?_
  refine lv_iload_n hx hb dX12_isMeant_30 rfl (lv_at hl 0 rfl) ?_
  obtain ⟨r_4, hr_4, hf⟩ := bB_e hf
  refine kVi (rest := []) G hw (wX12_passesBy hZ S l1_1 r_2 l3_3 r_4 hr_4) cw_X12_410 (m_this hZ) KX12 ⟨Nat.le_of_ble_eq_true rfl, Nat.le_of_ble_eq_true rfl⟩ rfl hl.1 rfl (Nat.le_of_ble_eq_true rfl) ⟨Nat.le_refl _, Nat.le_refl _⟩ dX12_isMeant_31 (fun H locs hw => ?_)
  obtain ⟨j177, ej, hf⟩ := bL_e hf
  have R177 : ∀ (S_5 : pS) (H : Heap) (locs : List Loc) (ls : Array Slot), Wd Z s S_5 H locs → lv_has ls 5 [(0, .ref (za Z 0)), (1, .int l1_1), (2, .int r_2)] → j177 S_5 = some S2 → W p l e { frames := 9, cells := 0, slots := 0, locals := 207 } s m args below meth c H locs 0 0 Q (F0 m 177 ls []) := by
    intro S_5 H locs ls hw hl hf
    have hf := (congrFun ej S_5).symm.trans hf
    refine lv_iload_n hx hb dX12_isMeant_177 rfl (lv_at hl 2 rfl) ?_
    refine lv_aload_n hx hb dX12_isMeant_178 rfl (lv_at hl 0 rfl) ?_
    refine gF G hw (m_this hZ) KX12 0 (k2 := 1) rfl (by decide) rfl fl_X12_7 dX12_isMeant_179 ?_
    refine lv_bipush hx hb dX12_isMeant_182 kb_82 ?_
    refine lv_iload_n hx hb dX12_isMeant_184 rfl (lv_at hl 1 rfl) ?_
    refine lv_iadd hx hb dX12_isMeant_185 ?_
    obtain ⟨hg1, hf⟩ := bG_e hf
    refine aI G hw (m_w hZ) hg1 (j := (82 + l1_1).toNatClampNeg) rfl dX12_isMeant_186 ?_
    obtain ⟨j199, ej, hf⟩ := bL_e hf
    have R199 : ∀ (S_6 : pS) (H : Heap) (locs : List Loc) (ls : Array Slot), Wd Z s S_6 H locs → lv_has ls 5 [(0, .ref (za Z 0))] → j199 S_6 = some S2 → W p l e { frames := 9, cells := 0, slots := 0, locals := 207 } s m args below meth c H locs 0 0 Q (F0 m 199 ls []) := by
      intro S_6 H locs ls hw hl hf
      have hf := (congrFun ej S_6).symm.trans hf
      refine lv_aload_n hx hb dX12_isMeant_199 rfl (lv_at hl 0 rfl) ?_
      obtain ⟨S_7, hS_7, hf⟩ := bL_e hf
      refine kVv (rest := []) G hw (wX12_nextTurn hZ S_6 S_7 hS_7.symm) cw_X12_395 (m_this hZ) KX12 ⟨Nat.le_of_ble_eq_true rfl, Nat.le_of_ble_eq_true rfl⟩ rfl hl.1 rfl (Nat.le_of_ble_eq_true rfl) ⟨Nat.le_refl _, Nat.le_refl _⟩ dX12_isMeant_200 (fun H locs hw => ?_)
      exact hret _ _ _ _ dX12_isMeant_203 (by rw [← (Option.some.inj hf)]; exact hw)
    clear ej
    refine lv_icmp_ge (tgt := 199) hx hb dX12_isMeant_187 (by decide) (fun c_9 => ?_) (fun c_9 => ?_)
    · have hf := (if_pos c_9).symm.trans hf
      exact R199 _ _ _ _ hw (lv_sub hl [0] rfl) hf
    · have hf := (if_neg c_9).symm.trans hf
      refine lv_aload_n hx hb dX12_isMeant_190 rfl (lv_at hl 0 rfl) ?_
      refine lv_iload_n hx hb dX12_isMeant_191 rfl (lv_at hl 1 rfl) ?_
      refine lv_iconst hx hb dX12_isMeant_192 ki_4 ?_
      refine lv_iload_n hx hb dX12_isMeant_193 rfl (lv_at hl 2 rfl) ?_
      refine lv_iconst hx hb dX12_isMeant_194 ki_1 ?_
      refine lv_iadd hx hb dX12_isMeant_195 ?_
      obtain ⟨S_8, hS_8, hf⟩ := bB_e hf
      refine kVv (rest := []) G hw (wX12_gives hZ S_5 l1_1 4 (r_2 + 1) S_8 hS_8) cw_X12_83 (m_this hZ) KX12 ⟨Nat.le_of_ble_eq_true rfl, Nat.le_of_ble_eq_true rfl⟩ rfl hl.1 rfl (Nat.le_of_ble_eq_true rfl) ⟨Nat.le_refl _, Nat.le_refl _⟩ dX12_isMeant_196 (fun H locs hw => ?_)
      exact R199 _ _ _ _ hw (lv_sub hl [0] rfl) hf
  clear ej
  refine lv_if_ne (tgt := 177) hx hb dX12_isMeant_34 (by decide) (fun c_26 => ?_) (fun c_26 => ?_)
  · have hf := (if_neg c_26).symm.trans hf
    exact R177 _ _ _ _ hw (lv_sub hl [3, 2, 1] rfl) hf
  · have hf := (if_pos c_26).symm.trans hf
    refine lv_aload_n hx hb dX12_isMeant_37 rfl (lv_at hl 3 rfl) ?_
    refine gF G hw (m_this hZ) KX12 0 (k2 := 1) rfl (by decide) rfl fl_X12_7 dX12_isMeant_38 ?_
    refine lv_iload_n hx hb dX12_isMeant_41 rfl (lv_at hl 0 rfl) ?_
    obtain ⟨hg1, hf⟩ := bG_e hf
    refine aI G hw (m_w hZ) hg1 (j := l3_3.toNatClampNeg) rfl dX12_isMeant_42 ?_
    refine lv_aload_n hx hb dX12_isMeant_43 rfl (lv_at hl 3 rfl) ?_
    refine gF G hw (m_this hZ) KX12 0 (k2 := 1) rfl (by decide) rfl fl_X12_7 dX12_isMeant_44 ?_
    refine lv_iload_n hx hb dX12_isMeant_47 rfl (lv_at hl 0 rfl) ?_
    refine lv_iconst hx hb dX12_isMeant_48 ki_3 ?_
    refine lv_iadd hx hb dX12_isMeant_49 ?_
    obtain ⟨hg1, hf⟩ := bG_e hf
    refine aI G hw (m_w hZ) hg1 (j := (l3_3 + 3).toNatClampNeg) rfl dX12_isMeant_50 ?_
    refine lv_iadd hx hb dX12_isMeant_51 ?_
    refine lv_aload_n hx hb dX12_isMeant_52 rfl (lv_at hl 3 rfl) ?_
    refine lv_iload_n hx hb dX12_isMeant_53 rfl (lv_at hl 2 rfl) ?_
    refine lv_iconst hx hb dX12_isMeant_54 ki_0 ?_
    obtain ⟨r_10, hr_10, hf⟩ := bB_e hf
    refine kVi (rest := [.int ((S 1 l3_3.toNatClampNeg) + (S 1 ((l3_3 + 3).toNatClampNeg)))]) G hw (wX12_own hZ S l1_1 0 r_10 hr_10) cw_X12_324 (m_this hZ) KX12 ⟨Nat.le_of_ble_eq_true rfl, Nat.le_of_ble_eq_true rfl⟩ rfl hl.1 rfl (Nat.le_of_ble_eq_true rfl) ⟨Nat.le_refl _, Nat.le_refl _⟩ dX12_isMeant_55 (fun H locs hw => ?_)
    refine kSi (rest := []) G hw (wX12_lesser hZ S ((S 1 l3_3.toNatClampNeg) + (S 1 ((l3_3 + 3).toNatClampNeg))) r_10 (F12_lesser ((S 1 l3_3.toNatClampNeg) + (S 1 ((l3_3 + 3).toNatClampNeg))) r_10) rfl) cw_X12_64 ⟨Nat.le_of_ble_eq_true rfl, Nat.le_of_ble_eq_true rfl⟩ rfl hl.1 rfl (Nat.le_of_ble_eq_true rfl) ⟨Nat.le_refl _, Nat.le_refl _⟩ dX12_isMeant_58 (fun H locs hw => ?_)
    obtain ⟨l4_11, el4_11, hf⟩ := bL_e hf
    refine top_i el4_11 ?_
    refine lv_istore (lv' := [(4, .int l4_11), (3, .int l3_3), (2, .int r_2), (1, .int l1_1), (0, .ref (za Z 0))]) hx hb dX12_isMeant_61 hl (by decide) rfl (fun ls hl => ?_)
    refine lv_aload_n hx hb dX12_isMeant_63 rfl (lv_at hl 4 rfl) ?_
    refine lv_iload_n hx hb dX12_isMeant_64 rfl (lv_at hl 3 rfl) ?_
    refine lv_iload hx hb dX12_isMeant_65 (lv_at hl 0 rfl) ?_
    refine lv_aload_n hx hb dX12_isMeant_67 rfl (lv_at hl 4 rfl) ?_
    refine gF G hw (m_this hZ) KX12 0 (k2 := 1) rfl (by decide) rfl fl_X12_7 dX12_isMeant_68 ?_
    refine lv_iload_n hx hb dX12_isMeant_71 rfl (lv_at hl 1 rfl) ?_
    refine lv_iconst hx hb dX12_isMeant_72 ki_3 ?_
    refine lv_iadd hx hb dX12_isMeant_73 ?_
    obtain ⟨hg1, hf⟩ := bG_e hf
    refine aI G hw (m_w hZ) hg1 (j := (l3_3 + 3).toNatClampNeg) rfl dX12_isMeant_74 ?_
    refine lv_aload_n hx hb dX12_isMeant_75 rfl (lv_at hl 4 rfl) ?_
    refine gF G hw (m_this hZ) KX12 0 (k2 := 1) rfl (by decide) rfl fl_X12_7 dX12_isMeant_76 ?_
    refine lv_iload_n hx hb dX12_isMeant_79 rfl (lv_at hl 1 rfl) ?_
    refine lv_iconst hx hb dX12_isMeant_80 ki_1 ?_
    refine lv_iadd hx hb dX12_isMeant_81 ?_
    obtain ⟨hg1, hf⟩ := bG_e hf
    refine aI G hw (m_w hZ) hg1 (j := (l3_3 + 1).toNatClampNeg) rfl dX12_isMeant_82 ?_
    refine lv_aload_n hx hb dX12_isMeant_83 rfl (lv_at hl 4 rfl) ?_
    refine lv_iload_n hx hb dX12_isMeant_84 rfl (lv_at hl 3 rfl) ?_
    refine lv_iconst hx hb dX12_isMeant_85 ki_1 ?_
    obtain ⟨r_12, hr_12, hf⟩ := bB_e hf
    refine kVi (rest := [.int (S 1 ((l3_3 + 1).toNatClampNeg)), .int (S 1 ((l3_3 + 3).toNatClampNeg)), .int l4_11, .int l1_1, .ref (za Z 0)]) G hw (wX12_own hZ S l1_1 1 r_12 hr_12) cw_X12_324 (m_this hZ) KX12 ⟨Nat.le_of_ble_eq_true rfl, Nat.le_of_ble_eq_true rfl⟩ rfl hl.1 rfl (Nat.le_of_ble_eq_true rfl) ⟨Nat.le_refl _, Nat.le_refl _⟩ dX12_isMeant_86 (fun H locs hw => ?_)
    refine lv_aload_n hx hb dX12_isMeant_89 rfl (lv_at hl 4 rfl) ?_
    refine lv_iload_n hx hb dX12_isMeant_90 rfl (lv_at hl 3 rfl) ?_
    refine lv_iconst hx hb dX12_isMeant_91 ki_3 ?_
    obtain ⟨r_13, hr_13, hf⟩ := bB_e hf
    refine kVi (rest := [.int r_12, .int (S 1 ((l3_3 + 1).toNatClampNeg)), .int (S 1 ((l3_3 + 3).toNatClampNeg)), .int l4_11, .int l1_1, .ref (za Z 0)]) G hw (wX12_own hZ S l1_1 3 r_13 hr_13) cw_X12_324 (m_this hZ) KX12 ⟨Nat.le_of_ble_eq_true rfl, Nat.le_of_ble_eq_true rfl⟩ rfl hl.1 rfl (Nat.le_of_ble_eq_true rfl) ⟨Nat.le_refl _, Nat.le_refl _⟩ dX12_isMeant_92 (fun H locs hw => ?_)
    obtain ⟨S_14, hS_14, hf⟩ := bB_e hf
    refine kVv (rest := []) G hw (wX12_armFacts hZ S l1_1 l4_11 (S 1 ((l3_3 + 3).toNatClampNeg)) (S 1 ((l3_3 + 1).toNatClampNeg)) r_12 r_13 S_14 hS_14) cw_X12_376 (m_this hZ) KX12 ⟨Nat.le_of_ble_eq_true rfl, Nat.le_of_ble_eq_true rfl⟩ rfl hl.1 rfl (Nat.le_of_ble_eq_true rfl) ⟨Nat.le_refl _, Nat.le_refl _⟩ dX12_isMeant_95 (fun H locs hw => ?_)
    refine lv_aload_n hx hb dX12_isMeant_98 rfl (lv_at hl 4 rfl) ?_
    refine lv_iload_n hx hb dX12_isMeant_99 rfl (lv_at hl 3 rfl) ?_
    refine lv_iconst hx hb dX12_isMeant_100 ki_1 ?_
    refine lv_sipush hx hb dX12_isMeant_101 ks_1000 ?_
    refine lv_aload_n hx hb dX12_isMeant_104 rfl (lv_at hl 4 rfl) ?_
    refine lv_iload_n hx hb dX12_isMeant_105 rfl (lv_at hl 3 rfl) ?_
    refine lv_iconst hx hb dX12_isMeant_106 ki_1 ?_
    obtain ⟨r_15, hr_15, hf⟩ := bB_e hf
    refine kVi (rest := [.int 1000, .int 1, .int l1_1, .ref (za Z 0)]) G hw (wX12_own hZ S_14 l1_1 1 r_15 hr_15) cw_X12_324 (m_this hZ) KX12 ⟨Nat.le_of_ble_eq_true rfl, Nat.le_of_ble_eq_true rfl⟩ rfl hl.1 rfl (Nat.le_of_ble_eq_true rfl) ⟨Nat.le_refl _, Nat.le_refl _⟩ dX12_isMeant_107 (fun H locs hw => ?_)
    refine lv_aload_n hx hb dX12_isMeant_110 rfl (lv_at hl 4 rfl) ?_
    obtain ⟨r_16, S_17, hr_16, hf⟩ := bB2_e hf
    refine kVi (rest := [.int r_15, .int 1000, .int 1, .int l1_1, .ref (za Z 0)]) G hw (wX12_wearOf hZ S_14 r_16 S_17 hr_16) cw_X12_383 (m_this hZ) KX12 ⟨Nat.le_of_ble_eq_true rfl, Nat.le_of_ble_eq_true rfl⟩ rfl hl.1 rfl (Nat.le_of_ble_eq_true rfl) ⟨Nat.le_refl _, Nat.le_refl _⟩ dX12_isMeant_111 (fun H locs hw => ?_)
    refine lv_iadd hx hb dX12_isMeant_114 ?_
    refine kSi (rest := [.int 1, .int l1_1, .ref (za Z 0)]) G hw (wX12_lesser hZ S_17 1000 (r_15 + r_16) (F12_lesser 1000 (r_15 + r_16)) rfl) cw_X12_64 ⟨Nat.le_of_ble_eq_true rfl, Nat.le_of_ble_eq_true rfl⟩ rfl hl.1 rfl (Nat.le_of_ble_eq_true rfl) ⟨Nat.le_refl _, Nat.le_refl _⟩ dX12_isMeant_115 (fun H locs hw => ?_)
    obtain ⟨S_18, hS_18, hf⟩ := bB_e hf
    refine kVv (rest := []) G hw (wX12_gives hZ S_17 l1_1 1 (F12_lesser 1000 (r_15 + r_16)) S_18 hS_18) cw_X12_83 (m_this hZ) KX12 ⟨Nat.le_of_ble_eq_true rfl, Nat.le_of_ble_eq_true rfl⟩ rfl hl.1 rfl (Nat.le_of_ble_eq_true rfl) ⟨Nat.le_refl _, Nat.le_refl _⟩ dX12_isMeant_118 (fun H locs hw => ?_)
    refine lv_aload_n hx hb dX12_isMeant_121 rfl (lv_at hl 4 rfl) ?_
    refine lv_iload_n hx hb dX12_isMeant_122 rfl (lv_at hl 3 rfl) ?_
    refine lv_iconst hx hb dX12_isMeant_123 ki_2 ?_
    refine lv_aload_n hx hb dX12_isMeant_124 rfl (lv_at hl 4 rfl) ?_
    refine lv_iload_n hx hb dX12_isMeant_125 rfl (lv_at hl 3 rfl) ?_
    refine lv_iconst hx hb dX12_isMeant_126 ki_2 ?_
    obtain ⟨r_19, hr_19, hf⟩ := bB_e hf
    refine kVi (rest := [.int 2, .int l1_1, .ref (za Z 0)]) G hw (wX12_own hZ S_18 l1_1 2 r_19 hr_19) cw_X12_324 (m_this hZ) KX12 ⟨Nat.le_of_ble_eq_true rfl, Nat.le_of_ble_eq_true rfl⟩ rfl hl.1 rfl (Nat.le_of_ble_eq_true rfl) ⟨Nat.le_refl _, Nat.le_refl _⟩ dX12_isMeant_127 (fun H locs hw => ?_)
    refine lv_aload_n hx hb dX12_isMeant_130 rfl (lv_at hl 4 rfl) ?_
    refine lv_iload hx hb dX12_isMeant_131 (lv_at hl 0 rfl) ?_
    refine lv_aload_n hx hb dX12_isMeant_133 rfl (lv_at hl 4 rfl) ?_
    refine gF G hw (m_this hZ) KX12 0 (k2 := 1) rfl (by decide) rfl fl_X12_7 dX12_isMeant_134 ?_
    refine lv_iload_n hx hb dX12_isMeant_137 rfl (lv_at hl 1 rfl) ?_
    refine lv_iconst hx hb dX12_isMeant_138 ki_1 ?_
    refine lv_iadd hx hb dX12_isMeant_139 ?_
    obtain ⟨hg1, hf⟩ := bG_e hf
    refine aI G hw (m_w hZ) hg1 (j := (l3_3 + 1).toNatClampNeg) rfl dX12_isMeant_140 ?_
    refine lv_aload_n hx hb dX12_isMeant_141 rfl (lv_at hl 4 rfl) ?_
    refine gF G hw (m_this hZ) KX12 0 (k2 := 1) rfl (by decide) rfl fl_X12_7 dX12_isMeant_142 ?_
    refine lv_iload_n hx hb dX12_isMeant_145 rfl (lv_at hl 1 rfl) ?_
    refine lv_iconst hx hb dX12_isMeant_146 ki_2 ?_
    refine lv_iadd hx hb dX12_isMeant_147 ?_
    obtain ⟨hg1, hf⟩ := bG_e hf
    refine aI G hw (m_w hZ) hg1 (j := (l3_3 + 2).toNatClampNeg) rfl dX12_isMeant_148 ?_
    refine lv_aload_n hx hb dX12_isMeant_149 rfl (lv_at hl 4 rfl) ?_
    refine lv_iconst hx hb dX12_isMeant_150 ki_0 ?_
    obtain ⟨r_20, hr_20, hf⟩ := bB_e hf
    refine kVi (rest := [.int (S_18 1 ((l3_3 + 2).toNatClampNeg)), .int (S_18 1 ((l3_3 + 1).toNatClampNeg)), .int l4_11, .ref (za Z 0), .int r_19, .int 2, .int l1_1, .ref (za Z 0)]) G hw (wX12_weather hZ S_18 0 r_20 hr_20) cw_X12_364 (m_this hZ) KX12 ⟨Nat.le_of_ble_eq_true rfl, Nat.le_of_ble_eq_true rfl⟩ rfl hl.1 rfl (Nat.le_of_ble_eq_true rfl) ⟨Nat.le_refl _, Nat.le_refl _⟩ dX12_isMeant_151 (fun H locs hw => ?_)
    obtain ⟨r_21, S_22, hr_21, hf⟩ := bB2_e hf
    refine kVi (rest := [.int r_19, .int 2, .int l1_1, .ref (za Z 0)]) G hw (wX12_goodFar hZ S_18 l4_11 (S_18 1 ((l3_3 + 1).toNatClampNeg)) (S_18 1 ((l3_3 + 2).toNatClampNeg)) r_20 r_21 S_22 hr_21) cw_X12_434 (m_this hZ) KX12 ⟨Nat.le_of_ble_eq_true rfl, Nat.le_of_ble_eq_true rfl⟩ rfl hl.1 rfl (Nat.le_of_ble_eq_true rfl) ⟨Nat.le_refl _, Nat.le_refl _⟩ dX12_isMeant_154 (fun H locs hw => ?_)
    refine kSi (rest := [.int 2, .int l1_1, .ref (za Z 0)]) G hw (wX12_greater hZ S_22 r_19 r_21 (F12_greater r_19 r_21) rfl) cw_X12_68 ⟨Nat.le_of_ble_eq_true rfl, Nat.le_of_ble_eq_true rfl⟩ rfl hl.1 rfl (Nat.le_of_ble_eq_true rfl) ⟨Nat.le_refl _, Nat.le_refl _⟩ dX12_isMeant_157 (fun H locs hw => ?_)
    obtain ⟨S_23, hS_23, hf⟩ := bB_e hf
    refine kVv (rest := []) G hw (wX12_gives hZ S_22 l1_1 2 (F12_greater r_19 r_21) S_23 hS_23) cw_X12_83 (m_this hZ) KX12 ⟨Nat.le_of_ble_eq_true rfl, Nat.le_of_ble_eq_true rfl⟩ rfl hl.1 rfl (Nat.le_of_ble_eq_true rfl) ⟨Nat.le_refl _, Nat.le_refl _⟩ dX12_isMeant_160 (fun H locs hw => ?_)
    refine lv_aload_n hx hb dX12_isMeant_163 rfl (lv_at hl 4 rfl) ?_
    refine lv_iload_n hx hb dX12_isMeant_164 rfl (lv_at hl 3 rfl) ?_
    refine lv_iconst hx hb dX12_isMeant_165 ki_3 ?_
    refine lv_aload_n hx hb dX12_isMeant_166 rfl (lv_at hl 4 rfl) ?_
    refine lv_iload_n hx hb dX12_isMeant_167 rfl (lv_at hl 3 rfl) ?_
    refine lv_iconst hx hb dX12_isMeant_168 ki_3 ?_
    obtain ⟨r_24, hr_24, hf⟩ := bB_e hf
    refine kVi (rest := [.int 3, .int l1_1, .ref (za Z 0)]) G hw (wX12_own hZ S_23 l1_1 3 r_24 hr_24) cw_X12_324 (m_this hZ) KX12 ⟨Nat.le_of_ble_eq_true rfl, Nat.le_of_ble_eq_true rfl⟩ rfl hl.1 rfl (Nat.le_of_ble_eq_true rfl) ⟨Nat.le_refl _, Nat.le_refl _⟩ dX12_isMeant_169 (fun H locs hw => ?_)
    refine lv_iconst hx hb dX12_isMeant_172 ki_1 ?_
    refine lv_iadd hx hb dX12_isMeant_173 ?_
    obtain ⟨S_25, hS_25, hf⟩ := bB_e hf
    refine kVv (rest := []) G hw (wX12_gives hZ S_23 l1_1 3 (r_24 + 1) S_25 hS_25) cw_X12_83 (m_this hZ) KX12 ⟨Nat.le_of_ble_eq_true rfl, Nat.le_of_ble_eq_true rfl⟩ rfl hl.1 rfl (Nat.le_of_ble_eq_true rfl) ⟨Nat.le_refl _, Nat.le_refl _⟩ dX12_isMeant_174 (fun H locs hw => ?_)
    exact R177 _ _ _ _ hw (lv_sub hl [4, 3, 2] rfl) hf
noncomputable def F12_would (S : pS) (a1 : Int32) : Option (Int32 × pS) :=
  if (F12_isThrower S a1) = 0 then
    some (((-1) : Int32), S)
  else
    bL (fun (S_1 : pS) =>
      bL (fun (S_2 : pS) =>
        bB (F12_own S_2 a1 2) fun r_3 =>
        bL (fun (S_4 : pS) =>
          some (r_3, S_4)) fun g83_59 =>
        bL (u2 fun (l3_5 : Int32) (S_6 : pS) =>
          if 60 ≤ l3_5 then
            some (.inr S_6)
          else
            bG (vp_in l3_5 60) <|
            bG (vp_in l3_5 4296) <|
            bL (sU S_6 1 l3_5.toNatClampNeg (S_6 10 l3_5.toNatClampNeg)) fun S_8 =>
            bL (l3_5 + 1) fun l3_9 =>
            some (.inl (l3_9, S_8))) fun b59 =>
        bB (bP b59 ((0 : Int32), S_2)) (u1 g83_59)) fun g50_36 =>
      bL (u1 fun (S_11 : pS) =>
        if (F12_isOn S_11) = 0 then
          some (.inr S_11)
        else
          bB (F12_isMeant S_11) fun S_13 =>
          some (.inl S_13)) fun b36 =>
      bB (bP b36 S_1) (u1 g50_36)) fun g36_12 =>
    bL (u2 fun (l2_15 : Int32) (S_16 : pS) =>
      if 60 ≤ l2_15 then
        some (.inr S_16)
      else
        bG (vp_in l2_15 4296) <|
        bG (vp_in l2_15 60) <|
        bL (sU S_16 10 l2_15.toNatClampNeg (S_16 1 l2_15.toNatClampNeg)) fun S_18 =>
        bL (l2_15 + 1) fun l2_19 =>
        some (.inl (l2_19, S_18))) fun b12 =>
    bB (bP b12 ((0 : Int32), S)) (u1 g36_12)
set_option maxRecDepth 100000 in
set_option maxHeartbeats 4000000 in
theorem wX12_would {l : Launch} {Z : pZ}  (hZ : CM Z) (S : pS) (a1 : Int32) (r : Int32) (S2 : pS)  (hf : F12_would S a1 = some (r, S2)) : CI l Z yX12_would cX12_would 4 .int 10 231 [.ref (za Z 0), .int a1] S r S2 := by
  unfold F12_would at hf
  refine eI (own := RX12) (by decide) rfl (Nat.le_of_ble_eq_true rfl) (fun p e s m args below meth c Q ls G hl hw hret => ?_)
  obtain ⟨hx, hb, hml, hown, hts⟩ := G.1
  have hl : lv_has ls 4 [(0, .ref (za Z 0)), (1, .int a1)] := hl
  refine lv_aload_n hx hb dX12_would_0 rfl (lv_at hl 0 rfl) ?_
  refine lv_iload_n hx hb dX12_would_1 rfl (lv_at hl 1 rfl) ?_
  refine kVi (rest := []) G hw (wX12_isThrower hZ S a1 (F12_isThrower S a1) rfl) cw_X12_87 (m_this hZ) KX12 ⟨Nat.le_of_ble_eq_true rfl, Nat.le_of_ble_eq_true rfl⟩ rfl hl.1 rfl (Nat.le_of_ble_eq_true rfl) ⟨Nat.le_refl _, Nat.le_refl _⟩ dX12_would_2 (fun H locs hw => ?_)
  refine lv_if_ne (tgt := 10) hx hb dX12_would_5 (by decide) (fun c_21 => ?_) (fun c_21 => ?_)
  · have hf := (if_neg c_21).symm.trans hf
    refine lv_iconst hx hb dX12_would_10 ki_0 ?_
    refine lv_istore_n (lv' := [(2, .int 0), (0, .ref (za Z 0)), (1, .int a1)]) hx hb dX12_would_11 rfl hl (by decide) rfl (fun ls hl => ?_)
    obtain ⟨g36_12, ej, hf⟩ := bL_e hf
    have R36_12 : ∀ (S_1 : pS) (H : Heap) (locs : List Loc) (ls : Array Slot), Wd Z s S_1 H locs → lv_has ls 4 [(0, .ref (za Z 0)), (1, .int a1)] → g36_12 S_1 = some (r, S2) → W p l e { frames := 10, cells := 0, slots := 0, locals := 231 } s m args below meth c H locs 0 0 Q (F0 m 36 ls []) := by
      intro S_1 H locs ls hw hl hf
      have hf := (congrFun ej S_1).symm.trans hf
      obtain ⟨g50_36, ej, hf⟩ := bL_e hf
      have R50_36 : ∀ (S_2 : pS) (H : Heap) (locs : List Loc) (ls : Array Slot), Wd Z s S_2 H locs → lv_has ls 4 [(0, .ref (za Z 0)), (1, .int a1)] → g50_36 S_2 = some (r, S2) → W p l e { frames := 10, cells := 0, slots := 0, locals := 231 } s m args below meth c H locs 0 0 Q (F0 m 50 ls []) := by
        intro S_2 H locs ls hw hl hf
        have hf := (congrFun ej S_2).symm.trans hf
        refine lv_aload_n hx hb dX12_would_50 rfl (lv_at hl 0 rfl) ?_
        refine lv_iload_n hx hb dX12_would_51 rfl (lv_at hl 1 rfl) ?_
        refine lv_iconst hx hb dX12_would_52 ki_2 ?_
        obtain ⟨r_3, hr_3, hf⟩ := bB_e hf
        refine kVi (rest := []) G hw (wX12_own hZ S_2 a1 2 r_3 hr_3) cw_X12_324 (m_this hZ) KX12 ⟨Nat.le_of_ble_eq_true rfl, Nat.le_of_ble_eq_true rfl⟩ rfl hl.1 rfl (Nat.le_of_ble_eq_true rfl) ⟨Nat.le_refl _, Nat.le_refl _⟩ dX12_would_53 (fun H locs hw => ?_)
        refine lv_istore_n (lv' := [(2, .int r_3), (0, .ref (za Z 0)), (1, .int a1)]) hx hb dX12_would_56 rfl hl (by decide) rfl (fun ls hl => ?_)
        refine lv_iconst hx hb dX12_would_57 ki_0 ?_
        refine lv_istore_n (lv' := [(3, .int 0), (2, .int r_3), (0, .ref (za Z 0)), (1, .int a1)]) hx hb dX12_would_58 rfl hl (by decide) rfl (fun ls hl => ?_)
        obtain ⟨g83_59, ej, hf⟩ := bL_e hf
        have R83_59 : ∀ (S_4 : pS) (H : Heap) (locs : List Loc) (ls : Array Slot), Wd Z s S_4 H locs → lv_has ls 4 [(2, .int r_3)] → g83_59 S_4 = some (r, S2) → W p l e { frames := 10, cells := 0, slots := 0, locals := 231 } s m args below meth c H locs 0 0 Q (F0 m 83 ls []) := by
          intro S_4 H locs ls hw hl hf
          have hf := (congrFun ej S_4).symm.trans hf
          refine lv_iload_n hx hb dX12_would_83 rfl (lv_at hl 0 rfl) ?_
          obtain ⟨e1, e2⟩ := Prod.mk.inj (Option.some.inj hf)
          exact hret _ _ _ _ _ dX12_would_84 e1 (by rw [← e2]; exact hw)
        clear ej
        obtain ⟨b59, eb, hf⟩ := bL_e hf
        have RL59 : ∀ (n : Nat) z, (u1 g83_59) z = some (r, S2) → ∀ (l3_5 : Int32) (S_6 : pS) (H : Heap) (locs : List Loc) (ls : Array Slot), Wd Z s S_6 H locs → lv_has ls 4 [(0, .ref (za Z 0)), (2, .int r_3), (3, .int l3_5)] → bPn b59 n (l3_5, S_6) = some z → W p l e { frames := 10, cells := 0, slots := 0, locals := 231 } s m args below meth c H locs 0 0 Q (F0 m 59 ls []) := by
          intro n
          induction n with
          | zero =>
            intro z hg l3_5 S_6 H locs ls hw hl hz
            exact bPn_0 hz
          | succ n ih =>
            intro z hg l3_5 S_6 H locs ls hw hl hz
            obtain ⟨q_7, hf, hz⟩ := bPn_e hz
            have hf := u2_e ((congrFun eb _).symm.trans hf)
            refine lv_iload_n hx hb dX12_would_59 rfl (lv_at hl 2 rfl) ?_
            refine lv_bipush hx hb dX12_would_60 kb_60 ?_
            refine lv_icmp_ge (tgt := 83) hx hb dX12_would_62 (by decide) (fun c_10 => ?_) (fun c_10 => ?_)
            · have hf := (if_pos c_10).symm.trans hf
              obtain rfl := Option.some.inj hf
              obtain rfl := Option.some.inj (hz : some _ = some _)
              exact R83_59 _ _ _ _ hw (lv_sub hl [1] rfl) hg
            · have hf := (if_neg c_10).symm.trans hf
              refine lv_aload_n hx hb dX12_would_65 rfl (lv_at hl 0 rfl) ?_
              refine gF G hw (m_this hZ) KX12 0 (k2 := 1) rfl (by decide) rfl fl_X12_7 dX12_would_66 ?_
              refine lv_iload_n hx hb dX12_would_69 rfl (lv_at hl 2 rfl) ?_
              refine lv_aload_n hx hb dX12_would_70 rfl (lv_at hl 0 rfl) ?_
              refine gF G hw (m_this hZ) KX12 11 (k2 := 10) rfl (by decide) rfl fl_X12_37 dX12_would_71 ?_
              refine lv_iload_n hx hb dX12_would_74 rfl (lv_at hl 2 rfl) ?_
              obtain ⟨hg1, hf⟩ := bG_e hf
              refine aI G hw (m_lying hZ) hg1 (j := l3_5.toNatClampNeg) rfl dX12_would_75 ?_
              obtain ⟨hg1, hf⟩ := bG_e hf
              obtain ⟨S_8, eS_8, hf⟩ := bL_e hf
              refine sI G hw (m_w hZ) hg1 (j := l3_5.toNatClampNeg) rfl eS_8 dX12_would_76 (fun H locs hw => ?_)
              obtain ⟨l3_9, el3_9, hf⟩ := bL_e hf
              refine lv_iinc (v := l3_9) (lv' := [(3, .int l3_9), (0, .ref (za Z 0)), (2, .int r_3)]) hx hb dX12_would_77 hl (k := 2) rfl (by rw [el3_9]; rfl) (by decide) rfl (fun ls hl => ?_)
              refine lv_goto (tgt := 59) hx hb dX12_would_80 (by decide) ?_
              obtain rfl := Option.some.inj hf
              exact ih _ hg _ _ _ _ _ hw (lv_sub hl [1, 2, 0] rfl) hz
        clear eb
        obtain ⟨z, hz, hf⟩ := bB_e hf
        obtain ⟨n, hz⟩ := bP_e hz
        exact RL59 n z hf _ _ _ _ _ hw (lv_sub hl [2, 1, 0] rfl) hz
      clear ej
      obtain ⟨b36, eb, hf⟩ := bL_e hf
      have RL36 : ∀ (n : Nat) z, (u1 g50_36) z = some (r, S2) → ∀ (S_11 : pS) (H : Heap) (locs : List Loc) (ls : Array Slot), Wd Z s S_11 H locs → lv_has ls 4 [(0, .ref (za Z 0)), (1, .int a1)] → bPn b36 n S_11 = some z → W p l e { frames := 10, cells := 0, slots := 0, locals := 231 } s m args below meth c H locs 0 0 Q (F0 m 36 ls []) := by
        intro n
        induction n with
        | zero =>
          intro z hg S_11 H locs ls hw hl hz
          exact bPn_0 hz
        | succ n ih =>
          intro z hg S_11 H locs ls hw hl hz
          obtain ⟨q_12, hf, hz⟩ := bPn_e hz
          have hf := u1_e ((congrFun eb _).symm.trans hf)
          refine lv_aload_n hx hb dX12_would_36 rfl (lv_at hl 0 rfl) ?_
          refine kVi (rest := []) G hw (wX12_isOn hZ S_11 (F12_isOn S_11) rfl) cw_X12_398 (m_this hZ) KX12 ⟨Nat.le_of_ble_eq_true rfl, Nat.le_of_ble_eq_true rfl⟩ rfl hl.1 rfl (Nat.le_of_ble_eq_true rfl) ⟨Nat.le_refl _, Nat.le_refl _⟩ dX12_would_37 (fun H locs hw => ?_)
          refine lv_if_eq (tgt := 50) hx hb dX12_would_40 (by decide) (fun c_14 => ?_) (fun c_14 => ?_)
          · have hf := (if_pos c_14).symm.trans hf
            obtain rfl := Option.some.inj hf
            obtain rfl := Option.some.inj (hz : some _ = some _)
            exact R50_36 _ _ _ _ hw (lv_sub hl [0, 1] rfl) hg
          · have hf := (if_neg c_14).symm.trans hf
            refine lv_aload_n hx hb dX12_would_43 rfl (lv_at hl 0 rfl) ?_
            obtain ⟨S_13, hS_13, hf⟩ := bB_e hf
            refine kVv (rest := []) G hw (wX12_isMeant hZ S_11 S_13 hS_13) cw_X12_466 (m_this hZ) KX12 ⟨Nat.le_of_ble_eq_true rfl, Nat.le_of_ble_eq_true rfl⟩ rfl hl.1 rfl (Nat.le_of_ble_eq_true rfl) ⟨Nat.le_refl _, Nat.le_refl _⟩ dX12_would_44 (fun H locs hw => ?_)
            refine lv_goto (tgt := 36) hx hb dX12_would_47 (by decide) ?_
            obtain rfl := Option.some.inj hf
            exact ih _ hg _ _ _ _ hw (lv_sub hl [0, 1] rfl) hz
      clear eb
      obtain ⟨z, hz, hf⟩ := bB_e hf
      obtain ⟨n, hz⟩ := bP_e hz
      exact RL36 n z hf _ _ _ _ hw (lv_sub hl [0, 1] rfl) hz
    clear ej
    obtain ⟨b12, eb, hf⟩ := bL_e hf
    have RL12 : ∀ (n : Nat) z, (u1 g36_12) z = some (r, S2) → ∀ (l2_15 : Int32) (S_16 : pS) (H : Heap) (locs : List Loc) (ls : Array Slot), Wd Z s S_16 H locs → lv_has ls 4 [(0, .ref (za Z 0)), (1, .int a1), (2, .int l2_15)] → bPn b12 n (l2_15, S_16) = some z → W p l e { frames := 10, cells := 0, slots := 0, locals := 231 } s m args below meth c H locs 0 0 Q (F0 m 12 ls []) := by
      intro n
      induction n with
      | zero =>
        intro z hg l2_15 S_16 H locs ls hw hl hz
        exact bPn_0 hz
      | succ n ih =>
        intro z hg l2_15 S_16 H locs ls hw hl hz
        obtain ⟨q_17, hf, hz⟩ := bPn_e hz
        have hf := u2_e ((congrFun eb _).symm.trans hf)
        refine lv_iload_n hx hb dX12_would_12 rfl (lv_at hl 2 rfl) ?_
        refine lv_bipush hx hb dX12_would_13 kb_60 ?_
        refine lv_icmp_ge (tgt := 36) hx hb dX12_would_15 (by decide) (fun c_20 => ?_) (fun c_20 => ?_)
        · have hf := (if_pos c_20).symm.trans hf
          obtain rfl := Option.some.inj hf
          obtain rfl := Option.some.inj (hz : some _ = some _)
          exact R36_12 _ _ _ _ hw (lv_sub hl [0, 1] rfl) hg
        · have hf := (if_neg c_20).symm.trans hf
          refine lv_aload_n hx hb dX12_would_18 rfl (lv_at hl 0 rfl) ?_
          refine gF G hw (m_this hZ) KX12 11 (k2 := 10) rfl (by decide) rfl fl_X12_37 dX12_would_19 ?_
          refine lv_iload_n hx hb dX12_would_22 rfl (lv_at hl 2 rfl) ?_
          refine lv_aload_n hx hb dX12_would_23 rfl (lv_at hl 0 rfl) ?_
          refine gF G hw (m_this hZ) KX12 0 (k2 := 1) rfl (by decide) rfl fl_X12_7 dX12_would_24 ?_
          refine lv_iload_n hx hb dX12_would_27 rfl (lv_at hl 2 rfl) ?_
          obtain ⟨hg1, hf⟩ := bG_e hf
          refine aI G hw (m_w hZ) hg1 (j := l2_15.toNatClampNeg) rfl dX12_would_28 ?_
          obtain ⟨hg1, hf⟩ := bG_e hf
          obtain ⟨S_18, eS_18, hf⟩ := bL_e hf
          refine sI G hw (m_lying hZ) hg1 (j := l2_15.toNatClampNeg) rfl eS_18 dX12_would_29 (fun H locs hw => ?_)
          obtain ⟨l2_19, el2_19, hf⟩ := bL_e hf
          refine lv_iinc (v := l2_19) (lv' := [(2, .int l2_19), (0, .ref (za Z 0)), (1, .int a1)]) hx hb dX12_would_30 hl (k := 2) rfl (by rw [el2_19]; rfl) (by decide) rfl (fun ls hl => ?_)
          refine lv_goto (tgt := 12) hx hb dX12_would_33 (by decide) ?_
          obtain rfl := Option.some.inj hf
          exact ih _ hg _ _ _ _ _ hw (lv_sub hl [1, 2, 0] rfl) hz
    clear eb
    obtain ⟨z, hz, hf⟩ := bB_e hf
    obtain ⟨n, hz⟩ := bP_e hz
    exact RL12 n z hf _ _ _ _ _ hw (lv_sub hl [1, 2, 0] rfl) hz
  · have hf := (if_pos c_21).symm.trans hf
    refine lv_iconst hx hb dX12_would_8 ki_m1 ?_
    obtain ⟨e1, e2⟩ := Prod.mk.inj (Option.some.inj hf)
    exact hret _ _ _ _ _ dX12_would_9 e1 (by rw [← e2]; exact hw)
noncomputable def F12_verdict (S : pS) (a1 : Int32) : Int64 :=
  if (F12_isIn a1 0 1000) = 0 then
    ((-1) : Int64)
  else
    bL (1000 - ((a1 : Int32).toInt64)) fun l2_1 =>
    (l2_1 * l2_1) * (l2_1 + (3 * ((a1 : Int32).toInt64)))
set_option maxRecDepth 100000 in
set_option maxHeartbeats 4000000 in
theorem wX12_verdict {l : Launch} {Z : pZ}  (hZ : CM Z) (S : pS) (a1 : Int32) (r : Int64)  (hf : F12_verdict S a1 = r) : CL l Z yX12_verdict cX12_verdict 4 4 82 [.ref (za Z 0), .int a1] S r S := by
  unfold F12_verdict at hf
  refine eL (own := RX12) (by decide) rfl (Nat.le_of_ble_eq_true rfl) (fun p e s m args below meth c Q ls G hl hw hret => ?_)
  obtain ⟨hx, hb, hml, hown, hts⟩ := G.1
  have hl : lv_has ls 4 [(0, .ref (za Z 0)), (1, .int a1)] := hl
  refine lv_iload_n hx hb dX12_verdict_0 rfl (lv_at hl 1 rfl) ?_
  refine lv_iconst hx hb dX12_verdict_1 ki_0 ?_
  refine lv_sipush hx hb dX12_verdict_2 ks_1000 ?_
  refine kSi (rest := []) G hw (wX12_isIn hZ S a1 0 1000 (F12_isIn a1 0 1000) rfl) cw_X12_71 ⟨Nat.le_of_ble_eq_true rfl, Nat.le_of_ble_eq_true rfl⟩ rfl hl.1 rfl (Nat.le_of_ble_eq_true rfl) ⟨Nat.le_refl _, Nat.le_refl _⟩ dX12_verdict_5 (fun H locs hw => ?_)
  refine lv_if_ne (tgt := 15) hx hb dX12_verdict_8 (by decide) (fun c_2 => ?_) (fun c_2 => ?_)
  · have hf := (if_neg c_2).symm.trans hf
    refine lv_ldc2 hx hb hown (hts _ cl_X12_469) dX12_verdict_15 ?_
    refine lv_iload_n hx hb dX12_verdict_18 rfl (lv_at hl 1 rfl) ?_
    refine lv_i2l hx hb dX12_verdict_19 rfl ?_
    refine lv_lsub hx hb dX12_verdict_20 ?_
    obtain ⟨l2_1, el2_1, hf⟩ := bL_e hf
    refine top_l el2_1 ?_
    refine lv_lstore_n (lv' := [(2, .long l2_1), (0, .ref (za Z 0)), (1, .int a1)]) hx hb dX12_verdict_21 rfl hl (by decide) rfl (fun ls hl => ?_)
    refine lv_lload_n hx hb dX12_verdict_22 rfl (lv_at hl 0 rfl) ?_
    refine lv_lload_n hx hb dX12_verdict_23 rfl (lv_at hl 0 rfl) ?_
    refine lv_lmul hx hb dX12_verdict_24 ?_
    refine lv_lload_n hx hb dX12_verdict_25 rfl (lv_at hl 0 rfl) ?_
    refine lv_ldc2 hx hb hown (hts _ cl_X12_471) dX12_verdict_26 ?_
    refine lv_iload_n hx hb dX12_verdict_29 rfl (lv_at hl 2 rfl) ?_
    refine lv_i2l hx hb dX12_verdict_30 rfl ?_
    refine lv_lmul hx hb dX12_verdict_31 ?_
    refine lv_ladd hx hb dX12_verdict_32 ?_
    refine lv_lmul hx hb dX12_verdict_33 ?_
    exact hret _ _ _ _ _ dX12_verdict_34 hf hw
  · have hf := (if_pos c_2).symm.trans hf
    refine lv_ldc2 hx hb hown (hts _ cl_X12_452) dX12_verdict_11 ?_
    exact hret _ _ _ _ _ dX12_verdict_14 hf hw
noncomputable def F12_trains (S : pS) (a1 : Int32) (a2 : Int32) (a3 : Int32) (a4 : Int32) (a5 : Int32) : Option (Int32 × pS) :=
  bL (fun (l6_1 : Int32) (S_2 : pS) =>
    bL (fun (S_3 : pS) =>
      some (l6_1, S_3)) fun g254_214 =>
    bL (u2 fun (l7_4 : Int32) (S_5 : pS) =>
      if l6_1 ≤ l7_4 then
        some (.inr S_5)
      else
        bG (vp_in l7_4 100100) <|
        bG (vp_in l7_4 100100) <|
        bL (sU S_5 11 l7_4.toNatClampNeg (S_5 12 l7_4.toNatClampNeg)) fun S_7 =>
        bG (vp_in l7_4 100100) <|
        bG (vp_in (S_7 11 l7_4.toNatClampNeg) 100100) <|
        bL (sU S_7 13 ((S_7 11 l7_4.toNatClampNeg).toNatClampNeg) ((0 : Int32) &&& 1)) fun S_8 =>
        bL (l7_4 + 1) fun l7_9 =>
        some (.inl (l7_9, S_8))) fun b214 =>
    bB (bP b214 ((0 : Int32), S_2)) (u1 g254_214)) fun g211_6 =>
  bL (u3 fun (l6_11 : Int32) (l7_12 : Int32) (S_13 : pS) =>
    if a1 ≤ l7_12 then
      some (.inr (l6_11, S_13))
    else
      bL (fun (l6_15 : Int32) (S_16 : pS) =>
        bL (l7_12 + 1) fun l7_17 =>
        some (.inl (l6_15, l7_17, S_16))) fun g205_15 =>
      bL (u3 fun (l6_18 : Int32) (l8_19 : Int32) (S_20 : pS) =>
        if a4 < l8_19 then
          some (.inr (l6_18, S_20))
        else
          bL (sU S_20 9 18 l8_19) fun S_22 =>
          bG (vp_in l7_12 100100) <|
          bL (sU S_22 9 14 ((S_22 11 l7_12.toNatClampNeg) / 1001)) fun S_23 =>
          bG (vp_in l7_12 100100) <|
          bL (sU S_23 9 13 ((S_23 11 l7_12.toNatClampNeg) - (S_23 11 l7_12.toNatClampNeg) / 1001 * 1001)) fun S_24 =>
          bL (sU S_24 9 19 a2) fun S_25 =>
          bG (vp_in l7_12 100100) <|
          bB2 (F12_lawSays S_25 2 27 0 9) fun r_26 S_27 =>
          bL (F12_lesser 99 (((S_25 11 l7_12.toNatClampNeg) / 1001) + r_26)) fun l9_28 =>
          bG (vp_in l7_12 100100) <|
          bB2 (F12_lawSays S_27 2 28 (-200) 200) fun r_29 S_30 =>
          bL (F12_held (((S_27 11 l7_12.toNatClampNeg) - (S_27 11 l7_12.toNatClampNeg) / 1001 * 1001) + r_29) 0 1000) fun l10_31 =>
          bL (fun (l6_32 : Int32) (S_33 : pS) =>
            bL (l8_19 + 1) fun l8_34 =>
            some (.inl (l6_32, l8_34, S_33))) fun j199 =>
          if a5 < l10_31 then
            j199 l6_18 S_30
          else
            bG (vp_in ((1001 * l9_28) + l10_31) 100100) <|
            if (S_30 13 (((1001 * l9_28) + l10_31).toNatClampNeg)) = 0 then
              bG (vp_in ((1001 * l9_28) + l10_31) 100100) <|
              bL (sU S_30 13 (((1001 * l9_28) + l10_31).toNatClampNeg) ((1 : Int32) &&& 1)) fun S_35 =>
              bG (vp_in l6_18 100100) <|
              bL (sU S_35 12 l6_18.toNatClampNeg ((1001 * l9_28) + l10_31)) fun S_36 =>
              bL (l6_18 + 1) fun l6_37 =>
              j199 l6_37 S_36
            else
              j199 l6_18 S_30) fun b15 =>
      bB (bP b15 (l6_11, a3, S_13)) (u2 g205_15)) fun b6 =>
  bB (bP b6 ((0 : Int32), (0 : Int32), S)) (u2 g211_6)
set_option maxRecDepth 100000 in
set_option maxHeartbeats 4000000 in
theorem wX12_trains {l : Launch} {Z : pZ}  (hZ : CM Z) (S : pS) (a1 : Int32) (a2 : Int32) (a3 : Int32) (a4 : Int32) (a5 : Int32) (r : Int32) (S2 : pS)  (hf : F12_trains S a1 a2 a3 a4 a5 = some (r, S2)) : CI l Z yX12_trains cX12_trains 11 .int 6 134 [.ref (za Z 0), .int a1, .int a2, .int a3, .int a4, .int a5] S r S2 := by
  unfold F12_trains at hf
  refine eI (own := RX12) (by decide) rfl (Nat.le_of_ble_eq_true rfl) (fun p e s m args below meth c Q ls G hl hw hret => ?_)
  obtain ⟨hx, hb, hml, hown, hts⟩ := G.1
  have hl : lv_has ls 11 [(0, .ref (za Z 0)), (1, .int a1), (2, .int a2), (3, .int a3), (4, .int a4), (5, .int a5)] := hl
  refine lv_iconst hx hb dX12_trains_0 ki_0 ?_
  refine lv_istore (lv' := [(6, .int 0), (0, .ref (za Z 0)), (1, .int a1), (2, .int a2), (3, .int a3), (4, .int a4), (5, .int a5)]) hx hb dX12_trains_1 hl (by decide) rfl (fun ls hl => ?_)
  refine lv_iconst hx hb dX12_trains_3 ki_0 ?_
  refine lv_istore (lv' := [(7, .int 0), (6, .int 0), (0, .ref (za Z 0)), (1, .int a1), (2, .int a2), (3, .int a3), (4, .int a4), (5, .int a5)]) hx hb dX12_trains_4 hl (by decide) rfl (fun ls hl => ?_)
  obtain ⟨g211_6, ej, hf⟩ := bL_e hf
  have R211_6 : ∀ (l6_1 : Int32) (S_2 : pS) (H : Heap) (locs : List Loc) (ls : Array Slot), Wd Z s S_2 H locs → lv_has ls 11 [(0, .ref (za Z 0)), (6, .int l6_1)] → g211_6 l6_1 S_2 = some (r, S2) → W p l e { frames := 6, cells := 0, slots := 0, locals := 134 } s m args below meth c H locs 0 0 Q (F0 m 211 ls []) := by
    intro l6_1 S_2 H locs ls hw hl hf
    have hf := (congrFun (congrFun ej l6_1) S_2).symm.trans hf
    refine lv_iconst hx hb dX12_trains_211 ki_0 ?_
    refine lv_istore (lv' := [(7, .int 0), (0, .ref (za Z 0)), (6, .int l6_1)]) hx hb dX12_trains_212 hl (by decide) rfl (fun ls hl => ?_)
    obtain ⟨g254_214, ej, hf⟩ := bL_e hf
    have R254_214 : ∀ (S_3 : pS) (H : Heap) (locs : List Loc) (ls : Array Slot), Wd Z s S_3 H locs → lv_has ls 11 [(6, .int l6_1)] → g254_214 S_3 = some (r, S2) → W p l e { frames := 6, cells := 0, slots := 0, locals := 134 } s m args below meth c H locs 0 0 Q (F0 m 254 ls []) := by
      intro S_3 H locs ls hw hl hf
      have hf := (congrFun ej S_3).symm.trans hf
      refine lv_iload hx hb dX12_trains_254 (lv_at hl 0 rfl) ?_
      obtain ⟨e1, e2⟩ := Prod.mk.inj (Option.some.inj hf)
      exact hret _ _ _ _ _ dX12_trains_256 e1 (by rw [← e2]; exact hw)
    clear ej
    obtain ⟨b214, eb, hf⟩ := bL_e hf
    have RL214 : ∀ (n : Nat) z, (u1 g254_214) z = some (r, S2) → ∀ (l7_4 : Int32) (S_5 : pS) (H : Heap) (locs : List Loc) (ls : Array Slot), Wd Z s S_5 H locs → lv_has ls 11 [(0, .ref (za Z 0)), (6, .int l6_1), (7, .int l7_4)] → bPn b214 n (l7_4, S_5) = some z → W p l e { frames := 6, cells := 0, slots := 0, locals := 134 } s m args below meth c H locs 0 0 Q (F0 m 214 ls []) := by
      intro n
      induction n with
      | zero =>
        intro z hg l7_4 S_5 H locs ls hw hl hz
        exact bPn_0 hz
      | succ n ih =>
        intro z hg l7_4 S_5 H locs ls hw hl hz
        obtain ⟨q_6, hf, hz⟩ := bPn_e hz
        have hf := u2_e ((congrFun eb _).symm.trans hf)
        refine lv_iload hx hb dX12_trains_214 (lv_at hl 2 rfl) ?_
        refine lv_iload hx hb dX12_trains_216 (lv_at hl 1 rfl) ?_
        refine lv_icmp_ge (tgt := 254) hx hb dX12_trains_218 (by decide) (fun c_10 => ?_) (fun c_10 => ?_)
        · have hf := (if_pos c_10).symm.trans hf
          obtain rfl := Option.some.inj hf
          obtain rfl := Option.some.inj (hz : some _ = some _)
          exact R254_214 _ _ _ _ hw (lv_sub hl [1] rfl) hg
        · have hf := (if_neg c_10).symm.trans hf
          refine lv_aload_n hx hb dX12_trains_221 rfl (lv_at hl 0 rfl) ?_
          refine gF G hw (m_this hZ) KX12 40 (k2 := 11) rfl (by decide) rfl fl_X12_45 dX12_trains_222 ?_
          refine lv_iload hx hb dX12_trains_225 (lv_at hl 2 rfl) ?_
          refine lv_aload_n hx hb dX12_trains_227 rfl (lv_at hl 0 rfl) ?_
          refine gF G hw (m_this hZ) KX12 41 (k2 := 12) rfl (by decide) rfl fl_X12_48 dX12_trains_228 ?_
          refine lv_iload hx hb dX12_trains_231 (lv_at hl 2 rfl) ?_
          obtain ⟨hg1, hf⟩ := bG_e hf
          refine aI G hw (m_reachNext hZ) hg1 (j := l7_4.toNatClampNeg) rfl dX12_trains_233 ?_
          obtain ⟨hg1, hf⟩ := bG_e hf
          obtain ⟨S_7, eS_7, hf⟩ := bL_e hf
          refine sI G hw (m_reach hZ) hg1 (j := l7_4.toNatClampNeg) rfl eS_7 dX12_trains_234 (fun H locs hw => ?_)
          refine lv_aload_n hx hb dX12_trains_235 rfl (lv_at hl 0 rfl) ?_
          refine gF G hw (m_this hZ) KX12 42 (k2 := 13) rfl (by decide) rfl fl_X12_51 dX12_trains_236 ?_
          refine lv_aload_n hx hb dX12_trains_239 rfl (lv_at hl 0 rfl) ?_
          refine gF G hw (m_this hZ) KX12 40 (k2 := 11) rfl (by decide) rfl fl_X12_45 dX12_trains_240 ?_
          refine lv_iload hx hb dX12_trains_243 (lv_at hl 2 rfl) ?_
          obtain ⟨hg1, hf⟩ := bG_e hf
          refine aI G hw (m_reach hZ) hg1 (j := l7_4.toNatClampNeg) rfl dX12_trains_245 ?_
          refine lv_iconst hx hb dX12_trains_246 ki_0 ?_
          obtain ⟨hg1, hf⟩ := bG_e hf
          obtain ⟨S_8, eS_8, hf⟩ := bL_e hf
          refine sZ G hw (m_mark hZ) hg1 (j := (S_7 11 l7_4.toNatClampNeg).toNatClampNeg) rfl eS_8 dX12_trains_247 (fun H locs hw => ?_)
          obtain ⟨l7_9, el7_9, hf⟩ := bL_e hf
          refine lv_iinc (v := l7_9) (lv' := [(7, .int l7_9), (0, .ref (za Z 0)), (6, .int l6_1)]) hx hb dX12_trains_248 hl (k := 2) rfl (by rw [el7_9]; rfl) (by decide) rfl (fun ls hl => ?_)
          refine lv_goto (tgt := 214) hx hb dX12_trains_251 (by decide) ?_
          obtain rfl := Option.some.inj hf
          exact ih _ hg _ _ _ _ _ hw (lv_sub hl [1, 2, 0] rfl) hz
    clear eb
    obtain ⟨z, hz, hf⟩ := bB_e hf
    obtain ⟨n, hz⟩ := bP_e hz
    exact RL214 n z hf _ _ _ _ _ hw (lv_sub hl [1, 2, 0] rfl) hz
  clear ej
  obtain ⟨b6, eb, hf⟩ := bL_e hf
  have RL6 : ∀ (n : Nat) z, (u2 g211_6) z = some (r, S2) → ∀ (l6_11 : Int32) (l7_12 : Int32) (S_13 : pS) (H : Heap) (locs : List Loc) (ls : Array Slot), Wd Z s S_13 H locs → lv_has ls 11 [(0, .ref (za Z 0)), (1, .int a1), (2, .int a2), (3, .int a3), (4, .int a4), (5, .int a5), (6, .int l6_11), (7, .int l7_12)] → bPn b6 n (l6_11, l7_12, S_13) = some z → W p l e { frames := 6, cells := 0, slots := 0, locals := 134 } s m args below meth c H locs 0 0 Q (F0 m 6 ls []) := by
    intro n
    induction n with
    | zero =>
      intro z hg l6_11 l7_12 S_13 H locs ls hw hl hz
      exact bPn_0 hz
    | succ n ih =>
      intro z hg l6_11 l7_12 S_13 H locs ls hw hl hz
      obtain ⟨q_14, hf, hz⟩ := bPn_e hz
      have hf := u3_e ((congrFun eb _).symm.trans hf)
      refine lv_iload hx hb dX12_trains_6 (lv_at hl 7 rfl) ?_
      refine lv_iload_n hx hb dX12_trains_8 rfl (lv_at hl 1 rfl) ?_
      refine lv_icmp_ge (tgt := 211) hx hb dX12_trains_9 (by decide) (fun c_41 => ?_) (fun c_41 => ?_)
      · have hf := (if_pos c_41).symm.trans hf
        obtain rfl := Option.some.inj hf
        obtain rfl := Option.some.inj (hz : some _ = some _)
        exact R211_6 _ _ _ _ _ hw (lv_sub hl [0, 6] rfl) hg
      · have hf := (if_neg c_41).symm.trans hf
        refine lv_iload_n hx hb dX12_trains_12 rfl (lv_at hl 3 rfl) ?_
        refine lv_istore (lv' := [(8, .int a3), (0, .ref (za Z 0)), (1, .int a1), (2, .int a2), (3, .int a3), (4, .int a4), (5, .int a5), (6, .int l6_11), (7, .int l7_12)]) hx hb dX12_trains_13 hl (by decide) rfl (fun ls hl => ?_)
        obtain ⟨g205_15, ej, hf⟩ := bL_e hf
        have R205_15 : ∀ (l6_15 : Int32) (S_16 : pS) (H : Heap) (locs : List Loc) (ls : Array Slot), Wd Z s S_16 H locs → lv_has ls 11 [(0, .ref (za Z 0)), (1, .int a1), (2, .int a2), (3, .int a3), (4, .int a4), (5, .int a5), (6, .int l6_15), (7, .int l7_12)] → g205_15 l6_15 S_16 = some q_14 → W p l e { frames := 6, cells := 0, slots := 0, locals := 134 } s m args below meth c H locs 0 0 Q (F0 m 205 ls []) := by
          intro l6_15 S_16 H locs ls hw hl hf
          have hf := (congrFun (congrFun ej l6_15) S_16).symm.trans hf
          obtain ⟨l7_17, el7_17, hf⟩ := bL_e hf
          refine lv_iinc (v := l7_17) (lv' := [(7, .int l7_17), (0, .ref (za Z 0)), (1, .int a1), (2, .int a2), (3, .int a3), (4, .int a4), (5, .int a5), (6, .int l6_15)]) hx hb dX12_trains_205 hl (k := 7) rfl (by rw [el7_17]; rfl) (by decide) rfl (fun ls hl => ?_)
          refine lv_goto (tgt := 6) hx hb dX12_trains_208 (by decide) ?_
          obtain rfl := Option.some.inj hf
          exact ih _ hg _ _ _ _ _ _ hw (lv_sub hl [1, 2, 3, 4, 5, 6, 7, 0] rfl) hz
        clear ej
        obtain ⟨b15, eb, hf⟩ := bL_e hf
        have RL15 : ∀ (n : Nat) z, (u2 g205_15) z = some q_14 → ∀ (l6_18 : Int32) (l8_19 : Int32) (S_20 : pS) (H : Heap) (locs : List Loc) (ls : Array Slot), Wd Z s S_20 H locs → lv_has ls 11 [(0, .ref (za Z 0)), (1, .int a1), (2, .int a2), (3, .int a3), (4, .int a4), (5, .int a5), (6, .int l6_18), (7, .int l7_12), (8, .int l8_19)] → bPn b15 n (l6_18, l8_19, S_20) = some z → W p l e { frames := 6, cells := 0, slots := 0, locals := 134 } s m args below meth c H locs 0 0 Q (F0 m 15 ls []) := by
          intro n
          induction n with
          | zero =>
            intro z hg l6_18 l8_19 S_20 H locs ls hw hl hz
            exact bPn_0 hz
          | succ n ih =>
            intro z hg l6_18 l8_19 S_20 H locs ls hw hl hz
            obtain ⟨q_21, hf, hz⟩ := bPn_e hz
            have hf := u3_e ((congrFun eb _).symm.trans hf)
            refine lv_iload hx hb dX12_trains_15 (lv_at hl 8 rfl) ?_
            refine lv_iload hx hb dX12_trains_17 (lv_at hl 4 rfl) ?_
            refine lv_icmp_gt (tgt := 205) hx hb dX12_trains_19 (by decide) (fun c_40 => ?_) (fun c_40 => ?_)
            · have hf := (if_pos c_40).symm.trans hf
              obtain rfl := Option.some.inj hf
              obtain rfl := Option.some.inj (hz : some _ = some _)
              exact R205_15 _ _ _ _ _ hw (lv_sub hl [0, 1, 2, 3, 4, 5, 6, 7] rfl) hg
            · have hf := (if_neg c_40).symm.trans hf
              refine lv_aload_n hx hb dX12_trains_22 rfl (lv_at hl 0 rfl) ?_
              refine gF G hw (m_this hZ) KX12 10 (k2 := 9) rfl (by decide) rfl fl_X12_34 dX12_trains_23 ?_
              refine lv_bipush hx hb dX12_trains_26 kb_18 ?_
              refine lv_iload hx hb dX12_trains_28 (lv_at hl 8 rfl) ?_
              obtain ⟨S_22, eS_22, hf⟩ := bL_e hf
              refine sI G hw (m_facts hZ) (vin_e (by decide)) (j := 18) (by decide) eS_22 dX12_trains_30 (fun H locs hw => ?_)
              refine lv_aload_n hx hb dX12_trains_31 rfl (lv_at hl 0 rfl) ?_
              refine gF G hw (m_this hZ) KX12 10 (k2 := 9) rfl (by decide) rfl fl_X12_34 dX12_trains_32 ?_
              refine lv_bipush hx hb dX12_trains_35 kb_14 ?_
              refine lv_aload_n hx hb dX12_trains_37 rfl (lv_at hl 0 rfl) ?_
              refine gF G hw (m_this hZ) KX12 40 (k2 := 11) rfl (by decide) rfl fl_X12_45 dX12_trains_38 ?_
              refine lv_iload hx hb dX12_trains_41 (lv_at hl 7 rfl) ?_
              obtain ⟨hg1, hf⟩ := bG_e hf
              refine aI G hw (m_reach hZ) hg1 (j := l7_12.toNatClampNeg) rfl dX12_trains_43 ?_
              refine lv_sipush hx hb dX12_trains_44 ks_1001 ?_
              refine lv_idiv hx hb dX12_trains_47 (by decide) ?_
              obtain ⟨S_23, eS_23, hf⟩ := bL_e hf
              refine sI G hw (m_facts hZ) (vin_e (by decide)) (j := 14) (by decide) eS_23 dX12_trains_48 (fun H locs hw => ?_)
              refine lv_aload_n hx hb dX12_trains_49 rfl (lv_at hl 0 rfl) ?_
              refine gF G hw (m_this hZ) KX12 10 (k2 := 9) rfl (by decide) rfl fl_X12_34 dX12_trains_50 ?_
              refine lv_bipush hx hb dX12_trains_53 kb_13 ?_
              refine lv_aload_n hx hb dX12_trains_55 rfl (lv_at hl 0 rfl) ?_
              refine gF G hw (m_this hZ) KX12 40 (k2 := 11) rfl (by decide) rfl fl_X12_45 dX12_trains_56 ?_
              refine lv_iload hx hb dX12_trains_59 (lv_at hl 7 rfl) ?_
              obtain ⟨hg1, hf⟩ := bG_e hf
              refine aI G hw (m_reach hZ) hg1 (j := l7_12.toNatClampNeg) rfl dX12_trains_61 ?_
              refine lv_sipush hx hb dX12_trains_62 ks_1001 ?_
              refine lv_irem hx hb dX12_trains_65 (by decide) ?_
              obtain ⟨S_24, eS_24, hf⟩ := bL_e hf
              refine sI G hw (m_facts hZ) (vin_e (by decide)) (j := 13) (by decide) eS_24 dX12_trains_66 (fun H locs hw => ?_)
              refine lv_aload_n hx hb dX12_trains_67 rfl (lv_at hl 0 rfl) ?_
              refine gF G hw (m_this hZ) KX12 10 (k2 := 9) rfl (by decide) rfl fl_X12_34 dX12_trains_68 ?_
              refine lv_bipush hx hb dX12_trains_71 kb_19 ?_
              refine lv_iload_n hx hb dX12_trains_73 rfl (lv_at hl 2 rfl) ?_
              obtain ⟨S_25, eS_25, hf⟩ := bL_e hf
              refine sI G hw (m_facts hZ) (vin_e (by decide)) (j := 19) (by decide) eS_25 dX12_trains_74 (fun H locs hw => ?_)
              refine lv_bipush hx hb dX12_trains_75 kb_99 ?_
              refine lv_aload_n hx hb dX12_trains_77 rfl (lv_at hl 0 rfl) ?_
              refine gF G hw (m_this hZ) KX12 40 (k2 := 11) rfl (by decide) rfl fl_X12_45 dX12_trains_78 ?_
              refine lv_iload hx hb dX12_trains_81 (lv_at hl 7 rfl) ?_
              obtain ⟨hg1, hf⟩ := bG_e hf
              refine aI G hw (m_reach hZ) hg1 (j := l7_12.toNatClampNeg) rfl dX12_trains_83 ?_
              refine lv_sipush hx hb dX12_trains_84 ks_1001 ?_
              refine lv_idiv hx hb dX12_trains_87 (by decide) ?_
              refine lv_aload_n hx hb dX12_trains_88 rfl (lv_at hl 0 rfl) ?_
              refine lv_iconst hx hb dX12_trains_89 ki_2 ?_
              refine lv_bipush hx hb dX12_trains_90 kb_27 ?_
              refine lv_iconst hx hb dX12_trains_92 ki_0 ?_
              refine lv_bipush hx hb dX12_trains_93 kb_9 ?_
              obtain ⟨r_26, S_27, hr_26, hf⟩ := bB2_e hf
              refine kVi (rest := [.int ((S_25 11 l7_12.toNatClampNeg) / 1001), .int 99]) G hw (wX12_lawSays hZ S_25 2 27 0 9 r_26 S_27 hr_26) cw_X12_327 (m_this hZ) KX12 ⟨Nat.le_of_ble_eq_true rfl, Nat.le_of_ble_eq_true rfl⟩ rfl hl.1 rfl (Nat.le_of_ble_eq_true rfl) ⟨Nat.le_refl _, Nat.le_refl _⟩ dX12_trains_95 (fun H locs hw => ?_)
              refine lv_iadd hx hb dX12_trains_98 ?_
              refine kSi (rest := []) G hw (wX12_lesser hZ S_27 99 (((S_25 11 l7_12.toNatClampNeg) / 1001) + r_26) (F12_lesser 99 (((S_25 11 l7_12.toNatClampNeg) / 1001) + r_26)) rfl) cw_X12_64 ⟨Nat.le_of_ble_eq_true rfl, Nat.le_of_ble_eq_true rfl⟩ rfl hl.1 rfl (Nat.le_of_ble_eq_true rfl) ⟨Nat.le_refl _, Nat.le_refl _⟩ dX12_trains_99 (fun H locs hw => ?_)
              obtain ⟨l9_28, el9_28, hf⟩ := bL_e hf
              refine top_i el9_28 ?_
              refine lv_istore (lv' := [(9, .int l9_28), (0, .ref (za Z 0)), (1, .int a1), (2, .int a2), (3, .int a3), (4, .int a4), (5, .int a5), (6, .int l6_18), (7, .int l7_12), (8, .int l8_19)]) hx hb dX12_trains_102 hl (by decide) rfl (fun ls hl => ?_)
              refine lv_aload_n hx hb dX12_trains_104 rfl (lv_at hl 1 rfl) ?_
              refine gF G hw (m_this hZ) KX12 40 (k2 := 11) rfl (by decide) rfl fl_X12_45 dX12_trains_105 ?_
              refine lv_iload hx hb dX12_trains_108 (lv_at hl 8 rfl) ?_
              obtain ⟨hg1, hf⟩ := bG_e hf
              refine aI G hw (m_reach hZ) hg1 (j := l7_12.toNatClampNeg) rfl dX12_trains_110 ?_
              refine lv_sipush hx hb dX12_trains_111 ks_1001 ?_
              refine lv_irem hx hb dX12_trains_114 (by decide) ?_
              refine lv_aload_n hx hb dX12_trains_115 rfl (lv_at hl 1 rfl) ?_
              refine lv_iconst hx hb dX12_trains_116 ki_2 ?_
              refine lv_bipush hx hb dX12_trains_117 kb_28 ?_
              refine lv_sipush hx hb dX12_trains_119 ks_m200 ?_
              refine lv_sipush hx hb dX12_trains_122 ks_200 ?_
              obtain ⟨r_29, S_30, hr_29, hf⟩ := bB2_e hf
              refine kVi (rest := [.int ((S_27 11 l7_12.toNatClampNeg) - (S_27 11 l7_12.toNatClampNeg) / 1001 * 1001)]) G hw (wX12_lawSays hZ S_27 2 28 (-200) 200 r_29 S_30 hr_29) cw_X12_327 (m_this hZ) KX12 ⟨Nat.le_of_ble_eq_true rfl, Nat.le_of_ble_eq_true rfl⟩ rfl hl.1 rfl (Nat.le_of_ble_eq_true rfl) ⟨Nat.le_refl _, Nat.le_refl _⟩ dX12_trains_125 (fun H locs hw => ?_)
              refine lv_iadd hx hb dX12_trains_128 ?_
              refine lv_iconst hx hb dX12_trains_129 ki_0 ?_
              refine lv_sipush hx hb dX12_trains_130 ks_1000 ?_
              refine kSi (rest := []) G hw (wX12_held hZ S_30 (((S_27 11 l7_12.toNatClampNeg) - (S_27 11 l7_12.toNatClampNeg) / 1001 * 1001) + r_29) 0 1000 (F12_held (((S_27 11 l7_12.toNatClampNeg) - (S_27 11 l7_12.toNatClampNeg) / 1001 * 1001) + r_29) 0 1000) rfl) cw_X12_321 ⟨Nat.le_of_ble_eq_true rfl, Nat.le_of_ble_eq_true rfl⟩ rfl hl.1 rfl (Nat.le_of_ble_eq_true rfl) ⟨Nat.le_refl _, Nat.le_refl _⟩ dX12_trains_133 (fun H locs hw => ?_)
              obtain ⟨l10_31, el10_31, hf⟩ := bL_e hf
              refine top_i el10_31 ?_
              refine lv_istore (lv' := [(10, .int l10_31), (9, .int l9_28), (0, .ref (za Z 0)), (1, .int a1), (2, .int a2), (3, .int a3), (4, .int a4), (5, .int a5), (6, .int l6_18), (7, .int l7_12), (8, .int l8_19)]) hx hb dX12_trains_136 hl (by decide) rfl (fun ls hl => ?_)
              refine lv_iload hx hb dX12_trains_138 (lv_at hl 0 rfl) ?_
              refine lv_iload hx hb dX12_trains_140 (lv_at hl 7 rfl) ?_
              obtain ⟨j199, ej, hf⟩ := bL_e hf
              have R199 : ∀ (l6_32 : Int32) (S_33 : pS) (H : Heap) (locs : List Loc) (ls : Array Slot), Wd Z s S_33 H locs → lv_has ls 11 [(0, .ref (za Z 0)), (1, .int a1), (2, .int a2), (3, .int a3), (4, .int a4), (5, .int a5), (6, .int l6_32), (7, .int l7_12), (8, .int l8_19)] → j199 l6_32 S_33 = some q_21 → W p l e { frames := 6, cells := 0, slots := 0, locals := 134 } s m args below meth c H locs 0 0 Q (F0 m 199 ls []) := by
                intro l6_32 S_33 H locs ls hw hl hf
                have hf := (congrFun (congrFun ej l6_32) S_33).symm.trans hf
                obtain ⟨l8_34, el8_34, hf⟩ := bL_e hf
                refine lv_iinc (v := l8_34) (lv' := [(8, .int l8_34), (0, .ref (za Z 0)), (1, .int a1), (2, .int a2), (3, .int a3), (4, .int a4), (5, .int a5), (6, .int l6_32), (7, .int l7_12)]) hx hb dX12_trains_199 hl (k := 8) rfl (by rw [el8_34]; rfl) (by decide) rfl (fun ls hl => ?_)
                refine lv_goto (tgt := 15) hx hb dX12_trains_202 (by decide) ?_
                obtain rfl := Option.some.inj hf
                exact ih _ hg _ _ _ _ _ _ hw (lv_sub hl [1, 2, 3, 4, 5, 6, 7, 8, 0] rfl) hz
              clear ej
              refine lv_icmp_gt (tgt := 199) hx hb dX12_trains_142 (by decide) (fun c_39 => ?_) (fun c_39 => ?_)
              · have hf := (if_pos c_39).symm.trans hf
                exact R199 _ _ _ _ _ hw (lv_sub hl [2, 3, 4, 5, 6, 7, 8, 9, 10] rfl) hf
              · have hf := (if_neg c_39).symm.trans hf
                refine lv_aload_n hx hb dX12_trains_145 rfl (lv_at hl 2 rfl) ?_
                refine gF G hw (m_this hZ) KX12 42 (k2 := 13) rfl (by decide) rfl fl_X12_51 dX12_trains_146 ?_
                refine lv_sipush hx hb dX12_trains_149 ks_1001 ?_
                refine lv_iload hx hb dX12_trains_152 (lv_at hl 1 rfl) ?_
                refine lv_imul hx hb dX12_trains_154 ?_
                refine lv_iload hx hb dX12_trains_155 (lv_at hl 0 rfl) ?_
                refine lv_iadd hx hb dX12_trains_157 ?_
                obtain ⟨hg1, hf⟩ := bG_e hf
                refine aZ G hw (m_mark hZ) hg1 (j := ((1001 * l9_28) + l10_31).toNatClampNeg) rfl dX12_trains_158 ?_
                refine lv_if_eq (tgt := 165) hx hb dX12_trains_159 (by decide) (fun c_38 => ?_) (fun c_38 => ?_)
                · have hf := (if_pos c_38).symm.trans hf
                  refine lv_aload_n hx hb dX12_trains_165 rfl (lv_at hl 2 rfl) ?_
                  refine gF G hw (m_this hZ) KX12 42 (k2 := 13) rfl (by decide) rfl fl_X12_51 dX12_trains_166 ?_
                  refine lv_sipush hx hb dX12_trains_169 ks_1001 ?_
                  refine lv_iload hx hb dX12_trains_172 (lv_at hl 1 rfl) ?_
                  refine lv_imul hx hb dX12_trains_174 ?_
                  refine lv_iload hx hb dX12_trains_175 (lv_at hl 0 rfl) ?_
                  refine lv_iadd hx hb dX12_trains_177 ?_
                  refine lv_iconst hx hb dX12_trains_178 ki_1 ?_
                  obtain ⟨hg1, hf⟩ := bG_e hf
                  obtain ⟨S_35, eS_35, hf⟩ := bL_e hf
                  refine sZ G hw (m_mark hZ) hg1 (j := ((1001 * l9_28) + l10_31).toNatClampNeg) rfl eS_35 dX12_trains_179 (fun H locs hw => ?_)
                  refine lv_aload_n hx hb dX12_trains_180 rfl (lv_at hl 2 rfl) ?_
                  refine gF G hw (m_this hZ) KX12 41 (k2 := 12) rfl (by decide) rfl fl_X12_48 dX12_trains_181 ?_
                  refine lv_iload hx hb dX12_trains_184 (lv_at hl 8 rfl) ?_
                  refine lv_sipush hx hb dX12_trains_186 ks_1001 ?_
                  refine lv_iload hx hb dX12_trains_189 (lv_at hl 1 rfl) ?_
                  refine lv_imul hx hb dX12_trains_191 ?_
                  refine lv_iload hx hb dX12_trains_192 (lv_at hl 0 rfl) ?_
                  refine lv_iadd hx hb dX12_trains_194 ?_
                  obtain ⟨hg1, hf⟩ := bG_e hf
                  obtain ⟨S_36, eS_36, hf⟩ := bL_e hf
                  refine sI G hw (m_reachNext hZ) hg1 (j := l6_18.toNatClampNeg) rfl eS_36 dX12_trains_195 (fun H locs hw => ?_)
                  obtain ⟨l6_37, el6_37, hf⟩ := bL_e hf
                  refine lv_iinc (v := l6_37) (lv' := [(6, .int l6_37), (10, .int l10_31), (9, .int l9_28), (0, .ref (za Z 0)), (1, .int a1), (2, .int a2), (3, .int a3), (4, .int a4), (5, .int a5), (7, .int l7_12), (8, .int l8_19)]) hx hb dX12_trains_196 hl (k := 8) rfl (by rw [el6_37]; rfl) (by decide) rfl (fun ls hl => ?_)
                  exact R199 _ _ _ _ _ hw (lv_sub hl [3, 4, 5, 6, 7, 8, 0, 9, 10] rfl) hf
                · have hf := (if_neg c_38).symm.trans hf
                  refine lv_goto (tgt := 199) hx hb dX12_trains_162 (by decide) ?_
                  exact R199 _ _ _ _ _ hw (lv_sub hl [2, 3, 4, 5, 6, 7, 8, 9, 10] rfl) hf
        clear eb
        obtain ⟨z, hz, hf⟩ := bB_e hf
        obtain ⟨n, hz⟩ := bP_e hz
        exact RL15 n z hf _ _ _ _ _ _ hw (lv_sub hl [1, 2, 3, 4, 5, 6, 7, 8, 0] rfl) hz
  clear eb
  obtain ⟨z, hz, hf⟩ := bB_e hf
  obtain ⟨n, hz⟩ := bP_e hz
  exact RL6 n z hf _ _ _ _ _ _ hw (lv_sub hl [2, 3, 4, 5, 6, 7, 1, 0] rfl) hz

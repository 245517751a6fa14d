noncomputable def F12_comesTo (S : pS) (a1 : Int32) (a2 : Int32) (a3 : Int32) : Option (Int32 × pS) :=
  bL (fun (S_1 : pS) =>
    some (S_1 8 0, S_1)) fun g186_6 =>
  bL (u3 fun (l4_2 : Int32) (l5_3 : Int32) (S_4 : pS) =>
    if a3 ≤ l5_3 then
      some (.inr S_4)
    else
      bG (vp_in ((836 + (820 * a1)) + (2 * l5_3)) 4296) <|
      bL (S_4 1 (((836 + (820 * a1)) + (2 * l5_3)).toNatClampNeg)) fun l6_6 =>
      bG (vp_in (((836 + (820 * a1)) + (2 * l5_3)) + 1) 4296) <|
      bL (S_4 1 ((((836 + (820 * a1)) + (2 * l5_3)) + 1).toNatClampNeg)) fun l7_7 =>
      bL (fun (l4_8 : Int32) (S_9 : pS) =>
        bL (l5_3 + 1) fun l5_10 =>
        some (.inl (l4_8, l5_10, S_9))) fun j180 =>
      if 23 ≤ l6_6 then
        if l6_6 = 26 then
          bG (vp_in (l4_2 - 1) 420) <|
          bG (¬ l7_7 = 0) <|
          bG (vp_in (l4_2 - 1) 420) <|
          bL (sU S_4 8 ((l4_2 - 1).toNatClampNeg) ((S_4 8 ((l4_2 - 1).toNatClampNeg)) / l7_7)) fun S_15 =>
          j180 l4_2 S_15
        else
          if l6_6 = 30 then
            bG (vp_in (l4_2 - 1) 420) <|
            bG (vp_in (l4_2 - 1) 420) <|
            bL (sU S_4 8 ((l4_2 - 1).toNatClampNeg) (1 - (S_4 8 ((l4_2 - 1).toNatClampNeg)))) fun S_13 =>
            j180 l4_2 S_13
          else
            bL (l4_2 + (-1)) fun l4_11 =>
            bG (vp_in (l4_11 - 1) 420) <|
            bG (vp_in l4_11 420) <|
            bG (vp_in (l4_11 - 1) 420) <|
            bL (sU S_4 8 ((l4_11 - 1).toNatClampNeg) (F12_both l6_6 (S_4 8 ((l4_11 - 1).toNatClampNeg)) (S_4 8 l4_11.toNatClampNeg))) fun S_12 =>
            j180 l4_11 S_12
      else
        bL (fun (t_17 : Int32) =>
          bG (vp_in l4_2 420) <|
          bL (sU S_4 8 l4_2.toNatClampNeg t_17) fun S_18 =>
          bL (l4_2 + 1) fun l4_19 =>
          j180 l4_19 S_18) fun j86 =>
        if l6_6 = 0 then
          j86 l7_7
        else
          bG (vp_in l6_6 20) <|
          j86 (S_4 9 l6_6.toNatClampNeg)) fun b6 =>
  bB (bP b6 ((0 : Int32), a2, S)) (u1 g186_6)
set_option maxRecDepth 100000 in
set_option maxHeartbeats 4000000 in
theorem wX12_comesTo {l : Launch} {Z : pZ}  (hZ : CM Z) (S : pS) (a1 : Int32) (a2 : Int32) (a3 : Int32) (r : Int32) (S2 : pS)  (hf : F12_comesTo S a1 a2 a3 = some (r, S2)) : CI l Z yX12_comesTo cX12_comesTo 8 .int 4 82 [.ref (za Z 0), .int a1, .int a2, .int a3] S r S2 := by
  unfold F12_comesTo at hf
  refine eI (own := RX12) (by decide) rfl (Nat.le_of_ble_eq_true rfl) (fun p e s m args below meth c Q ls G hl hw hret => ?_)
  obtain ⟨hx, hb, hml, hown, hts⟩ := G.1
  have hl : lv_has ls 8 [(0, .ref (za Z 0)), (1, .int a1), (2, .int a2), (3, .int a3)] := hl
  refine lv_iconst hx hb dX12_comesTo_0 ki_0 ?_
  refine lv_istore (lv' := [(4, .int 0), (0, .ref (za Z 0)), (1, .int a1), (2, .int a2), (3, .int a3)]) hx hb dX12_comesTo_1 hl (by decide) rfl (fun ls hl => ?_)
  refine lv_iload_n hx hb dX12_comesTo_3 rfl (lv_at hl 3 rfl) ?_
  refine lv_istore (lv' := [(5, .int a2), (4, .int 0), (0, .ref (za Z 0)), (1, .int a1), (2, .int a2), (3, .int a3)]) hx hb dX12_comesTo_4 hl (by decide) rfl (fun ls hl => ?_)
  obtain ⟨g186_6, ej, hf⟩ := bL_e hf
  have R186_6 : ∀ (S_1 : pS) (H : Heap) (locs : List Loc) (ls : Array Slot), Wd Z s S_1 H locs → lv_has ls 8 [(0, .ref (za Z 0))] → g186_6 S_1 = some (r, S2) → W p l e { frames := 4, cells := 0, slots := 0, locals := 82 } s m args below meth c H locs 0 0 Q (F0 m 186 ls []) := by
    intro S_1 H locs ls hw hl hf
    have hf := (congrFun ej S_1).symm.trans hf
    refine lv_aload_n hx hb dX12_comesTo_186 rfl (lv_at hl 0 rfl) ?_
    refine gF G hw (m_this hZ) KX12 9 (k2 := 8) rfl (by decide) rfl fl_X12_31 dX12_comesTo_187 ?_
    refine lv_iconst hx hb dX12_comesTo_190 ki_0 ?_
    refine aI G hw (m_pile hZ) (vin_e (by decide)) (j := 0) (by decide) dX12_comesTo_191 ?_
    obtain ⟨e1, e2⟩ := Prod.mk.inj (Option.some.inj hf)
    exact hret _ _ _ _ _ dX12_comesTo_192 e1 (by rw [← e2]; exact hw)
  clear ej
  obtain ⟨b6, eb, hf⟩ := bL_e hf
  have RL6 : ∀ (n : Nat) z, (u1 g186_6) z = some (r, S2) → ∀ (l4_2 : Int32) (l5_3 : Int32) (S_4 : pS) (H : Heap) (locs : List Loc) (ls : Array Slot), Wd Z s S_4 H locs → lv_has ls 8 [(0, .ref (za Z 0)), (1, .int a1), (3, .int a3), (4, .int l4_2), (5, .int l5_3)] → bPn b6 n (l4_2, l5_3, S_4) = some z → W p l e { frames := 4, cells := 0, slots := 0, locals := 82 } s m args below meth c H locs 0 0 Q (F0 m 6 ls []) := by
    intro n
    induction n with
    | zero =>
      intro z hg l4_2 l5_3 S_4 H locs ls hw hl hz
      exact bPn_0 hz
    | succ n ih =>
      intro z hg l4_2 l5_3 S_4 H locs ls hw hl hz
      obtain ⟨q_5, hf, hz⟩ := bPn_e hz
      have hf := u3_e ((congrFun eb _).symm.trans hf)
      refine lv_iload hx hb dX12_comesTo_6 (lv_at hl 4 rfl) ?_
      refine lv_iload_n hx hb dX12_comesTo_8 rfl (lv_at hl 2 rfl) ?_
      refine lv_icmp_ge (tgt := 186) hx hb dX12_comesTo_9 (by decide) (fun c_22 => ?_) (fun c_22 => ?_)
      · have hf := (if_pos c_22).symm.trans hf
        obtain rfl := Option.some.inj hf
        obtain rfl := Option.some.inj (hz : some _ = some _)
        exact R186_6 _ _ _ _ hw (lv_sub hl [0] rfl) hg
      · have hf := (if_neg c_22).symm.trans hf
        refine lv_aload_n hx hb dX12_comesTo_12 rfl (lv_at hl 0 rfl) ?_
        refine gF G hw (m_this hZ) KX12 0 (k2 := 1) rfl (by decide) rfl fl_X12_7 dX12_comesTo_13 ?_
        refine lv_sipush hx hb dX12_comesTo_16 ks_836 ?_
        refine lv_sipush hx hb dX12_comesTo_19 ks_820 ?_
        refine lv_iload_n hx hb dX12_comesTo_22 rfl (lv_at hl 1 rfl) ?_
        refine lv_imul hx hb dX12_comesTo_23 ?_
        refine lv_iadd hx hb dX12_comesTo_24 ?_
        refine lv_iconst hx hb dX12_comesTo_25 ki_2 ?_
        refine lv_iload hx hb dX12_comesTo_26 (lv_at hl 4 rfl) ?_
        refine lv_imul hx hb dX12_comesTo_28 ?_
        refine lv_iadd hx hb dX12_comesTo_29 ?_
        obtain ⟨hg1, hf⟩ := bG_e hf
        refine aI G hw (m_w hZ) hg1 (j := ((836 + (820 * a1)) + (2 * l5_3)).toNatClampNeg) rfl dX12_comesTo_30 ?_
        obtain ⟨l6_6, el6_6, hf⟩ := bL_e hf
        refine top_i el6_6 ?_
        refine lv_istore (lv' := [(6, .int l6_6), (0, .ref (za Z 0)), (1, .int a1), (3, .int a3), (4, .int l4_2), (5, .int l5_3)]) hx hb dX12_comesTo_31 hl (by decide) rfl (fun ls hl => ?_)
        refine lv_aload_n hx hb dX12_comesTo_33 rfl (lv_at hl 1 rfl) ?_
        refine gF G hw (m_this hZ) KX12 0 (k2 := 1) rfl (by decide) rfl fl_X12_7 dX12_comesTo_34 ?_
        refine lv_sipush hx hb dX12_comesTo_37 ks_836 ?_
        refine lv_sipush hx hb dX12_comesTo_40 ks_820 ?_
        refine lv_iload_n hx hb dX12_comesTo_43 rfl (lv_at hl 2 rfl) ?_
        refine lv_imul hx hb dX12_comesTo_44 ?_
        refine lv_iadd hx hb dX12_comesTo_45 ?_
        refine lv_iconst hx hb dX12_comesTo_46 ki_2 ?_
        refine lv_iload hx hb dX12_comesTo_47 (lv_at hl 5 rfl) ?_
        refine lv_imul hx hb dX12_comesTo_49 ?_
        refine lv_iadd hx hb dX12_comesTo_50 ?_
        refine lv_iconst hx hb dX12_comesTo_51 ki_1 ?_
        refine lv_iadd hx hb dX12_comesTo_52 ?_
        obtain ⟨hg1, hf⟩ := bG_e hf
        refine aI G hw (m_w hZ) hg1 (j := (((836 + (820 * a1)) + (2 * l5_3)) + 1).toNatClampNeg) rfl dX12_comesTo_53 ?_
        obtain ⟨l7_7, el7_7, hf⟩ := bL_e hf
        refine top_i el7_7 ?_
        refine lv_istore (lv' := [(7, .int l7_7), (6, .int l6_6), (0, .ref (za Z 0)), (1, .int a1), (3, .int a3), (4, .int l4_2), (5, .int l5_3)]) hx hb dX12_comesTo_54 hl (by decide) rfl (fun ls hl => ?_)
        refine lv_iload hx hb dX12_comesTo_56 (lv_at hl 1 rfl) ?_
        refine lv_bipush hx hb dX12_comesTo_58 kb_23 ?_
        obtain ⟨j180, ej, hf⟩ := bL_e hf
        have R180 : ∀ (l4_8 : Int32) (S_9 : pS) (H : Heap) (locs : List Loc) (ls : Array Slot), Wd Z s S_9 H locs → lv_has ls 8 [(0, .ref (za Z 0)), (1, .int a1), (3, .int a3), (4, .int l4_8), (5, .int l5_3)] → j180 l4_8 S_9 = some q_5 → W p l e { frames := 4, cells := 0, slots := 0, locals := 82 } s m args below meth c H locs 0 0 Q (F0 m 180 ls []) := by
          intro l4_8 S_9 H locs ls hw hl hf
          have hf := (congrFun (congrFun ej l4_8) S_9).symm.trans hf
          obtain ⟨l5_10, el5_10, hf⟩ := bL_e hf
          refine lv_iinc (v := l5_10) (lv' := [(5, .int l5_10), (0, .ref (za Z 0)), (1, .int a1), (3, .int a3), (4, .int l4_8)]) hx hb dX12_comesTo_180 hl (k := 4) rfl (by rw [el5_10]; rfl) (by decide) rfl (fun ls hl => ?_)
          refine lv_goto (tgt := 6) hx hb dX12_comesTo_183 (by decide) ?_
          obtain rfl := Option.some.inj hf
          exact ih _ hg _ _ _ _ _ _ hw (lv_sub hl [1, 2, 3, 4, 0] rfl) hz
        clear ej
        refine lv_icmp_ge (tgt := 93) hx hb dX12_comesTo_60 (by decide) (fun c_21 => ?_) (fun c_21 => ?_)
        · have hf := (if_pos c_21).symm.trans hf
          refine lv_iload hx hb dX12_comesTo_93 (lv_at hl 1 rfl) ?_
          refine lv_bipush hx hb dX12_comesTo_95 kb_26 ?_
          refine lv_icmp_ne (tgt := 117) hx hb dX12_comesTo_97 (by decide) (fun c_16 => ?_) (fun c_16 => ?_)
          · have hf := (if_neg c_16).symm.trans hf
            refine lv_iload hx hb dX12_comesTo_117 (lv_at hl 1 rfl) ?_
            refine lv_bipush hx hb dX12_comesTo_119 kb_30 ?_
            refine lv_icmp_ne (tgt := 147) hx hb dX12_comesTo_121 (by decide) (fun c_14 => ?_) (fun c_14 => ?_)
            · have hf := (if_neg c_14).symm.trans hf
              obtain ⟨l4_11, el4_11, hf⟩ := bL_e hf
              refine lv_iinc (v := l4_11) (lv' := [(4, .int l4_11), (7, .int l7_7), (6, .int l6_6), (0, .ref (za Z 0)), (1, .int a1), (3, .int a3), (5, .int l5_3)]) hx hb dX12_comesTo_147 hl (k := 5) rfl (by rw [el4_11]; rfl) (by decide) rfl (fun ls hl => ?_)
              refine lv_aload_n hx hb dX12_comesTo_150 rfl (lv_at hl 3 rfl) ?_
              refine gF G hw (m_this hZ) KX12 9 (k2 := 8) rfl (by decide) rfl fl_X12_31 dX12_comesTo_151 ?_
              refine lv_iload hx hb dX12_comesTo_154 (lv_at hl 0 rfl) ?_
              refine lv_iconst hx hb dX12_comesTo_156 ki_1 ?_
              refine lv_isub hx hb dX12_comesTo_157 ?_
              refine lv_iload hx hb dX12_comesTo_158 (lv_at hl 2 rfl) ?_
              refine lv_aload_n hx hb dX12_comesTo_160 rfl (lv_at hl 3 rfl) ?_
              refine gF G hw (m_this hZ) KX12 9 (k2 := 8) rfl (by decide) rfl fl_X12_31 dX12_comesTo_161 ?_
              refine lv_iload hx hb dX12_comesTo_164 (lv_at hl 0 rfl) ?_
              refine lv_iconst hx hb dX12_comesTo_166 ki_1 ?_
              refine lv_isub hx hb dX12_comesTo_167 ?_
              obtain ⟨hg1, hf⟩ := bG_e hf
              refine aI G hw (m_pile hZ) hg1 (j := (l4_11 - 1).toNatClampNeg) rfl dX12_comesTo_168 ?_
              refine lv_aload_n hx hb dX12_comesTo_169 rfl (lv_at hl 3 rfl) ?_
              refine gF G hw (m_this hZ) KX12 9 (k2 := 8) rfl (by decide) rfl fl_X12_31 dX12_comesTo_170 ?_
              refine lv_iload hx hb dX12_comesTo_173 (lv_at hl 0 rfl) ?_
              obtain ⟨hg1, hf⟩ := bG_e hf
              refine aI G hw (m_pile hZ) hg1 (j := l4_11.toNatClampNeg) rfl dX12_comesTo_175 ?_
              refine kSi (rest := [.int (l4_11 - 1), .ref (za Z 8)]) G hw (wX12_both hZ S_4 l6_6 (S_4 8 ((l4_11 - 1).toNatClampNeg)) (S_4 8 l4_11.toNatClampNeg) (F12_both l6_6 (S_4 8 ((l4_11 - 1).toNatClampNeg)) (S_4 8 l4_11.toNatClampNeg)) rfl) cw_X12_314 ⟨Nat.le_of_ble_eq_true rfl, Nat.le_of_ble_eq_true rfl⟩ rfl hl.1 rfl (Nat.le_of_ble_eq_true rfl) ⟨Nat.le_refl _, Nat.le_refl _⟩ dX12_comesTo_176 (fun H locs hw => ?_)
              obtain ⟨hg1, hf⟩ := bG_e hf
              obtain ⟨S_12, eS_12, hf⟩ := bL_e hf
              refine sI G hw (m_pile hZ) hg1 (j := (l4_11 - 1).toNatClampNeg) rfl eS_12 dX12_comesTo_179 (fun H locs hw => ?_)
              exact R180 _ _ _ _ _ hw (lv_sub hl [3, 4, 5, 0, 6] rfl) hf
            · have hf := (if_pos c_14).symm.trans hf
              refine lv_aload_n hx hb dX12_comesTo_124 rfl (lv_at hl 2 rfl) ?_
              refine gF G hw (m_this hZ) KX12 9 (k2 := 8) rfl (by decide) rfl fl_X12_31 dX12_comesTo_125 ?_
              refine lv_iload hx hb dX12_comesTo_128 (lv_at hl 5 rfl) ?_
              refine lv_iconst hx hb dX12_comesTo_130 ki_1 ?_
              refine lv_isub hx hb dX12_comesTo_131 ?_
              refine lv_iconst hx hb dX12_comesTo_132 ki_1 ?_
              refine lv_aload_n hx hb dX12_comesTo_133 rfl (lv_at hl 2 rfl) ?_
              refine gF G hw (m_this hZ) KX12 9 (k2 := 8) rfl (by decide) rfl fl_X12_31 dX12_comesTo_134 ?_
              refine lv_iload hx hb dX12_comesTo_137 (lv_at hl 5 rfl) ?_
              refine lv_iconst hx hb dX12_comesTo_139 ki_1 ?_
              refine lv_isub hx hb dX12_comesTo_140 ?_
              obtain ⟨hg1, hf⟩ := bG_e hf
              refine aI G hw (m_pile hZ) hg1 (j := (l4_2 - 1).toNatClampNeg) rfl dX12_comesTo_141 ?_
              refine lv_isub hx hb dX12_comesTo_142 ?_
              obtain ⟨hg1, hf⟩ := bG_e hf
              obtain ⟨S_13, eS_13, hf⟩ := bL_e hf
              refine sI G hw (m_pile hZ) hg1 (j := (l4_2 - 1).toNatClampNeg) rfl eS_13 dX12_comesTo_143 (fun H locs hw => ?_)
              refine lv_goto (tgt := 180) hx hb dX12_comesTo_144 (by decide) ?_
              exact R180 _ _ _ _ _ hw (lv_sub hl [2, 3, 4, 5, 6] rfl) hf
          · have hf := (if_pos c_16).symm.trans hf
            refine lv_aload_n hx hb dX12_comesTo_100 rfl (lv_at hl 2 rfl) ?_
            refine gF G hw (m_this hZ) KX12 9 (k2 := 8) rfl (by decide) rfl fl_X12_31 dX12_comesTo_101 ?_
            refine lv_iload hx hb dX12_comesTo_104 (lv_at hl 5 rfl) ?_
            refine lv_iconst hx hb dX12_comesTo_106 ki_1 ?_
            refine lv_isub hx hb dX12_comesTo_107 ?_
            refine lv_dup2_11 hx hb dX12_comesTo_108 rfl rfl ?_
            obtain ⟨hg1, hf⟩ := bG_e hf
            refine aI G hw (m_pile hZ) hg1 (j := (l4_2 - 1).toNatClampNeg) rfl dX12_comesTo_109 ?_
            refine lv_iload hx hb dX12_comesTo_110 (lv_at hl 0 rfl) ?_
            obtain ⟨hg1, hf⟩ := bG_e hf
            refine lv_idiv hx hb dX12_comesTo_112 hg1 ?_
            obtain ⟨hg1, hf⟩ := bG_e hf
            obtain ⟨S_15, eS_15, hf⟩ := bL_e hf
            refine sI G hw (m_pile hZ) hg1 (j := (l4_2 - 1).toNatClampNeg) rfl eS_15 dX12_comesTo_113 (fun H locs hw => ?_)
            refine lv_goto (tgt := 180) hx hb dX12_comesTo_114 (by decide) ?_
            exact R180 _ _ _ _ _ hw (lv_sub hl [2, 3, 4, 5, 6] rfl) hf
        · have hf := (if_neg c_21).symm.trans hf
          refine lv_aload_n hx hb dX12_comesTo_63 rfl (lv_at hl 2 rfl) ?_
          refine gF G hw (m_this hZ) KX12 9 (k2 := 8) rfl (by decide) rfl fl_X12_31 dX12_comesTo_64 ?_
          refine lv_iload hx hb dX12_comesTo_67 (lv_at hl 5 rfl) ?_
          refine lv_iload hx hb dX12_comesTo_69 (lv_at hl 1 rfl) ?_
          obtain ⟨j86, ej, hf⟩ := bL_e hf
          have R86 : ∀ (t_17 : Int32) (H : Heap) (locs : List Loc) (ls : Array Slot), Wd Z s S_4 H locs → lv_has ls 8 [(0, .ref (za Z 0)), (1, .int a1), (3, .int a3), (4, .int l4_2), (5, .int l5_3)] → j86 t_17 = some q_5 → W p l e { frames := 4, cells := 0, slots := 0, locals := 82 } s m args below meth c H locs 0 0 Q (F0 m 86 ls [.int t_17, .int l4_2, .ref (za Z 8)]) := by
            intro t_17 H locs ls hw hl hf
            have hf := (congrFun ej t_17).symm.trans hf
            obtain ⟨hg1, hf⟩ := bG_e hf
            obtain ⟨S_18, eS_18, hf⟩ := bL_e hf
            refine sI G hw (m_pile hZ) hg1 (j := l4_2.toNatClampNeg) rfl eS_18 dX12_comesTo_86 (fun H locs hw => ?_)
            obtain ⟨l4_19, el4_19, hf⟩ := bL_e hf
            refine lv_iinc (v := l4_19) (lv' := [(4, .int l4_19), (0, .ref (za Z 0)), (1, .int a1), (3, .int a3), (5, .int l5_3)]) hx hb dX12_comesTo_87 hl (k := 3) rfl (by rw [el4_19]; rfl) (by decide) rfl (fun ls hl => ?_)
            refine lv_goto (tgt := 180) hx hb dX12_comesTo_90 (by decide) ?_
            exact R180 _ _ _ _ _ hw (lv_sub hl [1, 2, 3, 0, 4] rfl) hf
          clear ej
          refine lv_if_ne (tgt := 79) hx hb dX12_comesTo_71 (by decide) (fun c_20 => ?_) (fun c_20 => ?_)
          · have hf := (if_neg c_20).symm.trans hf
            refine lv_aload_n hx hb dX12_comesTo_79 rfl (lv_at hl 2 rfl) ?_
            refine gF G hw (m_this hZ) KX12 10 (k2 := 9) rfl (by decide) rfl fl_X12_34 dX12_comesTo_80 ?_
            refine lv_iload hx hb dX12_comesTo_83 (lv_at hl 1 rfl) ?_
            obtain ⟨hg1, hf⟩ := bG_e hf
            refine aI G hw (m_facts hZ) hg1 (j := l6_6.toNatClampNeg) rfl dX12_comesTo_85 ?_
            exact R86 _ _ _ _ hw (lv_sub hl [2, 3, 4, 5, 6] rfl) hf
          · have hf := (if_pos c_20).symm.trans hf
            refine lv_iload hx hb dX12_comesTo_74 (lv_at hl 0 rfl) ?_
            refine lv_goto (tgt := 86) hx hb dX12_comesTo_76 (by decide) ?_
            exact R86 _ _ _ _ hw (lv_sub hl [2, 3, 4, 5, 6] rfl) hf
  clear eb
  obtain ⟨z, hz, hf⟩ := bB_e hf
  obtain ⟨n, hz⟩ := bP_e hz
  exact RL6 n z hf _ _ _ _ _ _ hw (lv_sub hl [2, 3, 5, 1, 0] rfl) hz
noncomputable def F12_lawSays (S : pS) (a1 : Int32) (a2 : Int32) (a3 : Int32) (a4 : Int32) : Option (Int32 × pS) :=
  bL (16 * a1) fun l5_1 =>
  bL (fun (S_2 : pS) =>
    some ((0 : Int32), S_2)) fun g137_6 =>
  bL (fun (l5_3 : Int32) (S_4 : pS) =>
    bG (vp_in (644 + l5_3) 4296) <|
    bG (vp_in (692 + l5_3) 4296) <|
    bB2 (F12_comesTo S_4 a1 (S_4 1 ((644 + l5_3).toNatClampNeg)) (S_4 1 ((692 + l5_3).toNatClampNeg))) fun r_5 S_6 =>
    some (F12_held r_5 a3 a4, S_6)) fun g97_6 =>
  bL (u2 fun (l5_7 : Int32) (S_8 : pS) =>
    bG (vp_in (640 + a1) 4296) <|
    if ((16 * a1) + (S_8 1 ((640 + a1).toNatClampNeg))) ≤ l5_7 then
      some (.inr (.inl S_8))
    else
      bG (vp_in (788 + l5_7) 4296) <|
      bL (fun (S_10 : pS) =>
        bL (l5_7 + 1) fun l5_11 =>
        some (.inl (l5_11, S_10))) fun j131 =>
      if (S_8 1 ((788 + l5_7).toNatClampNeg)) = a2 then
        bG (vp_in (740 + l5_7) 4296) <|
        bG (vp_in (692 + l5_7) 4296) <|
        if (S_8 1 ((740 + l5_7).toNatClampNeg)) = (S_8 1 ((692 + l5_7).toNatClampNeg)) then
          some (.inr (.inr (l5_7, S_8)))
        else
          bG (vp_in (692 + l5_7) 4296) <|
          bG (vp_in (740 + l5_7) 4296) <|
          bB2 (F12_comesTo S_8 a1 (S_8 1 ((692 + l5_7).toNatClampNeg)) (S_8 1 ((740 + l5_7).toNatClampNeg))) fun r_12 S_13 =>
          if r_12 = 1 then
            some (.inr (.inr (l5_7, S_13)))
          else
            j131 S_13
      else
        j131 S_8) fun b6 =>
  bB (bP b6 (l5_1, S)) (Sum.elim (u1 g137_6) (u2 g97_6))
set_option maxRecDepth 100000 in
set_option maxHeartbeats 4000000 in
theorem wX12_lawSays {l : Launch} {Z : pZ}  (hZ : CM Z) (S : pS) (a1 : Int32) (a2 : Int32) (a3 : Int32) (a4 : Int32) (r : Int32) (S2 : pS)  (hf : F12_lawSays S a1 a2 a3 a4 = some (r, S2)) : CI l Z yX12_lawSays cX12_lawSays 6 .int 5 109 [.ref (za Z 0), .int a1, .int a2, .int a3, .int a4] S r S2 := by
  unfold F12_lawSays at hf
  refine eI (own := RX12) (by decide) rfl (Nat.le_of_ble_eq_true rfl) (fun p e s m args below meth c Q ls G hl hw hret => ?_)
  obtain ⟨hx, hb, hml, hown, hts⟩ := G.1
  have hl : lv_has ls 6 [(0, .ref (za Z 0)), (1, .int a1), (2, .int a2), (3, .int a3), (4, .int a4)] := hl
  refine lv_bipush hx hb dX12_lawSays_0 kb_16 ?_
  refine lv_iload_n hx hb dX12_lawSays_2 rfl (lv_at hl 1 rfl) ?_
  refine lv_imul hx hb dX12_lawSays_3 ?_
  obtain ⟨l5_1, el5_1, hf⟩ := bL_e hf
  refine top_i el5_1 ?_
  refine lv_istore (lv' := [(5, .int l5_1), (0, .ref (za Z 0)), (1, .int a1), (2, .int a2), (3, .int a3), (4, .int a4)]) hx hb dX12_lawSays_4 hl (by decide) rfl (fun ls hl => ?_)
  obtain ⟨g137_6, ej, hf⟩ := bL_e hf
  have R137_6 : ∀ (S_2 : pS) (H : Heap) (locs : List Loc) (ls : Array Slot), Wd Z s S_2 H locs → lv_has ls 6 [] → g137_6 S_2 = some (r, S2) → W p l e { frames := 5, cells := 0, slots := 0, locals := 109 } s m args below meth c H locs 0 0 Q (F0 m 137 ls []) := by
    intro S_2 H locs ls hw hl hf
    have hf := (congrFun ej S_2).symm.trans hf
    refine lv_iconst hx hb dX12_lawSays_137 ki_0 ?_
    obtain ⟨e1, e2⟩ := Prod.mk.inj (Option.some.inj hf)
    exact hret _ _ _ _ _ dX12_lawSays_138 e1 (by rw [← e2]; exact hw)
  clear ej
  obtain ⟨g97_6, ej, hf⟩ := bL_e hf
  have R97_6 : ∀ (l5_3 : Int32) (S_4 : pS) (H : Heap) (locs : List Loc) (ls : Array Slot), Wd Z s S_4 H locs → lv_has ls 6 [(0, .ref (za Z 0)), (1, .int a1), (3, .int a3), (4, .int a4), (5, .int l5_3)] → g97_6 l5_3 S_4 = some (r, S2) → W p l e { frames := 5, cells := 0, slots := 0, locals := 109 } s m args below meth c H locs 0 0 Q (F0 m 97 ls []) := by
    intro l5_3 S_4 H locs ls hw hl hf
    have hf := (congrFun (congrFun ej l5_3) S_4).symm.trans hf
    refine lv_aload_n hx hb dX12_lawSays_97 rfl (lv_at hl 0 rfl) ?_
    refine lv_iload_n hx hb dX12_lawSays_98 rfl (lv_at hl 1 rfl) ?_
    refine lv_aload_n hx hb dX12_lawSays_99 rfl (lv_at hl 0 rfl) ?_
    refine gF G hw (m_this hZ) KX12 0 (k2 := 1) rfl (by decide) rfl fl_X12_7 dX12_lawSays_100 ?_
    refine lv_sipush hx hb dX12_lawSays_103 ks_644 ?_
    refine lv_iload hx hb dX12_lawSays_106 (lv_at hl 4 rfl) ?_
    refine lv_iadd hx hb dX12_lawSays_108 ?_
    obtain ⟨hg1, hf⟩ := bG_e hf
    refine aI G hw (m_w hZ) hg1 (j := (644 + l5_3).toNatClampNeg) rfl dX12_lawSays_109 ?_
    refine lv_aload_n hx hb dX12_lawSays_110 rfl (lv_at hl 0 rfl) ?_
    refine gF G hw (m_this hZ) KX12 0 (k2 := 1) rfl (by decide) rfl fl_X12_7 dX12_lawSays_111 ?_
    refine lv_sipush hx hb dX12_lawSays_114 ks_692 ?_
    refine lv_iload hx hb dX12_lawSays_117 (lv_at hl 4 rfl) ?_
    refine lv_iadd hx hb dX12_lawSays_119 ?_
    obtain ⟨hg1, hf⟩ := bG_e hf
    refine aI G hw (m_w hZ) hg1 (j := (692 + l5_3).toNatClampNeg) rfl dX12_lawSays_120 ?_
    obtain ⟨r_5, S_6, hr_5, hf⟩ := bB2_e hf
    refine kVi (rest := []) G hw (wX12_comesTo hZ S_4 a1 (S_4 1 ((644 + l5_3).toNatClampNeg)) (S_4 1 ((692 + l5_3).toNatClampNeg)) r_5 S_6 hr_5) cw_X12_318 (m_this hZ) KX12 ⟨Nat.le_of_ble_eq_true rfl, Nat.le_of_ble_eq_true rfl⟩ rfl hl.1 rfl (Nat.le_of_ble_eq_true rfl) ⟨Nat.le_refl _, Nat.le_refl _⟩ dX12_lawSays_121 (fun H locs hw => ?_)
    refine lv_iload_n hx hb dX12_lawSays_124 rfl (lv_at hl 2 rfl) ?_
    refine lv_iload hx hb dX12_lawSays_125 (lv_at hl 3 rfl) ?_
    refine kSi (rest := []) G hw (wX12_held hZ S_6 r_5 a3 a4 (F12_held r_5 a3 a4) rfl) cw_X12_321 ⟨Nat.le_of_ble_eq_true rfl, Nat.le_of_ble_eq_true rfl⟩ rfl hl.1 rfl (Nat.le_of_ble_eq_true rfl) ⟨Nat.le_refl _, Nat.le_refl _⟩ dX12_lawSays_127 (fun H locs hw => ?_)
    obtain ⟨e1, e2⟩ := Prod.mk.inj (Option.some.inj hf)
    exact hret _ _ _ _ _ dX12_lawSays_130 e1 (by rw [← e2]; exact hw)
  clear ej
  obtain ⟨b6, eb, hf⟩ := bL_e hf
  have RL6 : ∀ (n : Nat) z, (Sum.elim (u1 g137_6) (u2 g97_6)) z = some (r, S2) → ∀ (l5_7 : Int32) (S_8 : pS) (H : Heap) (locs : List Loc) (ls : Array Slot), Wd Z s S_8 H locs → lv_has ls 6 [(0, .ref (za Z 0)), (1, .int a1), (2, .int a2), (3, .int a3), (4, .int a4), (5, .int l5_7)] → bPn b6 n (l5_7, S_8) = some z → W p l e { frames := 5, cells := 0, slots := 0, locals := 109 } s m args below meth c H locs 0 0 Q (F0 m 6 ls []) := by
    intro n
    induction n with
    | zero =>
      intro z hg l5_7 S_8 H locs ls hw hl hz
      exact bPn_0 hz
    | succ n ih =>
      intro z hg l5_7 S_8 H locs ls hw hl hz
      obtain ⟨q_9, hf, hz⟩ := bPn_e hz
      have hf := u2_e ((congrFun eb _).symm.trans hf)
      refine lv_iload hx hb dX12_lawSays_6 (lv_at hl 5 rfl) ?_
      refine lv_bipush hx hb dX12_lawSays_8 kb_16 ?_
      refine lv_iload_n hx hb dX12_lawSays_10 rfl (lv_at hl 1 rfl) ?_
      refine lv_imul hx hb dX12_lawSays_11 ?_
      refine lv_aload_n hx hb dX12_lawSays_12 rfl (lv_at hl 0 rfl) ?_
      refine gF G hw (m_this hZ) KX12 0 (k2 := 1) rfl (by decide) rfl fl_X12_7 dX12_lawSays_13 ?_
      refine lv_sipush hx hb dX12_lawSays_16 ks_640 ?_
      refine lv_iload_n hx hb dX12_lawSays_19 rfl (lv_at hl 1 rfl) ?_
      refine lv_iadd hx hb dX12_lawSays_20 ?_
      obtain ⟨hg1, hf⟩ := bG_e hf
      refine aI G hw (m_w hZ) hg1 (j := (640 + a1).toNatClampNeg) rfl dX12_lawSays_21 ?_
      refine lv_iadd hx hb dX12_lawSays_22 ?_
      refine lv_icmp_ge (tgt := 137) hx hb dX12_lawSays_23 (by decide) (fun c_17 => ?_) (fun c_17 => ?_)
      · have hf := (if_pos c_17).symm.trans hf
        obtain rfl := Option.some.inj hf
        obtain rfl := Option.some.inj (hz : some _ = some _)
        exact R137_6 _ _ _ _ hw (lv_sub hl [] rfl) hg
      · have hf := (if_neg c_17).symm.trans hf
        refine lv_aload_n hx hb dX12_lawSays_26 rfl (lv_at hl 0 rfl) ?_
        refine gF G hw (m_this hZ) KX12 0 (k2 := 1) rfl (by decide) rfl fl_X12_7 dX12_lawSays_27 ?_
        refine lv_sipush hx hb dX12_lawSays_30 ks_788 ?_
        refine lv_iload hx hb dX12_lawSays_33 (lv_at hl 5 rfl) ?_
        refine lv_iadd hx hb dX12_lawSays_35 ?_
        obtain ⟨hg1, hf⟩ := bG_e hf
        refine aI G hw (m_w hZ) hg1 (j := (788 + l5_7).toNatClampNeg) rfl dX12_lawSays_36 ?_
        refine lv_iload_n hx hb dX12_lawSays_37 rfl (lv_at hl 2 rfl) ?_
        obtain ⟨j131, ej, hf⟩ := bL_e hf
        have R131 : ∀ (S_10 : pS) (H : Heap) (locs : List Loc) (ls : Array Slot), Wd Z s S_10 H locs → lv_has ls 6 [(0, .ref (za Z 0)), (1, .int a1), (2, .int a2), (3, .int a3), (4, .int a4), (5, .int l5_7)] → j131 S_10 = some q_9 → W p l e { frames := 5, cells := 0, slots := 0, locals := 109 } s m args below meth c H locs 0 0 Q (F0 m 131 ls []) := by
          intro S_10 H locs ls hw hl hf
          have hf := (congrFun ej S_10).symm.trans hf
          obtain ⟨l5_11, el5_11, hf⟩ := bL_e hf
          refine lv_iinc (v := l5_11) (lv' := [(5, .int l5_11), (0, .ref (za Z 0)), (1, .int a1), (2, .int a2), (3, .int a3), (4, .int a4)]) hx hb dX12_lawSays_131 hl (k := 5) rfl (by rw [el5_11]; rfl) (by decide) rfl (fun ls hl => ?_)
          refine lv_goto (tgt := 6) hx hb dX12_lawSays_134 (by decide) ?_
          obtain rfl := Option.some.inj hf
          exact ih _ hg _ _ _ _ _ hw (lv_sub hl [1, 2, 3, 4, 5, 0] rfl) hz
        clear ej
        refine lv_icmp_ne (tgt := 131) hx hb dX12_lawSays_38 (by decide) (fun c_16 => ?_) (fun c_16 => ?_)
        · have hf := (if_neg c_16).symm.trans hf
          exact R131 _ _ _ _ hw (lv_sub hl [0, 1, 2, 3, 4, 5] rfl) hf
        · have hf := (if_pos c_16).symm.trans hf
          refine lv_aload_n hx hb dX12_lawSays_41 rfl (lv_at hl 0 rfl) ?_
          refine gF G hw (m_this hZ) KX12 0 (k2 := 1) rfl (by decide) rfl fl_X12_7 dX12_lawSays_42 ?_
          refine lv_sipush hx hb dX12_lawSays_45 ks_740 ?_
          refine lv_iload hx hb dX12_lawSays_48 (lv_at hl 5 rfl) ?_
          refine lv_iadd hx hb dX12_lawSays_50 ?_
          obtain ⟨hg1, hf⟩ := bG_e hf
          refine aI G hw (m_w hZ) hg1 (j := (740 + l5_7).toNatClampNeg) rfl dX12_lawSays_51 ?_
          refine lv_aload_n hx hb dX12_lawSays_52 rfl (lv_at hl 0 rfl) ?_
          refine gF G hw (m_this hZ) KX12 0 (k2 := 1) rfl (by decide) rfl fl_X12_7 dX12_lawSays_53 ?_
          refine lv_sipush hx hb dX12_lawSays_56 ks_692 ?_
          refine lv_iload hx hb dX12_lawSays_59 (lv_at hl 5 rfl) ?_
          refine lv_iadd hx hb dX12_lawSays_61 ?_
          obtain ⟨hg1, hf⟩ := bG_e hf
          refine aI G hw (m_w hZ) hg1 (j := (692 + l5_7).toNatClampNeg) rfl dX12_lawSays_62 ?_
          refine lv_icmp_eq (tgt := 97) hx hb dX12_lawSays_63 (by decide) (fun c_15 => ?_) (fun c_15 => ?_)
          · have hf := (if_pos c_15).symm.trans hf
            obtain rfl := Option.some.inj hf
            obtain rfl := Option.some.inj (hz : some _ = some _)
            exact R97_6 _ _ _ _ _ hw (lv_sub hl [0, 1, 3, 4, 5] rfl) hg
          · have hf := (if_neg c_15).symm.trans hf
            refine lv_aload_n hx hb dX12_lawSays_66 rfl (lv_at hl 0 rfl) ?_
            refine lv_iload_n hx hb dX12_lawSays_67 rfl (lv_at hl 1 rfl) ?_
            refine lv_aload_n hx hb dX12_lawSays_68 rfl (lv_at hl 0 rfl) ?_
            refine gF G hw (m_this hZ) KX12 0 (k2 := 1) rfl (by decide) rfl fl_X12_7 dX12_lawSays_69 ?_
            refine lv_sipush hx hb dX12_lawSays_72 ks_692 ?_
            refine lv_iload hx hb dX12_lawSays_75 (lv_at hl 5 rfl) ?_
            refine lv_iadd hx hb dX12_lawSays_77 ?_
            obtain ⟨hg1, hf⟩ := bG_e hf
            refine aI G hw (m_w hZ) hg1 (j := (692 + l5_7).toNatClampNeg) rfl dX12_lawSays_78 ?_
            refine lv_aload_n hx hb dX12_lawSays_79 rfl (lv_at hl 0 rfl) ?_
            refine gF G hw (m_this hZ) KX12 0 (k2 := 1) rfl (by decide) rfl fl_X12_7 dX12_lawSays_80 ?_
            refine lv_sipush hx hb dX12_lawSays_83 ks_740 ?_
            refine lv_iload hx hb dX12_lawSays_86 (lv_at hl 5 rfl) ?_
            refine lv_iadd hx hb dX12_lawSays_88 ?_
            obtain ⟨hg1, hf⟩ := bG_e hf
            refine aI G hw (m_w hZ) hg1 (j := (740 + l5_7).toNatClampNeg) rfl dX12_lawSays_89 ?_
            obtain ⟨r_12, S_13, hr_12, hf⟩ := bB2_e hf
            refine kVi (rest := []) G hw (wX12_comesTo hZ S_8 a1 (S_8 1 ((692 + l5_7).toNatClampNeg)) (S_8 1 ((740 + l5_7).toNatClampNeg)) r_12 S_13 hr_12) cw_X12_318 (m_this hZ) KX12 ⟨Nat.le_of_ble_eq_true rfl, Nat.le_of_ble_eq_true rfl⟩ rfl hl.1 rfl (Nat.le_of_ble_eq_true rfl) ⟨Nat.le_refl _, Nat.le_refl _⟩ dX12_lawSays_90 (fun H locs hw => ?_)
            refine lv_iconst hx hb dX12_lawSays_93 ki_1 ?_
            refine lv_icmp_ne (tgt := 131) hx hb dX12_lawSays_94 (by decide) (fun c_14 => ?_) (fun c_14 => ?_)
            · have hf := (if_neg c_14).symm.trans hf
              exact R131 _ _ _ _ hw (lv_sub hl [0, 1, 2, 3, 4, 5] rfl) hf
            · have hf := (if_pos c_14).symm.trans hf
              obtain rfl := Option.some.inj hf
              obtain rfl := Option.some.inj (hz : some _ = some _)
              exact R97_6 _ _ _ _ _ hw (lv_sub hl [0, 1, 3, 4, 5] rfl) hg
  clear eb
  obtain ⟨z, hz, hf⟩ := bB_e hf
  obtain ⟨n, hz⟩ := bP_e hz
  exact RL6 n z hf _ _ _ _ _ hw (lv_sub hl [1, 2, 3, 4, 5, 0] rfl) hz
noncomputable def F12_armFacts (S : pS) (a1 : Int32) (a2 : Int32) (a3 : Int32) (a4 : Int32) (a5 : Int32) (a6 : Int32) : Option (pS) :=
  bL (sU S 9 10 a2) fun S_1 =>
  bL (sU S_1 9 11 a3) fun S_2 =>
  bL (sU S_2 9 12 a4) fun S_3 =>
  bL (sU S_3 9 13 a5) fun S_4 =>
  bB (F12_own S_4 a1 0) fun r_5 =>
  bL (sU S_4 9 14 r_5) fun S_6 =>
  bL (sU S_6 9 15 a6) fun S_7 =>
  bB (F12_own S_7 a1 2) fun r_8 =>
  bL (sU S_7 9 16 (r_8 / 100)) fun S_9 =>
  bL (sU S_9 9 17 (S_9 1 0)) fun S_10 =>
  some S_10
set_option maxRecDepth 100000 in
set_option maxHeartbeats 4000000 in
theorem wX12_armFacts {l : Launch} {Z : pZ}  (hZ : CM Z) (S : pS) (a1 : Int32) (a2 : Int32) (a3 : Int32) (a4 : Int32) (a5 : Int32) (a6 : Int32) (S2 : pS)  (hf : F12_armFacts S a1 a2 a3 a4 a5 a6 = some S2) : CV l Z yX12_armFacts cX12_armFacts 7 4 82 [.ref (za Z 0), .int a1, .int a2, .int a3, .int a4, .int a5, .int a6] S S2 := by
  unfold F12_armFacts at hf
  refine eV (own := RX12) (by decide) rfl (Nat.le_of_ble_eq_true rfl) (fun p e s m args below meth c Q ls G hl hw hret => ?_)
  obtain ⟨hx, hb, hml, hown, hts⟩ := G.1
  have hl : lv_has ls 7 [(0, .ref (za Z 0)), (1, .int a1), (2, .int a2), (3, .int a3), (4, .int a4), (5, .int a5), (6, .int a6)] := hl
  refine lv_aload_n hx hb dX12_armFacts_0 rfl (lv_at hl 0 rfl) ?_
  refine gF G hw (m_this hZ) KX12 10 (k2 := 9) rfl (by decide) rfl fl_X12_34 dX12_armFacts_1 ?_
  refine lv_bipush hx hb dX12_armFacts_4 kb_10 ?_
  refine lv_iload_n hx hb dX12_armFacts_6 rfl (lv_at hl 2 rfl) ?_
  obtain ⟨S_1, eS_1, hf⟩ := bL_e hf
  refine sI G hw (m_facts hZ) (vin_e (by decide)) (j := 10) (by decide) eS_1 dX12_armFacts_7 (fun H locs hw => ?_)
  refine lv_aload_n hx hb dX12_armFacts_8 rfl (lv_at hl 0 rfl) ?_
  refine gF G hw (m_this hZ) KX12 10 (k2 := 9) rfl (by decide) rfl fl_X12_34 dX12_armFacts_9 ?_
  refine lv_bipush hx hb dX12_armFacts_12 kb_11 ?_
  refine lv_iload_n hx hb dX12_armFacts_14 rfl (lv_at hl 3 rfl) ?_
  obtain ⟨S_2, eS_2, hf⟩ := bL_e hf
  refine sI G hw (m_facts hZ) (vin_e (by decide)) (j := 11) (by decide) eS_2 dX12_armFacts_15 (fun H locs hw => ?_)
  refine lv_aload_n hx hb dX12_armFacts_16 rfl (lv_at hl 0 rfl) ?_
  refine gF G hw (m_this hZ) KX12 10 (k2 := 9) rfl (by decide) rfl fl_X12_34 dX12_armFacts_17 ?_
  refine lv_bipush hx hb dX12_armFacts_20 kb_12 ?_
  refine lv_iload hx hb dX12_armFacts_22 (lv_at hl 4 rfl) ?_
  obtain ⟨S_3, eS_3, hf⟩ := bL_e hf
  refine sI G hw (m_facts hZ) (vin_e (by decide)) (j := 12) (by decide) eS_3 dX12_armFacts_24 (fun H locs hw => ?_)
  refine lv_aload_n hx hb dX12_armFacts_25 rfl (lv_at hl 0 rfl) ?_
  refine gF G hw (m_this hZ) KX12 10 (k2 := 9) rfl (by decide) rfl fl_X12_34 dX12_armFacts_26 ?_
  refine lv_bipush hx hb dX12_armFacts_29 kb_13 ?_
  refine lv_iload hx hb dX12_armFacts_31 (lv_at hl 5 rfl) ?_
  obtain ⟨S_4, eS_4, hf⟩ := bL_e hf
  refine sI G hw (m_facts hZ) (vin_e (by decide)) (j := 13) (by decide) eS_4 dX12_armFacts_33 (fun H locs hw => ?_)
  refine lv_aload_n hx hb dX12_armFacts_34 rfl (lv_at hl 0 rfl) ?_
  refine gF G hw (m_this hZ) KX12 10 (k2 := 9) rfl (by decide) rfl fl_X12_34 dX12_armFacts_35 ?_
  refine lv_bipush hx hb dX12_armFacts_38 kb_14 ?_
  refine lv_aload_n hx hb dX12_armFacts_40 rfl (lv_at hl 0 rfl) ?_
  refine lv_iload_n hx hb dX12_armFacts_41 rfl (lv_at hl 1 rfl) ?_
  refine lv_iconst hx hb dX12_armFacts_42 ki_0 ?_
  obtain ⟨r_5, hr_5, hf⟩ := bB_e hf
  refine kVi (rest := [.int 14, .ref (za Z 9)]) G hw (wX12_own hZ S_4 a1 0 r_5 hr_5) cw_X12_324 (m_this hZ) KX12 ⟨Nat.le_of_ble_eq_true rfl, Nat.le_of_ble_eq_true rfl⟩ rfl hl.1 rfl (Nat.le_of_ble_eq_true rfl) ⟨Nat.le_refl _, Nat.le_refl _⟩ dX12_armFacts_43 (fun H locs hw => ?_)
  obtain ⟨S_6, eS_6, hf⟩ := bL_e hf
  refine sI G hw (m_facts hZ) (vin_e (by decide)) (j := 14) (by decide) eS_6 dX12_armFacts_46 (fun H locs hw => ?_)
  refine lv_aload_n hx hb dX12_armFacts_47 rfl (lv_at hl 0 rfl) ?_
  refine gF G hw (m_this hZ) KX12 10 (k2 := 9) rfl (by decide) rfl fl_X12_34 dX12_armFacts_48 ?_
  refine lv_bipush hx hb dX12_armFacts_51 kb_15 ?_
  refine lv_iload hx hb dX12_armFacts_53 (lv_at hl 6 rfl) ?_
  obtain ⟨S_7, eS_7, hf⟩ := bL_e hf
  refine sI G hw (m_facts hZ) (vin_e (by decide)) (j := 15) (by decide) eS_7 dX12_armFacts_55 (fun H locs hw => ?_)
  refine lv_aload_n hx hb dX12_armFacts_56 rfl (lv_at hl 0 rfl) ?_
  refine gF G hw (m_this hZ) KX12 10 (k2 := 9) rfl (by decide) rfl fl_X12_34 dX12_armFacts_57 ?_
  refine lv_bipush hx hb dX12_armFacts_60 kb_16 ?_
  refine lv_aload_n hx hb dX12_armFacts_62 rfl (lv_at hl 0 rfl) ?_
  refine lv_iload_n hx hb dX12_armFacts_63 rfl (lv_at hl 1 rfl) ?_
  refine lv_iconst hx hb dX12_armFacts_64 ki_2 ?_
  obtain ⟨r_8, hr_8, hf⟩ := bB_e hf
  refine kVi (rest := [.int 16, .ref (za Z 9)]) G hw (wX12_own hZ S_7 a1 2 r_8 hr_8) cw_X12_324 (m_this hZ) KX12 ⟨Nat.le_of_ble_eq_true rfl, Nat.le_of_ble_eq_true rfl⟩ rfl hl.1 rfl (Nat.le_of_ble_eq_true rfl) ⟨Nat.le_refl _, Nat.le_refl _⟩ dX12_armFacts_65 (fun H locs hw => ?_)
  refine lv_bipush hx hb dX12_armFacts_68 kb_100 ?_
  refine lv_idiv hx hb dX12_armFacts_70 (by decide) ?_
  obtain ⟨S_9, eS_9, hf⟩ := bL_e hf
  refine sI G hw (m_facts hZ) (vin_e (by decide)) (j := 16) (by decide) eS_9 dX12_armFacts_71 (fun H locs hw => ?_)
  refine lv_aload_n hx hb dX12_armFacts_72 rfl (lv_at hl 0 rfl) ?_
  refine gF G hw (m_this hZ) KX12 10 (k2 := 9) rfl (by decide) rfl fl_X12_34 dX12_armFacts_73 ?_
  refine lv_bipush hx hb dX12_armFacts_76 kb_17 ?_
  refine lv_aload_n hx hb dX12_armFacts_78 rfl (lv_at hl 0 rfl) ?_
  refine gF G hw (m_this hZ) KX12 0 (k2 := 1) rfl (by decide) rfl fl_X12_7 dX12_armFacts_79 ?_
  refine lv_iconst hx hb dX12_armFacts_82 ki_0 ?_
  refine aI G hw (m_w hZ) (vin_e (by decide)) (j := 0) (by decide) dX12_armFacts_83 ?_
  obtain ⟨S_10, eS_10, hf⟩ := bL_e hf
  refine sI G hw (m_facts hZ) (vin_e (by decide)) (j := 17) (by decide) eS_10 dX12_armFacts_84 (fun H locs hw => ?_)
  exact hret _ _ _ _ dX12_armFacts_85 (by rw [← (Option.some.inj hf)]; exact hw)
noncomputable def F12_overOf (S : pS) : Option (Int32 × pS) :=
  bB2 (F12_lawSays S 1 24 0 1000) fun r_1 S_2 =>
  some (r_1, S_2)
set_option maxRecDepth 100000 in
set_option maxHeartbeats 4000000 in
theorem wX12_overOf {l : Launch} {Z : pZ}  (hZ : CM Z) (S : pS)  (r : Int32) (S2 : pS)  (hf : F12_overOf S = some (r, S2)) : CI l Z yX12_overOf cX12_overOf 1 .int 6 134 [.ref (za Z 0)] S r S2 := by
  unfold F12_overOf at hf
  refine eI (own := RX12) (by decide) rfl (Nat.le_of_ble_eq_true rfl) (fun p e s m args below meth c Q ls G hl hw hret => ?_)
  obtain ⟨hx, hb, hml, hown, hts⟩ := G.1
  have hl : lv_has ls 1 [(0, .ref (za Z 0))] := hl
  refine lv_aload_n hx hb dX12_overOf_0 rfl (lv_at hl 0 rfl) ?_
  refine lv_iconst hx hb dX12_overOf_1 ki_1 ?_
  refine lv_bipush hx hb dX12_overOf_2 kb_24 ?_
  refine lv_iconst hx hb dX12_overOf_4 ki_0 ?_
  refine lv_sipush hx hb dX12_overOf_5 ks_1000 ?_
  obtain ⟨r_1, S_2, hr_1, hf⟩ := bB2_e hf
  refine kVi (rest := []) G hw (wX12_lawSays hZ S 1 24 0 1000 r_1 S_2 hr_1) cw_X12_327 (m_this hZ) KX12 ⟨Nat.le_of_ble_eq_true rfl, Nat.le_of_ble_eq_true rfl⟩ rfl hl.1 rfl (Nat.le_of_ble_eq_true rfl) ⟨Nat.le_refl _, Nat.le_refl _⟩ dX12_overOf_8 (fun H locs hw => ?_)
  obtain ⟨e1, e2⟩ := Prod.mk.inj (Option.some.inj hf)
  exact hret _ _ _ _ _ dX12_overOf_11 e1 (by rw [← e2]; exact hw)
noncomputable def F12_wearOf (S : pS) : Option (Int32 × pS) :=
  bB2 (F12_lawSays S 1 25 0 1000) fun r_1 S_2 =>
  some (r_1, S_2)
set_option maxRecDepth 100000 in
set_option maxHeartbeats 4000000 in
theorem wX12_wearOf {l : Launch} {Z : pZ}  (hZ : CM Z) (S : pS)  (r : Int32) (S2 : pS)  (hf : F12_wearOf S = some (r, S2)) : CI l Z yX12_wearOf cX12_wearOf 1 .int 6 134 [.ref (za Z 0)] S r S2 := by
  unfold F12_wearOf at hf
  refine eI (own := RX12) (by decide) rfl (Nat.le_of_ble_eq_true rfl) (fun p e s m args below meth c Q ls G hl hw hret => ?_)
  obtain ⟨hx, hb, hml, hown, hts⟩ := G.1
  have hl : lv_has ls 1 [(0, .ref (za Z 0))] := hl
  refine lv_aload_n hx hb dX12_wearOf_0 rfl (lv_at hl 0 rfl) ?_
  refine lv_iconst hx hb dX12_wearOf_1 ki_1 ?_
  refine lv_bipush hx hb dX12_wearOf_2 kb_25 ?_
  refine lv_iconst hx hb dX12_wearOf_4 ki_0 ?_
  refine lv_sipush hx hb dX12_wearOf_5 ks_1000 ?_
  obtain ⟨r_1, S_2, hr_1, hf⟩ := bB2_e hf
  refine kVi (rest := []) G hw (wX12_lawSays hZ S 1 25 0 1000 r_1 S_2 hr_1) cw_X12_327 (m_this hZ) KX12 ⟨Nat.le_of_ble_eq_true rfl, Nat.le_of_ble_eq_true rfl⟩ rfl hl.1 rfl (Nat.le_of_ble_eq_true rfl) ⟨Nat.le_refl _, Nat.le_refl _⟩ dX12_wearOf_8 (fun H locs hw => ?_)
  obtain ⟨e1, e2⟩ := Prod.mk.inj (Option.some.inj hf)
  exact hret _ _ _ _ _ dX12_wearOf_11 e1 (by rw [← e2]; exact hw)
noncomputable def F12_sine (a0 : Int32) : Option (Int32) :=
  bG (¬ (40500 - (a0 * (180 - a0))) = 0) <|
  some (((4000 * a0) * (180 - a0)) / (40500 - (a0 * (180 - a0))))
set_option maxRecDepth 100000 in
set_option maxHeartbeats 4000000 in
theorem wX12_sine {l : Launch} {Z : pZ}  (hZ : CM Z) (S : pS) (a0 : Int32) (r : Int32)  (hf : F12_sine a0 = some r) : CI l Z yX12_sine cX12_sine 1 .int 3 60 [.int a0] S r S := by
  unfold F12_sine at hf
  refine eI (own := RX12) (by decide) rfl (Nat.le_of_ble_eq_true rfl) (fun p e s m args below meth c Q ls G hl hw hret => ?_)
  obtain ⟨hx, hb, hml, hown, hts⟩ := G.1
  have hl : lv_has ls 1 [(0, .int a0)] := hl
  refine lv_sipush hx hb dX12_sine_0 ks_4000 ?_
  refine lv_iload_n hx hb dX12_sine_3 rfl (lv_at hl 0 rfl) ?_
  refine lv_imul hx hb dX12_sine_4 ?_
  refine lv_sipush hx hb dX12_sine_5 ks_180 ?_
  refine lv_iload_n hx hb dX12_sine_8 rfl (lv_at hl 0 rfl) ?_
  refine lv_isub hx hb dX12_sine_9 ?_
  refine lv_imul hx hb dX12_sine_10 ?_
  refine lv_ldcw hx hb hown (hts _ cn_X12_331) dX12_sine_11 ?_
  refine lv_iload_n hx hb dX12_sine_14 rfl (lv_at hl 0 rfl) ?_
  refine lv_sipush hx hb dX12_sine_15 ks_180 ?_
  refine lv_iload_n hx hb dX12_sine_18 rfl (lv_at hl 0 rfl) ?_
  refine lv_isub hx hb dX12_sine_19 ?_
  refine lv_imul hx hb dX12_sine_20 ?_
  refine lv_isub hx hb dX12_sine_21 ?_
  obtain ⟨hg1, hf⟩ := bG_e hf
  refine lv_idiv hx hb dX12_sine_22 hg1 ?_
  exact hret _ _ _ _ _ dX12_sine_23 (Option.some.inj hf) hw
noncomputable def F12_begins (S : pS) (a1 : Int32) (a2 : Int32) (a3 : Int32) : Option (pS) :=
  bB (F12_sine (90 - a2)) fun r_1 =>
  bL (sU S 0 27 (((3 * a1) * r_1) / 1000)) fun S_2 =>
  bB (F12_sine a2) fun r_3 =>
  bL (sU S_2 0 28 (((3 * a1) * r_3) / 1000)) fun S_4 =>
  bL (sU S_4 0 29 180) fun S_5 =>
  bL (sU S_5 0 30 0) fun S_6 =>
  bL (sU S_6 0 31 0) fun S_7 =>
  bL (sU S_7 0 32 0) fun S_8 =>
  bL (sU S_8 0 33 (a2 + a3)) fun S_9 =>
  bL (sU S_9 0 34 0) fun S_10 =>
  bL (sU S_10 0 35 (S_10 0 29)) fun S_11 =>
  some S_11
set_option maxRecDepth 100000 in
set_option maxHeartbeats 4000000 in
theorem wX12_begins {l : Launch} {Z : pZ}  (hZ : CM Z) (S : pS) (a1 : Int32) (a2 : Int32) (a3 : Int32) (S2 : pS)  (hf : F12_begins S a1 a2 a3 = some S2) : CV l Z yX12_begins cX12_begins 4 4 80 [.ref (za Z 0), .int a1, .int a2, .int a3] S S2 := by
  unfold F12_begins at hf
  refine eV (own := RX12) (by decide) rfl (Nat.le_of_ble_eq_true rfl) (fun p e s m args below meth c Q ls G hl hw hret => ?_)
  obtain ⟨hx, hb, hml, hown, hts⟩ := G.1
  have hl : lv_has ls 4 [(0, .ref (za Z 0)), (1, .int a1), (2, .int a2), (3, .int a3)] := hl
  refine lv_aload_n hx hb dX12_begins_0 rfl (lv_at hl 0 rfl) ?_
  refine lv_iconst hx hb dX12_begins_1 ki_3 ?_
  refine lv_iload_n hx hb dX12_begins_2 rfl (lv_at hl 1 rfl) ?_
  refine lv_imul hx hb dX12_begins_3 ?_
  refine lv_bipush hx hb dX12_begins_4 kb_90 ?_
  refine lv_iload_n hx hb dX12_begins_6 rfl (lv_at hl 2 rfl) ?_
  refine lv_isub hx hb dX12_begins_7 ?_
  obtain ⟨r_1, hr_1, hf⟩ := bB_e hf
  refine kSi (rest := [.int (3 * a1), .ref (za Z 0)]) G hw (wX12_sine hZ S (90 - a2) r_1 hr_1) cw_X12_332 ⟨Nat.le_of_ble_eq_true rfl, Nat.le_of_ble_eq_true rfl⟩ rfl hl.1 rfl (Nat.le_of_ble_eq_true rfl) ⟨Nat.le_refl _, Nat.le_refl _⟩ dX12_begins_8 (fun H locs hw => ?_)
  refine lv_imul hx hb dX12_begins_11 ?_
  refine lv_sipush hx hb dX12_begins_12 ks_1000 ?_
  refine lv_idiv hx hb dX12_begins_15 (by decide) ?_
  obtain ⟨S_2, eS_2, hf⟩ := bL_e hf
  refine pI G hw (m_this hZ) KX12 27 (by decide) rfl rfl rfl eS_2 fl_X12_335 dX12_begins_16 (fun H locs hw => ?_)
  refine lv_aload_n hx hb dX12_begins_19 rfl (lv_at hl 0 rfl) ?_
  refine lv_iconst hx hb dX12_begins_20 ki_3 ?_
  refine lv_iload_n hx hb dX12_begins_21 rfl (lv_at hl 1 rfl) ?_
  refine lv_imul hx hb dX12_begins_22 ?_
  refine lv_iload_n hx hb dX12_begins_23 rfl (lv_at hl 2 rfl) ?_
  obtain ⟨r_3, hr_3, hf⟩ := bB_e hf
  refine kSi (rest := [.int (3 * a1), .ref (za Z 0)]) G hw (wX12_sine hZ S_2 a2 r_3 hr_3) cw_X12_332 ⟨Nat.le_of_ble_eq_true rfl, Nat.le_of_ble_eq_true rfl⟩ rfl hl.1 rfl (Nat.le_of_ble_eq_true rfl) ⟨Nat.le_refl _, Nat.le_refl _⟩ dX12_begins_24 (fun H locs hw => ?_)
  refine lv_imul hx hb dX12_begins_27 ?_
  refine lv_sipush hx hb dX12_begins_28 ks_1000 ?_
  refine lv_idiv hx hb dX12_begins_31 (by decide) ?_
  obtain ⟨S_4, eS_4, hf⟩ := bL_e hf
  refine pI G hw (m_this hZ) KX12 28 (by decide) rfl rfl rfl eS_4 fl_X12_337 dX12_begins_32 (fun H locs hw => ?_)
  refine lv_aload_n hx hb dX12_begins_35 rfl (lv_at hl 0 rfl) ?_
  refine lv_sipush hx hb dX12_begins_36 ks_180 ?_
  obtain ⟨S_5, eS_5, hf⟩ := bL_e hf
  refine pI G hw (m_this hZ) KX12 29 (by decide) rfl rfl rfl eS_5 fl_X12_339 dX12_begins_39 (fun H locs hw => ?_)
  refine lv_aload_n hx hb dX12_begins_42 rfl (lv_at hl 0 rfl) ?_
  refine lv_iconst hx hb dX12_begins_43 ki_0 ?_
  obtain ⟨S_6, eS_6, hf⟩ := bL_e hf
  refine pI G hw (m_this hZ) KX12 30 (by decide) rfl rfl rfl eS_6 fl_X12_341 dX12_begins_44 (fun H locs hw => ?_)
  refine lv_aload_n hx hb dX12_begins_47 rfl (lv_at hl 0 rfl) ?_
  refine lv_iconst hx hb dX12_begins_48 ki_0 ?_
  obtain ⟨S_7, eS_7, hf⟩ := bL_e hf
  refine pI G hw (m_this hZ) KX12 31 (by decide) rfl rfl rfl eS_7 fl_X12_344 dX12_begins_49 (fun H locs hw => ?_)
  refine lv_aload_n hx hb dX12_begins_52 rfl (lv_at hl 0 rfl) ?_
  refine lv_iconst hx hb dX12_begins_53 ki_0 ?_
  obtain ⟨S_8, eS_8, hf⟩ := bL_e hf
  refine pI G hw (m_this hZ) KX12 32 (by decide) rfl rfl rfl eS_8 fl_X12_347 dX12_begins_54 (fun H locs hw => ?_)
  refine lv_aload_n hx hb dX12_begins_57 rfl (lv_at hl 0 rfl) ?_
  refine lv_iload_n hx hb dX12_begins_58 rfl (lv_at hl 2 rfl) ?_
  refine lv_iload_n hx hb dX12_begins_59 rfl (lv_at hl 3 rfl) ?_
  refine lv_iadd hx hb dX12_begins_60 ?_
  obtain ⟨S_9, eS_9, hf⟩ := bL_e hf
  refine pI G hw (m_this hZ) KX12 33 (by decide) rfl rfl rfl eS_9 fl_X12_350 dX12_begins_61 (fun H locs hw => ?_)
  refine lv_aload_n hx hb dX12_begins_64 rfl (lv_at hl 0 rfl) ?_
  refine lv_iconst hx hb dX12_begins_65 ki_0 ?_
  obtain ⟨S_10, eS_10, hf⟩ := bL_e hf
  refine pI G hw (m_this hZ) KX12 34 (by decide) rfl rfl rfl eS_10 fl_X12_352 dX12_begins_66 (fun H locs hw => ?_)
  refine lv_aload_n hx hb dX12_begins_69 rfl (lv_at hl 0 rfl) ?_
  refine lv_aload_n hx hb dX12_begins_70 rfl (lv_at hl 0 rfl) ?_
  refine gI G hw (m_this hZ) KX12 29 (by decide) rfl fl_X12_339 dX12_begins_71 ?_
  obtain ⟨S_11, eS_11, hf⟩ := bL_e hf
  refine pI G hw (m_this hZ) KX12 35 (by decide) rfl rfl rfl eS_11 fl_X12_355 dX12_begins_74 (fun H locs hw => ?_)
  exact hret _ _ _ _ dX12_begins_77 (by rw [← (Option.some.inj hf)]; exact hw)
noncomputable def F12_ticksOn (S : pS) (a1 : Int32) (a2 : Int32) (a3 : Int32) : Option (pS) :=
  bL (sU S 9 1 (S 0 27)) fun S_1 =>
  bL (sU S_1 9 2 (S_1 0 28)) fun S_2 =>
  bL (sU S_2 9 3 (S_2 0 29)) fun S_3 =>
  bL (sU S_3 9 4 (S_3 0 33)) fun S_4 =>
  bL (sU S_4 9 5 a2) fun S_5 =>
  bL (sU S_5 9 6 a3) fun S_6 =>
  bG (vp_in (70 + (2 * a1)) 4296) <|
  bL (sU S_6 9 7 (S_6 1 ((70 + (2 * a1)).toNatClampNeg))) fun S_7 =>
  bG (vp_in ((70 + (2 * a1)) + 1) 4296) <|
  bL (sU S_7 9 8 (S_7 1 (((70 + (2 * a1)) + 1).toNatClampNeg))) fun S_8 =>
  bL (sU S_8 9 9 (S_8 0 34)) fun S_9 =>
  bB2 (F12_lawSays S_9 0 20 (-20) 20) fun r_10 S_11 =>
  bL (sU S_11 0 28 ((S_9 0 28) + (r_10 - 10))) fun S_12 =>
  bB2 (F12_lawSays S_12 0 21 0 50) fun r_13 S_14 =>
  bL (sU S_14 0 27 (F12_greater 0 ((S_12 0 27) - r_13))) fun S_15 =>
  bB2 (F12_lawSays S_15 0 22 (-9) 9) fun r_16 S_17 =>
  bL (sU S_17 0 33 ((S_15 0 33) - r_16)) fun S_18 =>
  bB2 (F12_lawSays S_18 0 23 (-9) 9) fun r_19 S_20 =>
  bL (sU S_20 0 32 ((S_18 0 32) + r_19)) fun S_21 =>
  bL (sU S_21 0 30 ((S_21 0 30) + (S_21 0 27))) fun S_22 =>
  bL (sU S_22 0 29 ((S_22 0 29) + (S_22 0 28))) fun S_23 =>
  bL (sU S_23 0 31 ((S_23 0 31) + (S_23 0 32))) fun S_24 =>
  bL (sU S_24 0 34 ((S_24 0 34) + 1)) fun S_25 =>
  bL (sU S_25 0 35 (F12_greater (S_25 0 35) (S_25 0 29))) fun S_26 =>
  some S_26
set_option maxRecDepth 100000 in
set_option maxHeartbeats 4000000 in
theorem wX12_ticksOn {l : Launch} {Z : pZ}  (hZ : CM Z) (S : pS) (a1 : Int32) (a2 : Int32) (a3 : Int32) (S2 : pS)  (hf : F12_ticksOn S a1 a2 a3 = some S2) : CV l Z yX12_ticksOn cX12_ticksOn 4 6 134 [.ref (za Z 0), .int a1, .int a2, .int a3] S S2 := by
  unfold F12_ticksOn at hf
  refine eV (own := RX12) (by decide) rfl (Nat.le_of_ble_eq_true rfl) (fun p e s m args below meth c Q ls G hl hw hret => ?_)
  obtain ⟨hx, hb, hml, hown, hts⟩ := G.1
  have hl : lv_has ls 4 [(0, .ref (za Z 0)), (1, .int a1), (2, .int a2), (3, .int a3)] := hl
  refine lv_aload_n hx hb dX12_ticksOn_0 rfl (lv_at hl 0 rfl) ?_
  refine gF G hw (m_this hZ) KX12 10 (k2 := 9) rfl (by decide) rfl fl_X12_34 dX12_ticksOn_1 ?_
  refine lv_iconst hx hb dX12_ticksOn_4 ki_1 ?_
  refine lv_aload_n hx hb dX12_ticksOn_5 rfl (lv_at hl 0 rfl) ?_
  refine gI G hw (m_this hZ) KX12 27 (by decide) rfl fl_X12_335 dX12_ticksOn_6 ?_
  obtain ⟨S_1, eS_1, hf⟩ := bL_e hf
  refine sI G hw (m_facts hZ) (vin_e (by decide)) (j := 1) (by decide) eS_1 dX12_ticksOn_9 (fun H locs hw => ?_)
  refine lv_aload_n hx hb dX12_ticksOn_10 rfl (lv_at hl 0 rfl) ?_
  refine gF G hw (m_this hZ) KX12 10 (k2 := 9) rfl (by decide) rfl fl_X12_34 dX12_ticksOn_11 ?_
  refine lv_iconst hx hb dX12_ticksOn_14 ki_2 ?_
  refine lv_aload_n hx hb dX12_ticksOn_15 rfl (lv_at hl 0 rfl) ?_
  refine gI G hw (m_this hZ) KX12 28 (by decide) rfl fl_X12_337 dX12_ticksOn_16 ?_
  obtain ⟨S_2, eS_2, hf⟩ := bL_e hf
  refine sI G hw (m_facts hZ) (vin_e (by decide)) (j := 2) (by decide) eS_2 dX12_ticksOn_19 (fun H locs hw => ?_)
  refine lv_aload_n hx hb dX12_ticksOn_20 rfl (lv_at hl 0 rfl) ?_
  refine gF G hw (m_this hZ) KX12 10 (k2 := 9) rfl (by decide) rfl fl_X12_34 dX12_ticksOn_21 ?_
  refine lv_iconst hx hb dX12_ticksOn_24 ki_3 ?_
  refine lv_aload_n hx hb dX12_ticksOn_25 rfl (lv_at hl 0 rfl) ?_
  refine gI G hw (m_this hZ) KX12 29 (by decide) rfl fl_X12_339 dX12_ticksOn_26 ?_
  obtain ⟨S_3, eS_3, hf⟩ := bL_e hf
  refine sI G hw (m_facts hZ) (vin_e (by decide)) (j := 3) (by decide) eS_3 dX12_ticksOn_29 (fun H locs hw => ?_)
  refine lv_aload_n hx hb dX12_ticksOn_30 rfl (lv_at hl 0 rfl) ?_
  refine gF G hw (m_this hZ) KX12 10 (k2 := 9) rfl (by decide) rfl fl_X12_34 dX12_ticksOn_31 ?_
  refine lv_iconst hx hb dX12_ticksOn_34 ki_4 ?_
  refine lv_aload_n hx hb dX12_ticksOn_35 rfl (lv_at hl 0 rfl) ?_
  refine gI G hw (m_this hZ) KX12 33 (by decide) rfl fl_X12_350 dX12_ticksOn_36 ?_
  obtain ⟨S_4, eS_4, hf⟩ := bL_e hf
  refine sI G hw (m_facts hZ) (vin_e (by decide)) (j := 4) (by decide) eS_4 dX12_ticksOn_39 (fun H locs hw => ?_)
  refine lv_aload_n hx hb dX12_ticksOn_40 rfl (lv_at hl 0 rfl) ?_
  refine gF G hw (m_this hZ) KX12 10 (k2 := 9) rfl (by decide) rfl fl_X12_34 dX12_ticksOn_41 ?_
  refine lv_iconst hx hb dX12_ticksOn_44 ki_5 ?_
  refine lv_iload_n hx hb dX12_ticksOn_45 rfl (lv_at hl 2 rfl) ?_
  obtain ⟨S_5, eS_5, hf⟩ := bL_e hf
  refine sI G hw (m_facts hZ) (vin_e (by decide)) (j := 5) (by decide) eS_5 dX12_ticksOn_46 (fun H locs hw => ?_)
  refine lv_aload_n hx hb dX12_ticksOn_47 rfl (lv_at hl 0 rfl) ?_
  refine gF G hw (m_this hZ) KX12 10 (k2 := 9) rfl (by decide) rfl fl_X12_34 dX12_ticksOn_48 ?_
  refine lv_bipush hx hb dX12_ticksOn_51 kb_6 ?_
  refine lv_iload_n hx hb dX12_ticksOn_53 rfl (lv_at hl 3 rfl) ?_
  obtain ⟨S_6, eS_6, hf⟩ := bL_e hf
  refine sI G hw (m_facts hZ) (vin_e (by decide)) (j := 6) (by decide) eS_6 dX12_ticksOn_54 (fun H locs hw => ?_)
  refine lv_aload_n hx hb dX12_ticksOn_55 rfl (lv_at hl 0 rfl) ?_
  refine gF G hw (m_this hZ) KX12 10 (k2 := 9) rfl (by decide) rfl fl_X12_34 dX12_ticksOn_56 ?_
  refine lv_bipush hx hb dX12_ticksOn_59 kb_7 ?_
  refine lv_aload_n hx hb dX12_ticksOn_61 rfl (lv_at hl 0 rfl) ?_
  refine gF G hw (m_this hZ) KX12 0 (k2 := 1) rfl (by decide) rfl fl_X12_7 dX12_ticksOn_62 ?_
  refine lv_bipush hx hb dX12_ticksOn_65 kb_70 ?_
  refine lv_iconst hx hb dX12_ticksOn_67 ki_2 ?_
  refine lv_iload_n hx hb dX12_ticksOn_68 rfl (lv_at hl 1 rfl) ?_
  refine lv_imul hx hb dX12_ticksOn_69 ?_
  refine lv_iadd hx hb dX12_ticksOn_70 ?_
  obtain ⟨hg1, hf⟩ := bG_e hf
  refine aI G hw (m_w hZ) hg1 (j := (70 + (2 * a1)).toNatClampNeg) rfl dX12_ticksOn_71 ?_
  obtain ⟨S_7, eS_7, hf⟩ := bL_e hf
  refine sI G hw (m_facts hZ) (vin_e (by decide)) (j := 7) (by decide) eS_7 dX12_ticksOn_72 (fun H locs hw => ?_)
  refine lv_aload_n hx hb dX12_ticksOn_73 rfl (lv_at hl 0 rfl) ?_
  refine gF G hw (m_this hZ) KX12 10 (k2 := 9) rfl (by decide) rfl fl_X12_34 dX12_ticksOn_74 ?_
  refine lv_bipush hx hb dX12_ticksOn_77 kb_8 ?_
  refine lv_aload_n hx hb dX12_ticksOn_79 rfl (lv_at hl 0 rfl) ?_
  refine gF G hw (m_this hZ) KX12 0 (k2 := 1) rfl (by decide) rfl fl_X12_7 dX12_ticksOn_80 ?_
  refine lv_bipush hx hb dX12_ticksOn_83 kb_70 ?_
  refine lv_iconst hx hb dX12_ticksOn_85 ki_2 ?_
  refine lv_iload_n hx hb dX12_ticksOn_86 rfl (lv_at hl 1 rfl) ?_
  refine lv_imul hx hb dX12_ticksOn_87 ?_
  refine lv_iadd hx hb dX12_ticksOn_88 ?_
  refine lv_iconst hx hb dX12_ticksOn_89 ki_1 ?_
  refine lv_iadd hx hb dX12_ticksOn_90 ?_
  obtain ⟨hg1, hf⟩ := bG_e hf
  refine aI G hw (m_w hZ) hg1 (j := ((70 + (2 * a1)) + 1).toNatClampNeg) rfl dX12_ticksOn_91 ?_
  obtain ⟨S_8, eS_8, hf⟩ := bL_e hf
  refine sI G hw (m_facts hZ) (vin_e (by decide)) (j := 8) (by decide) eS_8 dX12_ticksOn_92 (fun H locs hw => ?_)
  refine lv_aload_n hx hb dX12_ticksOn_93 rfl (lv_at hl 0 rfl) ?_
  refine gF G hw (m_this hZ) KX12 10 (k2 := 9) rfl (by decide) rfl fl_X12_34 dX12_ticksOn_94 ?_
  refine lv_bipush hx hb dX12_ticksOn_97 kb_9 ?_
  refine lv_aload_n hx hb dX12_ticksOn_99 rfl (lv_at hl 0 rfl) ?_
  refine gI G hw (m_this hZ) KX12 34 (by decide) rfl fl_X12_352 dX12_ticksOn_100 ?_
  obtain ⟨S_9, eS_9, hf⟩ := bL_e hf
  refine sI G hw (m_facts hZ) (vin_e (by decide)) (j := 9) (by decide) eS_9 dX12_ticksOn_103 (fun H locs hw => ?_)
  refine lv_aload_n hx hb dX12_ticksOn_104 rfl (lv_at hl 0 rfl) ?_
  refine lv_dup hx hb dX12_ticksOn_105 rfl ?_
  refine gI G hw (m_this hZ) KX12 28 (by decide) rfl fl_X12_337 dX12_ticksOn_106 ?_
  refine lv_aload_n hx hb dX12_ticksOn_109 rfl (lv_at hl 0 rfl) ?_
  refine lv_iconst hx hb dX12_ticksOn_110 ki_0 ?_
  refine lv_bipush hx hb dX12_ticksOn_111 kb_20 ?_
  refine lv_bipush hx hb dX12_ticksOn_113 kb_m20 ?_
  refine lv_bipush hx hb dX12_ticksOn_115 kb_20 ?_
  obtain ⟨r_10, S_11, hr_10, hf⟩ := bB2_e hf
  refine kVi (rest := [.int (S_9 0 28), .ref (za Z 0)]) G hw (wX12_lawSays hZ S_9 0 20 (-20) 20 r_10 S_11 hr_10) cw_X12_327 (m_this hZ) KX12 ⟨Nat.le_of_ble_eq_true rfl, Nat.le_of_ble_eq_true rfl⟩ rfl hl.1 rfl (Nat.le_of_ble_eq_true rfl) ⟨Nat.le_refl _, Nat.le_refl _⟩ dX12_ticksOn_117 (fun H locs hw => ?_)
  refine lv_bipush hx hb dX12_ticksOn_120 kb_10 ?_
  refine lv_isub hx hb dX12_ticksOn_122 ?_
  refine lv_iadd hx hb dX12_ticksOn_123 ?_
  obtain ⟨S_12, eS_12, hf⟩ := bL_e hf
  refine pI G hw (m_this hZ) KX12 28 (by decide) rfl rfl rfl eS_12 fl_X12_337 dX12_ticksOn_124 (fun H locs hw => ?_)
  refine lv_aload_n hx hb dX12_ticksOn_127 rfl (lv_at hl 0 rfl) ?_
  refine lv_iconst hx hb dX12_ticksOn_128 ki_0 ?_
  refine lv_aload_n hx hb dX12_ticksOn_129 rfl (lv_at hl 0 rfl) ?_
  refine gI G hw (m_this hZ) KX12 27 (by decide) rfl fl_X12_335 dX12_ticksOn_130 ?_
  refine lv_aload_n hx hb dX12_ticksOn_133 rfl (lv_at hl 0 rfl) ?_
  refine lv_iconst hx hb dX12_ticksOn_134 ki_0 ?_
  refine lv_bipush hx hb dX12_ticksOn_135 kb_21 ?_
  refine lv_iconst hx hb dX12_ticksOn_137 ki_0 ?_
  refine lv_bipush hx hb dX12_ticksOn_138 kb_50 ?_
  obtain ⟨r_13, S_14, hr_13, hf⟩ := bB2_e hf
  refine kVi (rest := [.int (S_12 0 27), .int 0, .ref (za Z 0)]) G hw (wX12_lawSays hZ S_12 0 21 0 50 r_13 S_14 hr_13) cw_X12_327 (m_this hZ) KX12 ⟨Nat.le_of_ble_eq_true rfl, Nat.le_of_ble_eq_true rfl⟩ rfl hl.1 rfl (Nat.le_of_ble_eq_true rfl) ⟨Nat.le_refl _, Nat.le_refl _⟩ dX12_ticksOn_140 (fun H locs hw => ?_)
  refine lv_isub hx hb dX12_ticksOn_143 ?_
  refine kSi (rest := [.ref (za Z 0)]) G hw (wX12_greater hZ S_14 0 ((S_12 0 27) - r_13) (F12_greater 0 ((S_12 0 27) - r_13)) rfl) cw_X12_68 ⟨Nat.le_of_ble_eq_true rfl, Nat.le_of_ble_eq_true rfl⟩ rfl hl.1 rfl (Nat.le_of_ble_eq_true rfl) ⟨Nat.le_refl _, Nat.le_refl _⟩ dX12_ticksOn_144 (fun H locs hw => ?_)
  obtain ⟨S_15, eS_15, hf⟩ := bL_e hf
  refine pI G hw (m_this hZ) KX12 27 (by decide) rfl rfl rfl eS_15 fl_X12_335 dX12_ticksOn_147 (fun H locs hw => ?_)
  refine lv_aload_n hx hb dX12_ticksOn_150 rfl (lv_at hl 0 rfl) ?_
  refine lv_dup hx hb dX12_ticksOn_151 rfl ?_
  refine gI G hw (m_this hZ) KX12 33 (by decide) rfl fl_X12_350 dX12_ticksOn_152 ?_
  refine lv_aload_n hx hb dX12_ticksOn_155 rfl (lv_at hl 0 rfl) ?_
  refine lv_iconst hx hb dX12_ticksOn_156 ki_0 ?_
  refine lv_bipush hx hb dX12_ticksOn_157 kb_22 ?_
  refine lv_bipush hx hb dX12_ticksOn_159 kb_m9 ?_
  refine lv_bipush hx hb dX12_ticksOn_161 kb_9 ?_
  obtain ⟨r_16, S_17, hr_16, hf⟩ := bB2_e hf
  refine kVi (rest := [.int (S_15 0 33), .ref (za Z 0)]) G hw (wX12_lawSays hZ S_15 0 22 (-9) 9 r_16 S_17 hr_16) cw_X12_327 (m_this hZ) KX12 ⟨Nat.le_of_ble_eq_true rfl, Nat.le_of_ble_eq_true rfl⟩ rfl hl.1 rfl (Nat.le_of_ble_eq_true rfl) ⟨Nat.le_refl _, Nat.le_refl _⟩ dX12_ticksOn_163 (fun H locs hw => ?_)
  refine lv_isub hx hb dX12_ticksOn_166 ?_
  obtain ⟨S_18, eS_18, hf⟩ := bL_e hf
  refine pI G hw (m_this hZ) KX12 33 (by decide) rfl rfl rfl eS_18 fl_X12_350 dX12_ticksOn_167 (fun H locs hw => ?_)
  refine lv_aload_n hx hb dX12_ticksOn_170 rfl (lv_at hl 0 rfl) ?_
  refine lv_dup hx hb dX12_ticksOn_171 rfl ?_
  refine gI G hw (m_this hZ) KX12 32 (by decide) rfl fl_X12_347 dX12_ticksOn_172 ?_
  refine lv_aload_n hx hb dX12_ticksOn_175 rfl (lv_at hl 0 rfl) ?_
  refine lv_iconst hx hb dX12_ticksOn_176 ki_0 ?_
  refine lv_bipush hx hb dX12_ticksOn_177 kb_23 ?_
  refine lv_bipush hx hb dX12_ticksOn_179 kb_m9 ?_
  refine lv_bipush hx hb dX12_ticksOn_181 kb_9 ?_
  obtain ⟨r_19, S_20, hr_19, hf⟩ := bB2_e hf
  refine kVi (rest := [.int (S_18 0 32), .ref (za Z 0)]) G hw (wX12_lawSays hZ S_18 0 23 (-9) 9 r_19 S_20 hr_19) cw_X12_327 (m_this hZ) KX12 ⟨Nat.le_of_ble_eq_true rfl, Nat.le_of_ble_eq_true rfl⟩ rfl hl.1 rfl (Nat.le_of_ble_eq_true rfl) ⟨Nat.le_refl _, Nat.le_refl _⟩ dX12_ticksOn_183 (fun H locs hw => ?_)
  refine lv_iadd hx hb dX12_ticksOn_186 ?_
  obtain ⟨S_21, eS_21, hf⟩ := bL_e hf
  refine pI G hw (m_this hZ) KX12 32 (by decide) rfl rfl rfl eS_21 fl_X12_347 dX12_ticksOn_187 (fun H locs hw => ?_)
  refine lv_aload_n hx hb dX12_ticksOn_190 rfl (lv_at hl 0 rfl) ?_
  refine lv_dup hx hb dX12_ticksOn_191 rfl ?_
  refine gI G hw (m_this hZ) KX12 30 (by decide) rfl fl_X12_341 dX12_ticksOn_192 ?_
  refine lv_aload_n hx hb dX12_ticksOn_195 rfl (lv_at hl 0 rfl) ?_
  refine gI G hw (m_this hZ) KX12 27 (by decide) rfl fl_X12_335 dX12_ticksOn_196 ?_
  refine lv_iadd hx hb dX12_ticksOn_199 ?_
  obtain ⟨S_22, eS_22, hf⟩ := bL_e hf
  refine pI G hw (m_this hZ) KX12 30 (by decide) rfl rfl rfl eS_22 fl_X12_341 dX12_ticksOn_200 (fun H locs hw => ?_)
  refine lv_aload_n hx hb dX12_ticksOn_203 rfl (lv_at hl 0 rfl) ?_
  refine lv_dup hx hb dX12_ticksOn_204 rfl ?_
  refine gI G hw (m_this hZ) KX12 29 (by decide) rfl fl_X12_339 dX12_ticksOn_205 ?_
  refine lv_aload_n hx hb dX12_ticksOn_208 rfl (lv_at hl 0 rfl) ?_
  refine gI G hw (m_this hZ) KX12 28 (by decide) rfl fl_X12_337 dX12_ticksOn_209 ?_
  refine lv_iadd hx hb dX12_ticksOn_212 ?_
  obtain ⟨S_23, eS_23, hf⟩ := bL_e hf
  refine pI G hw (m_this hZ) KX12 29 (by decide) rfl rfl rfl eS_23 fl_X12_339 dX12_ticksOn_213 (fun H locs hw => ?_)
  refine lv_aload_n hx hb dX12_ticksOn_216 rfl (lv_at hl 0 rfl) ?_
  refine lv_dup hx hb dX12_ticksOn_217 rfl ?_
  refine gI G hw (m_this hZ) KX12 31 (by decide) rfl fl_X12_344 dX12_ticksOn_218 ?_
  refine lv_aload_n hx hb dX12_ticksOn_221 rfl (lv_at hl 0 rfl) ?_
  refine gI G hw (m_this hZ) KX12 32 (by decide) rfl fl_X12_347 dX12_ticksOn_222 ?_
  refine lv_iadd hx hb dX12_ticksOn_225 ?_
  obtain ⟨S_24, eS_24, hf⟩ := bL_e hf
  refine pI G hw (m_this hZ) KX12 31 (by decide) rfl rfl rfl eS_24 fl_X12_344 dX12_ticksOn_226 (fun H locs hw => ?_)
  refine lv_aload_n hx hb dX12_ticksOn_229 rfl (lv_at hl 0 rfl) ?_
  refine lv_dup hx hb dX12_ticksOn_230 rfl ?_
  refine gI G hw (m_this hZ) KX12 34 (by decide) rfl fl_X12_352 dX12_ticksOn_231 ?_
  refine lv_iconst hx hb dX12_ticksOn_234 ki_1 ?_
  refine lv_iadd hx hb dX12_ticksOn_235 ?_
  obtain ⟨S_25, eS_25, hf⟩ := bL_e hf
  refine pI G hw (m_this hZ) KX12 34 (by decide) rfl rfl rfl eS_25 fl_X12_352 dX12_ticksOn_236 (fun H locs hw => ?_)
  refine lv_aload_n hx hb dX12_ticksOn_239 rfl (lv_at hl 0 rfl) ?_
  refine lv_aload_n hx hb dX12_ticksOn_240 rfl (lv_at hl 0 rfl) ?_
  refine gI G hw (m_this hZ) KX12 35 (by decide) rfl fl_X12_355 dX12_ticksOn_241 ?_
  refine lv_aload_n hx hb dX12_ticksOn_244 rfl (lv_at hl 0 rfl) ?_
  refine gI G hw (m_this hZ) KX12 29 (by decide) rfl fl_X12_339 dX12_ticksOn_245 ?_
  refine kSi (rest := [.ref (za Z 0)]) G hw (wX12_greater hZ S_25 (S_25 0 35) (S_25 0 29) (F12_greater (S_25 0 35) (S_25 0 29)) rfl) cw_X12_68 ⟨Nat.le_of_ble_eq_true rfl, Nat.le_of_ble_eq_true rfl⟩ rfl hl.1 rfl (Nat.le_of_ble_eq_true rfl) ⟨Nat.le_refl _, Nat.le_refl _⟩ dX12_ticksOn_248 (fun H locs hw => ?_)
  obtain ⟨S_26, eS_26, hf⟩ := bL_e hf
  refine pI G hw (m_this hZ) KX12 35 (by decide) rfl rfl rfl eS_26 fl_X12_355 dX12_ticksOn_251 (fun H locs hw => ?_)
  exact hret _ _ _ _ dX12_ticksOn_254 (by rw [← (Option.some.inj hf)]; exact hw)
noncomputable def F12_flies (S : pS) (a1 : Int32) (a2 : Int32) (a3 : Int32) (a4 : Int32) (a5 : Int32) (a6 : Int32) : Option (pS) :=
  bB (F12_begins S a1 a2 a3) fun S_1 =>
  bL (fun (S_2 : pS) =>
    some S_2) fun g37_7 =>
  bL (u1 fun (S_3 : pS) =>
    if 400 ≤ (S_3 0 34) then
      some (.inr S_3)
    else
      if (S_3 0 29) ≤ 0 then
        some (.inr S_3)
      else
        bB (F12_ticksOn S_3 a4 a5 a6) fun S_5 =>
        some (.inl S_5)) fun b7 =>
  bB (bP b7 S_1) (u1 g37_7)
set_option maxRecDepth 100000 in
set_option maxHeartbeats 4000000 in
theorem wX12_flies {l : Launch} {Z : pZ}  (hZ : CM Z) (S : pS) (a1 : Int32) (a2 : Int32) (a3 : Int32) (a4 : Int32) (a5 : Int32) (a6 : Int32) (S2 : pS)  (hf : F12_flies S a1 a2 a3 a4 a5 a6 = some S2) : CV l Z yX12_flies cX12_flies 7 7 157 [.ref (za Z 0), .int a1, .int a2, .int a3, .int a4, .int a5, .int a6] S S2 := by
  unfold F12_flies at hf
  refine eV (own := RX12) (by decide) rfl (Nat.le_of_ble_eq_true rfl) (fun p e s m args below meth c Q ls G hl hw hret => ?_)
  obtain ⟨hx, hb, hml, hown, hts⟩ := G.1
  have hl : lv_has ls 7 [(0, .ref (za Z 0)), (1, .int a1), (2, .int a2), (3, .int a3), (4, .int a4), (5, .int a5), (6, .int a6)] := hl
  refine lv_aload_n hx hb dX12_flies_0 rfl (lv_at hl 0 rfl) ?_
  refine lv_iload_n hx hb dX12_flies_1 rfl (lv_at hl 1 rfl) ?_
  refine lv_iload_n hx hb dX12_flies_2 rfl (lv_at hl 2 rfl) ?_
  refine lv_iload_n hx hb dX12_flies_3 rfl (lv_at hl 3 rfl) ?_
  obtain ⟨S_1, hS_1, hf⟩ := bB_e hf
  refine kVv (rest := []) G hw (wX12_begins hZ S a1 a2 a3 S_1 hS_1) cw_X12_358 (m_this hZ) KX12 ⟨Nat.le_of_ble_eq_true rfl, Nat.le_of_ble_eq_true rfl⟩ rfl hl.1 rfl (Nat.le_of_ble_eq_true rfl) ⟨Nat.le_refl _, Nat.le_refl _⟩ dX12_flies_4 (fun H locs hw => ?_)
  obtain ⟨g37_7, ej, hf⟩ := bL_e hf
  have R37_7 : ∀ (S_2 : pS) (H : Heap) (locs : List Loc) (ls : Array Slot), Wd Z s S_2 H locs → lv_has ls 7 [] → g37_7 S_2 = some S2 → W p l e { frames := 7, cells := 0, slots := 0, locals := 157 } s m args below meth c H locs 0 0 Q (F0 m 37 ls []) := by
    intro S_2 H locs ls hw hl hf
    have hf := (congrFun ej S_2).symm.trans hf
    exact hret _ _ _ _ dX12_flies_37 (by rw [← (Option.some.inj hf)]; exact hw)
  clear ej
  obtain ⟨b7, eb, hf⟩ := bL_e hf
  have RL7 : ∀ (n : Nat) z, (u1 g37_7) z = some S2 → ∀ (S_3 : pS) (H : Heap) (locs : List Loc) (ls : Array Slot), Wd Z s S_3 H locs → lv_has ls 7 [(0, .ref (za Z 0)), (4, .int a4), (5, .int a5), (6, .int a6)] → bPn b7 n S_3 = some z → W p l e { frames := 7, cells := 0, slots := 0, locals := 157 } s m args below meth c H locs 0 0 Q (F0 m 7 ls []) := by
    intro n
    induction n with
    | zero =>
      intro z hg S_3 H locs ls hw hl hz
      exact bPn_0 hz
    | succ n ih =>
      intro z hg S_3 H locs ls hw hl hz
      obtain ⟨q_4, hf, hz⟩ := bPn_e hz
      have hf := u1_e ((congrFun eb _).symm.trans hf)
      refine lv_aload_n hx hb dX12_flies_7 rfl (lv_at hl 0 rfl) ?_
      refine gI G hw (m_this hZ) KX12 34 (by decide) rfl fl_X12_352 dX12_flies_8 ?_
      refine lv_sipush hx hb dX12_flies_11 ks_400 ?_
      refine lv_icmp_ge (tgt := 37) hx hb dX12_flies_14 (by decide) (fun c_7 => ?_) (fun c_7 => ?_)
      · have hf := (if_pos c_7).symm.trans hf
        obtain rfl := Option.some.inj hf
        obtain rfl := Option.some.inj (hz : some _ = some _)
        exact R37_7 _ _ _ _ hw (lv_sub hl [] rfl) hg
      · have hf := (if_neg c_7).symm.trans hf
        refine lv_aload_n hx hb dX12_flies_17 rfl (lv_at hl 0 rfl) ?_
        refine gI G hw (m_this hZ) KX12 29 (by decide) rfl fl_X12_339 dX12_flies_18 ?_
        refine lv_if_le (tgt := 37) hx hb dX12_flies_21 (by decide) (fun c_6 => ?_) (fun c_6 => ?_)
        · have hf := (if_pos c_6).symm.trans hf
          obtain rfl := Option.some.inj hf
          obtain rfl := Option.some.inj (hz : some _ = some _)
          exact R37_7 _ _ _ _ hw (lv_sub hl [] rfl) hg
        · have hf := (if_neg c_6).symm.trans hf
          refine lv_aload_n hx hb dX12_flies_24 rfl (lv_at hl 0 rfl) ?_
          refine lv_iload hx hb dX12_flies_25 (lv_at hl 1 rfl) ?_
          refine lv_iload hx hb dX12_flies_27 (lv_at hl 2 rfl) ?_
          refine lv_iload hx hb dX12_flies_29 (lv_at hl 3 rfl) ?_
          obtain ⟨S_5, hS_5, hf⟩ := bB_e hf
          refine kVv (rest := []) G hw (wX12_ticksOn hZ S_3 a4 a5 a6 S_5 hS_5) cw_X12_361 (m_this hZ) KX12 ⟨Nat.le_of_ble_eq_true rfl, Nat.le_of_ble_eq_true rfl⟩ rfl hl.1 rfl (Nat.le_of_ble_eq_true rfl) ⟨Nat.le_refl _, Nat.le_refl _⟩ dX12_flies_31 (fun H locs hw => ?_)
          refine lv_goto (tgt := 7) hx hb dX12_flies_34 (by decide) ?_
          obtain rfl := Option.some.inj hf
          exact ih _ hg _ _ _ _ hw (lv_sub hl [0, 1, 2, 3] rfl) hz
  clear eb
  obtain ⟨z, hz, hf⟩ := bB_e hf
  obtain ⟨n, hz⟩ := bP_e hz
  exact RL7 n z hf _ _ _ _ hw (lv_sub hl [0, 4, 5, 6] rfl) hz
noncomputable def F12_landed (S : pS) : Int32 :=
  if 0 ≤ (S 0 33) then
    if 10 ≤ (S 0 33) then
      (2 : Int32)
    else
      (1 : Int32)
  else
    (0 : Int32)
set_option maxRecDepth 100000 in
set_option maxHeartbeats 4000000 in
theorem wX12_landed {l : Launch} {Z : pZ}  (hZ : CM Z) (S : pS)  (r : Int32)  (hf : F12_landed S = r) : CI l Z yX12_landed cX12_landed 1 .int 3 60 [.ref (za Z 0)] S r S := by
  unfold F12_landed at hf
  refine eI (own := RX12) (by decide) rfl (Nat.le_of_ble_eq_true rfl) (fun p e s m args below meth c Q ls G hl hw hret => ?_)
  obtain ⟨hx, hb, hml, hown, hts⟩ := G.1
  have hl : lv_has ls 1 [(0, .ref (za Z 0))] := hl
  refine lv_aload_n hx hb dX12_landed_0 rfl (lv_at hl 0 rfl) ?_
  refine gI G hw (m_this hZ) KX12 33 (by decide) rfl fl_X12_350 dX12_landed_1 ?_
  refine lv_if_ge (tgt := 11) hx hb dX12_landed_4 (by decide) (fun c_2 => ?_) (fun c_2 => ?_)
  · have hf := (if_pos c_2).symm.trans hf
    refine lv_aload_n hx hb dX12_landed_11 rfl (lv_at hl 0 rfl) ?_
    refine gI G hw (m_this hZ) KX12 33 (by decide) rfl fl_X12_350 dX12_landed_12 ?_
    refine lv_bipush hx hb dX12_landed_15 kb_10 ?_
    refine lv_icmp_ge (tgt := 24) hx hb dX12_landed_17 (by decide) (fun c_1 => ?_) (fun c_1 => ?_)
    · have hf := (if_pos c_1).symm.trans hf
      refine lv_iconst hx hb dX12_landed_24 ki_2 ?_
      exact hret _ _ _ _ _ dX12_landed_25 hf hw
    · have hf := (if_neg c_1).symm.trans hf
      refine lv_iconst hx hb dX12_landed_20 ki_1 ?_
      refine lv_goto (tgt := 25) hx hb dX12_landed_21 (by decide) ?_
      exact hret _ _ _ _ _ dX12_landed_25 hf hw
  · have hf := (if_neg c_2).symm.trans hf
    refine lv_iconst hx hb dX12_landed_7 ki_0 ?_
    refine lv_goto (tgt := 25) hx hb dX12_landed_8 (by decide) ?_
    exact hret _ _ _ _ _ dX12_landed_25 hf hw
noncomputable def F12_isInSector (S : pS) : Option (Int32) :=
  bL (fun (t_1 : Int32) =>
    bB (F12_weather S 4) fun r_2 =>
    if (S 0 30) < (t_1 * r_2) then
      some (0 : Int32)
    else
      some (1 : Int32)) fun j19 =>
  if 0 ≤ (S 0 31) then
    j19 (S 0 31)
  else
    j19 (-(S 0 31))
set_option maxRecDepth 100000 in
set_option maxHeartbeats 4000000 in
theorem wX12_isInSector {l : Launch} {Z : pZ}  (hZ : CM Z) (S : pS)  (r : Int32)  (hf : F12_isInSector S = some r) : CI l Z yX12_isInSector cX12_isInSector 1 .boolean 4 81 [.ref (za Z 0)] S r S := by
  unfold F12_isInSector at hf
  refine eZ (own := RX12) (by decide) rfl (Nat.le_of_ble_eq_true rfl) (fun p e s m args below meth c Q ls G hl hw hret => ?_)
  obtain ⟨hx, hb, hml, hown, hts⟩ := G.1
  have hl : lv_has ls 1 [(0, .ref (za Z 0))] := hl
  refine lv_aload_n hx hb dX12_isInSector_0 rfl (lv_at hl 0 rfl) ?_
  refine gI G hw (m_this hZ) KX12 31 (by decide) rfl fl_X12_344 dX12_isInSector_1 ?_
  obtain ⟨j19, ej, hf⟩ := bL_e hf
  have R19 : ∀ (t_1 : Int32) (H : Heap) (locs : List Loc) (ls : Array Slot), Wd Z s S H locs → lv_has ls 1 [(0, .ref (za Z 0))] → j19 t_1 = some r → W p l e { frames := 4, cells := 0, slots := 0, locals := 81 } s m args below meth c H locs 0 0 Q (F0 m 19 ls [.int t_1]) := by
    intro t_1 H locs ls hw hl hf
    have hf := (congrFun ej t_1).symm.trans hf
    refine lv_aload_n hx hb dX12_isInSector_19 rfl (lv_at hl 0 rfl) ?_
    refine lv_iconst hx hb dX12_isInSector_20 ki_4 ?_
    obtain ⟨r_2, hr_2, hf⟩ := bB_e hf
    refine kVi (rest := [.int t_1]) G hw (wX12_weather hZ S 4 r_2 hr_2) cw_X12_364 (m_this hZ) KX12 ⟨Nat.le_of_ble_eq_true rfl, Nat.le_of_ble_eq_true rfl⟩ rfl hl.1 rfl (Nat.le_of_ble_eq_true rfl) ⟨Nat.le_refl _, Nat.le_refl _⟩ dX12_isInSector_21 (fun H locs hw => ?_)
    refine lv_imul hx hb dX12_isInSector_24 ?_
    refine lv_aload_n hx hb dX12_isInSector_25 rfl (lv_at hl 0 rfl) ?_
    refine gI G hw (m_this hZ) KX12 30 (by decide) rfl fl_X12_341 dX12_isInSector_26 ?_
    refine lv_icmp_gt (tgt := 36) hx hb dX12_isInSector_29 (by decide) (fun c_3 => ?_) (fun c_3 => ?_)
    · have hf := (if_pos c_3).symm.trans hf
      refine lv_iconst hx hb dX12_isInSector_36 ki_0 ?_
      exact hret _ _ _ _ _ dX12_isInSector_37 ((by decide : (0 : Int32) &&& 1 = 0).trans (Option.some.inj hf)) hw
    · have hf := (if_neg c_3).symm.trans hf
      refine lv_iconst hx hb dX12_isInSector_32 ki_1 ?_
      refine lv_goto (tgt := 37) hx hb dX12_isInSector_33 (by decide) ?_
      exact hret _ _ _ _ _ dX12_isInSector_37 ((by decide : (1 : Int32) &&& 1 = 1).trans (Option.some.inj hf)) hw
  clear ej
  refine lv_if_ge (tgt := 15) hx hb dX12_isInSector_4 (by decide) (fun c_4 => ?_) (fun c_4 => ?_)
  · have hf := (if_pos c_4).symm.trans hf
    refine lv_aload_n hx hb dX12_isInSector_15 rfl (lv_at hl 0 rfl) ?_
    refine gI G hw (m_this hZ) KX12 31 (by decide) rfl fl_X12_344 dX12_isInSector_16 ?_
    exact R19 _ _ _ _ hw (lv_sub hl [0] rfl) hf
  · have hf := (if_neg c_4).symm.trans hf
    refine lv_aload_n hx hb dX12_isInSector_7 rfl (lv_at hl 0 rfl) ?_
    refine gI G hw (m_this hZ) KX12 31 (by decide) rfl fl_X12_344 dX12_isInSector_8 ?_
    refine lv_ineg hx hb dX12_isInSector_11 ?_
    refine lv_goto (tgt := 19) hx hb dX12_isInSector_12 (by decide) ?_
    exact R19 _ _ _ _ hw (lv_sub hl [0] rfl) hf
noncomputable def F12_isGood (S : pS) : Option (Int32) :=
  bL (fun (_ : Unit) =>
    some (0 : Int32)) fun j18 =>
  if (F12_landed S) = 0 then
    bB (F12_isInSector S) fun r_1 =>
    if r_1 = 0 then
      j18 ()
    else
      some (1 : Int32)
  else
    j18 ()
set_option maxRecDepth 100000 in
set_option maxHeartbeats 4000000 in
theorem wX12_isGood {l : Launch} {Z : pZ}  (hZ : CM Z) (S : pS)  (r : Int32)  (hf : F12_isGood S = some r) : CI l Z yX12_isGood cX12_isGood 1 .boolean 5 101 [.ref (za Z 0)] S r S := by
  unfold F12_isGood at hf
  refine eZ (own := RX12) (by decide) rfl (Nat.le_of_ble_eq_true rfl) (fun p e s m args below meth c Q ls G hl hw hret => ?_)
  obtain ⟨hx, hb, hml, hown, hts⟩ := G.1
  have hl : lv_has ls 1 [(0, .ref (za Z 0))] := hl
  refine lv_aload_n hx hb dX12_isGood_0 rfl (lv_at hl 0 rfl) ?_
  refine kVi (rest := []) G hw (wX12_landed hZ S (F12_landed S) rfl) cw_X12_367 (m_this hZ) KX12 ⟨Nat.le_of_ble_eq_true rfl, Nat.le_of_ble_eq_true rfl⟩ rfl hl.1 rfl (Nat.le_of_ble_eq_true rfl) ⟨Nat.le_refl _, Nat.le_refl _⟩ dX12_isGood_1 (fun H locs hw => ?_)
  obtain ⟨j18, ej, hf⟩ := bL_e hf
  have R18 : ∀ (H : Heap) (locs : List Loc) (ls : Array Slot), Wd Z s S H locs → lv_has ls 1 [] → j18 () = some r → W p l e { frames := 5, cells := 0, slots := 0, locals := 101 } s m args below meth c H locs 0 0 Q (F0 m 18 ls []) := by
    intro  H locs ls hw hl hf
    have hf := (congrFun ej ()).symm.trans hf
    refine lv_iconst hx hb dX12_isGood_18 ki_0 ?_
    exact hret _ _ _ _ _ dX12_isGood_19 ((by decide : (0 : Int32) &&& 1 = 0).trans (Option.some.inj hf)) hw
  clear ej
  refine lv_if_ne (tgt := 18) hx hb dX12_isGood_4 (by decide) (fun c_3 => ?_) (fun c_3 => ?_)
  · have hf := (if_neg c_3).symm.trans hf
    exact R18 _ _ _ hw (lv_sub hl [] rfl) hf
  · have hf := (if_pos c_3).symm.trans hf
    refine lv_aload_n hx hb dX12_isGood_7 rfl (lv_at hl 0 rfl) ?_
    obtain ⟨r_1, hr_1, hf⟩ := bB_e hf
    refine kVi (rest := []) G hw (wX12_isInSector hZ S r_1 hr_1) cw_X12_370 (m_this hZ) KX12 ⟨Nat.le_of_ble_eq_true rfl, Nat.le_of_ble_eq_true rfl⟩ rfl hl.1 rfl (Nat.le_of_ble_eq_true rfl) ⟨Nat.le_refl _, Nat.le_refl _⟩ dX12_isGood_8 (fun H locs hw => ?_)
    refine lv_if_eq (tgt := 18) hx hb dX12_isGood_11 (by decide) (fun c_2 => ?_) (fun c_2 => ?_)
    · have hf := (if_pos c_2).symm.trans hf
      exact R18 _ _ _ hw (lv_sub hl [] rfl) hf
    · have hf := (if_neg c_2).symm.trans hf
      refine lv_iconst hx hb dX12_isGood_14 ki_1 ?_
      refine lv_goto (tgt := 19) hx hb dX12_isGood_15 (by decide) ?_
      exact hret _ _ _ _ _ dX12_isGood_19 ((by decide : (1 : Int32) &&& 1 = 1).trans (Option.some.inj hf)) hw
noncomputable def F12_keeps (S : pS) : Option (pS) :=
  bL (fun (S_1 : pS) =>
    bL (fun (S_2 : pS) =>
      bL (sU S_2 0 3 ((S_2 0 3) + 1)) fun S_3 =>
      some S_3) fun g83_51 =>
    bL (u2 fun (l1_4 : Int32) (S_5 : pS) =>
      if 60 ≤ l1_4 then
        some (.inr S_5)
      else
        bG (vp_in l1_4 4296) <|
        bG (vp_in ((60 * (S_5 0 3)) + l1_4) 480) <|
        bL (sU S_5 3 (((60 * (S_5 0 3)) + l1_4).toNatClampNeg) (S_5 1 l1_4.toNatClampNeg)) fun S_7 =>
        bL (l1_4 + 1) fun l1_8 =>
        some (.inl (l1_8, S_7))) fun b51 =>
    bB (bP b51 ((0 : Int32), S_1)) (u1 g83_51)) fun j49 =>
  if (S 0 3) = 8 then
    bL (fun (S_10 : pS) =>
      bL (sU S_10 0 3 ((S_10 0 3) - 1)) fun S_11 =>
      j49 S_11) fun g39_11 =>
    bL (u2 fun (l1_12 : Int32) (S_13 : pS) =>
      if 420 ≤ l1_12 then
        some (.inr S_13)
      else
        bG (vp_in (l1_12 + 60) 480) <|
        bG (vp_in l1_12 480) <|
        bL (sU S_13 3 l1_12.toNatClampNeg (S_13 3 ((l1_12 + 60).toNatClampNeg))) fun S_15 =>
        bL (l1_12 + 1) fun l1_16 =>
        some (.inl (l1_16, S_15))) fun b11 =>
    bB (bP b11 ((0 : Int32), S)) (u1 g39_11)
  else
    j49 S
set_option maxRecDepth 100000 in
set_option maxHeartbeats 4000000 in
theorem wX12_keeps {l : Launch} {Z : pZ}  (hZ : CM Z) (S : pS)  (S2 : pS)  (hf : F12_keeps S = some S2) : CV l Z yX12_keeps cX12_keeps 2 3 60 [.ref (za Z 0)] S S2 := by
  unfold F12_keeps at hf
  refine eV (own := RX12) (by decide) rfl (Nat.le_of_ble_eq_true rfl) (fun p e s m args below meth c Q ls G hl hw hret => ?_)
  obtain ⟨hx, hb, hml, hown, hts⟩ := G.1
  have hl : lv_has ls 2 [(0, .ref (za Z 0))] := hl
  refine lv_aload_n hx hb dX12_keeps_0 rfl (lv_at hl 0 rfl) ?_
  refine gI G hw (m_this hZ) KX12 3 (by decide) rfl fl_X12_75 dX12_keeps_1 ?_
  refine lv_bipush hx hb dX12_keeps_4 kb_8 ?_
  obtain ⟨j49, ej, hf⟩ := bL_e hf
  have R49 : ∀ (S_1 : pS) (H : Heap) (locs : List Loc) (ls : Array Slot), Wd Z s S_1 H locs → lv_has ls 2 [(0, .ref (za Z 0))] → j49 S_1 = some S2 → W p l e { frames := 3, cells := 0, slots := 0, locals := 60 } s m args below meth c H locs 0 0 Q (F0 m 49 ls []) := by
    intro S_1 H locs ls hw hl hf
    have hf := (congrFun ej S_1).symm.trans hf
    refine lv_iconst hx hb dX12_keeps_49 ki_0 ?_
    refine lv_istore_n (lv' := [(1, .int 0), (0, .ref (za Z 0))]) hx hb dX12_keeps_50 rfl hl (by decide) rfl (fun ls hl => ?_)
    obtain ⟨g83_51, ej, hf⟩ := bL_e hf
    have R83_51 : ∀ (S_2 : pS) (H : Heap) (locs : List Loc) (ls : Array Slot), Wd Z s S_2 H locs → lv_has ls 2 [(0, .ref (za Z 0))] → g83_51 S_2 = some S2 → W p l e { frames := 3, cells := 0, slots := 0, locals := 60 } s m args below meth c H locs 0 0 Q (F0 m 83 ls []) := by
      intro S_2 H locs ls hw hl hf
      have hf := (congrFun ej S_2).symm.trans hf
      refine lv_aload_n hx hb dX12_keeps_83 rfl (lv_at hl 0 rfl) ?_
      refine lv_dup hx hb dX12_keeps_84 rfl ?_
      refine gI G hw (m_this hZ) KX12 3 (by decide) rfl fl_X12_75 dX12_keeps_85 ?_
      refine lv_iconst hx hb dX12_keeps_88 ki_1 ?_
      refine lv_iadd hx hb dX12_keeps_89 ?_
      obtain ⟨S_3, eS_3, hf⟩ := bL_e hf
      refine pI G hw (m_this hZ) KX12 3 (by decide) rfl rfl rfl eS_3 fl_X12_75 dX12_keeps_90 (fun H locs hw => ?_)
      exact hret _ _ _ _ dX12_keeps_93 (by rw [← (Option.some.inj hf)]; exact hw)
    clear ej
    obtain ⟨b51, eb, hf⟩ := bL_e hf
    have RL51 : ∀ (n : Nat) z, (u1 g83_51) z = some S2 → ∀ (l1_4 : Int32) (S_5 : pS) (H : Heap) (locs : List Loc) (ls : Array Slot), Wd Z s S_5 H locs → lv_has ls 2 [(0, .ref (za Z 0)), (1, .int l1_4)] → bPn b51 n (l1_4, S_5) = some z → W p l e { frames := 3, cells := 0, slots := 0, locals := 60 } s m args below meth c H locs 0 0 Q (F0 m 51 ls []) := by
      intro n
      induction n with
      | zero =>
        intro z hg l1_4 S_5 H locs ls hw hl hz
        exact bPn_0 hz
      | succ n ih =>
        intro z hg l1_4 S_5 H locs ls hw hl hz
        obtain ⟨q_6, hf, hz⟩ := bPn_e hz
        have hf := u2_e ((congrFun eb _).symm.trans hf)
        refine lv_iload_n hx hb dX12_keeps_51 rfl (lv_at hl 1 rfl) ?_
        refine lv_bipush hx hb dX12_keeps_52 kb_60 ?_
        refine lv_icmp_ge (tgt := 83) hx hb dX12_keeps_54 (by decide) (fun c_9 => ?_) (fun c_9 => ?_)
        · have hf := (if_pos c_9).symm.trans hf
          obtain rfl := Option.some.inj hf
          obtain rfl := Option.some.inj (hz : some _ = some _)
          exact R83_51 _ _ _ _ hw (lv_sub hl [0] rfl) hg
        · have hf := (if_neg c_9).symm.trans hf
          refine lv_aload_n hx hb dX12_keeps_57 rfl (lv_at hl 0 rfl) ?_
          refine gF G hw (m_this hZ) KX12 2 (k2 := 3) rfl (by decide) rfl fl_X12_16 dX12_keeps_58 ?_
          refine lv_bipush hx hb dX12_keeps_61 kb_60 ?_
          refine lv_aload_n hx hb dX12_keeps_63 rfl (lv_at hl 0 rfl) ?_
          refine gI G hw (m_this hZ) KX12 3 (by decide) rfl fl_X12_75 dX12_keeps_64 ?_
          refine lv_imul hx hb dX12_keeps_67 ?_
          refine lv_iload_n hx hb dX12_keeps_68 rfl (lv_at hl 1 rfl) ?_
          refine lv_iadd hx hb dX12_keeps_69 ?_
          refine lv_aload_n hx hb dX12_keeps_70 rfl (lv_at hl 0 rfl) ?_
          refine gF G hw (m_this hZ) KX12 0 (k2 := 1) rfl (by decide) rfl fl_X12_7 dX12_keeps_71 ?_
          refine lv_iload_n hx hb dX12_keeps_74 rfl (lv_at hl 1 rfl) ?_
          obtain ⟨hg1, hf⟩ := bG_e hf
          refine aI G hw (m_w hZ) hg1 (j := l1_4.toNatClampNeg) rfl dX12_keeps_75 ?_
          obtain ⟨hg1, hf⟩ := bG_e hf
          obtain ⟨S_7, eS_7, hf⟩ := bL_e hf
          refine sI G hw (m_back hZ) hg1 (j := ((60 * (S_5 0 3)) + l1_4).toNatClampNeg) rfl eS_7 dX12_keeps_76 (fun H locs hw => ?_)
          obtain ⟨l1_8, el1_8, hf⟩ := bL_e hf
          refine lv_iinc (v := l1_8) (lv' := [(1, .int l1_8), (0, .ref (za Z 0))]) hx hb dX12_keeps_77 hl (k := 1) rfl (by rw [el1_8]; rfl) (by decide) rfl (fun ls hl => ?_)
          refine lv_goto (tgt := 51) hx hb dX12_keeps_80 (by decide) ?_
          obtain rfl := Option.some.inj hf
          exact ih _ hg _ _ _ _ _ hw (lv_sub hl [1, 0] rfl) hz
    clear eb
    obtain ⟨z, hz, hf⟩ := bB_e hf
    obtain ⟨n, hz⟩ := bP_e hz
    exact RL51 n z hf _ _ _ _ _ hw (lv_sub hl [1, 0] rfl) hz
  clear ej
  refine lv_icmp_ne (tgt := 49) hx hb dX12_keeps_6 (by decide) (fun c_18 => ?_) (fun c_18 => ?_)
  · have hf := (if_neg c_18).symm.trans hf
    exact R49 _ _ _ _ hw (lv_sub hl [0] rfl) hf
  · have hf := (if_pos c_18).symm.trans hf
    refine lv_iconst hx hb dX12_keeps_9 ki_0 ?_
    refine lv_istore_n (lv' := [(1, .int 0), (0, .ref (za Z 0))]) hx hb dX12_keeps_10 rfl hl (by decide) rfl (fun ls hl => ?_)
    obtain ⟨g39_11, ej, hf⟩ := bL_e hf
    have R39_11 : ∀ (S_10 : pS) (H : Heap) (locs : List Loc) (ls : Array Slot), Wd Z s S_10 H locs → lv_has ls 2 [(0, .ref (za Z 0))] → g39_11 S_10 = some S2 → W p l e { frames := 3, cells := 0, slots := 0, locals := 60 } s m args below meth c H locs 0 0 Q (F0 m 39 ls []) := by
      intro S_10 H locs ls hw hl hf
      have hf := (congrFun ej S_10).symm.trans hf
      refine lv_aload_n hx hb dX12_keeps_39 rfl (lv_at hl 0 rfl) ?_
      refine lv_dup hx hb dX12_keeps_40 rfl ?_
      refine gI G hw (m_this hZ) KX12 3 (by decide) rfl fl_X12_75 dX12_keeps_41 ?_
      refine lv_iconst hx hb dX12_keeps_44 ki_1 ?_
      refine lv_isub hx hb dX12_keeps_45 ?_
      obtain ⟨S_11, eS_11, hf⟩ := bL_e hf
      refine pI G hw (m_this hZ) KX12 3 (by decide) rfl rfl rfl eS_11 fl_X12_75 dX12_keeps_46 (fun H locs hw => ?_)
      exact R49 _ _ _ _ hw (lv_sub hl [0] rfl) hf
    clear ej
    obtain ⟨b11, eb, hf⟩ := bL_e hf
    have RL11 : ∀ (n : Nat) z, (u1 g39_11) z = some S2 → ∀ (l1_12 : Int32) (S_13 : pS) (H : Heap) (locs : List Loc) (ls : Array Slot), Wd Z s S_13 H locs → lv_has ls 2 [(0, .ref (za Z 0)), (1, .int l1_12)] → bPn b11 n (l1_12, S_13) = some z → W p l e { frames := 3, cells := 0, slots := 0, locals := 60 } s m args below meth c H locs 0 0 Q (F0 m 11 ls []) := by
      intro n
      induction n with
      | zero =>
        intro z hg l1_12 S_13 H locs ls hw hl hz
        exact bPn_0 hz
      | succ n ih =>
        intro z hg l1_12 S_13 H locs ls hw hl hz
        obtain ⟨q_14, hf, hz⟩ := bPn_e hz
        have hf := u2_e ((congrFun eb _).symm.trans hf)
        refine lv_iload_n hx hb dX12_keeps_11 rfl (lv_at hl 1 rfl) ?_
        refine lv_sipush hx hb dX12_keeps_12 ks_420 ?_
        refine lv_icmp_ge (tgt := 39) hx hb dX12_keeps_15 (by decide) (fun c_17 => ?_) (fun c_17 => ?_)
        · have hf := (if_pos c_17).symm.trans hf
          obtain rfl := Option.some.inj hf
          obtain rfl := Option.some.inj (hz : some _ = some _)
          exact R39_11 _ _ _ _ hw (lv_sub hl [0] rfl) hg
        · have hf := (if_neg c_17).symm.trans hf
          refine lv_aload_n hx hb dX12_keeps_18 rfl (lv_at hl 0 rfl) ?_
          refine gF G hw (m_this hZ) KX12 2 (k2 := 3) rfl (by decide) rfl fl_X12_16 dX12_keeps_19 ?_
          refine lv_iload_n hx hb dX12_keeps_22 rfl (lv_at hl 1 rfl) ?_
          refine lv_aload_n hx hb dX12_keeps_23 rfl (lv_at hl 0 rfl) ?_
          refine gF G hw (m_this hZ) KX12 2 (k2 := 3) rfl (by decide) rfl fl_X12_16 dX12_keeps_24 ?_
          refine lv_iload_n hx hb dX12_keeps_27 rfl (lv_at hl 1 rfl) ?_
          refine lv_bipush hx hb dX12_keeps_28 kb_60 ?_
          refine lv_iadd hx hb dX12_keeps_30 ?_
          obtain ⟨hg1, hf⟩ := bG_e hf
          refine aI G hw (m_back hZ) hg1 (j := (l1_12 + 60).toNatClampNeg) rfl dX12_keeps_31 ?_
          obtain ⟨hg1, hf⟩ := bG_e hf
          obtain ⟨S_15, eS_15, hf⟩ := bL_e hf
          refine sI G hw (m_back hZ) hg1 (j := l1_12.toNatClampNeg) rfl eS_15 dX12_keeps_32 (fun H locs hw => ?_)
          obtain ⟨l1_16, el1_16, hf⟩ := bL_e hf
          refine lv_iinc (v := l1_16) (lv' := [(1, .int l1_16), (0, .ref (za Z 0))]) hx hb dX12_keeps_33 hl (k := 1) rfl (by rw [el1_16]; rfl) (by decide) rfl (fun ls hl => ?_)
          refine lv_goto (tgt := 11) hx hb dX12_keeps_36 (by decide) ?_
          obtain rfl := Option.some.inj hf
          exact ih _ hg _ _ _ _ _ hw (lv_sub hl [1, 0] rfl) hz
    clear eb
    obtain ⟨z, hz, hf⟩ := bB_e hf
    obtain ⟨n, hz⟩ := bP_e hz
    exact RL11 n z hf _ _ _ _ _ hw (lv_sub hl [1, 0] rfl) hz
noncomputable def F12_undo (S : pS) : Option (Int32 × pS) :=
  if (S 0 3) = 0 then
    some ((0 : Int32), S)
  else
    bL (sU S 0 3 ((S 0 3) - 1)) fun S_1 =>
    bL (fun (S_2 : pS) =>
      some ((1 : Int32), S_2)) fun g53_21 =>
    bL (u2 fun (l1_3 : Int32) (S_4 : pS) =>
      if 60 ≤ l1_3 then
        some (.inr S_4)
      else
        bG (vp_in ((60 * (S_4 0 3)) + l1_3) 480) <|
        bG (vp_in l1_3 4296) <|
        bL (sU S_4 1 l1_3.toNatClampNeg (S_4 3 (((60 * (S_4 0 3)) + l1_3).toNatClampNeg))) fun S_6 =>
        bL (l1_3 + 1) fun l1_7 =>
        some (.inl (l1_7, S_6))) fun b21 =>
    bB (bP b21 ((0 : Int32), S_1)) (u1 g53_21)
set_option maxRecDepth 100000 in
set_option maxHeartbeats 4000000 in
theorem wX12_undo {l : Launch} {Z : pZ}  (hZ : CM Z) (S : pS)  (r : Int32) (S2 : pS)  (hf : F12_undo S = some (r, S2)) : CI l Z yX12_undo cX12_undo 2 .boolean 3 60 [.ref (za Z 0)] S r S2 := by
  unfold F12_undo at hf
  refine eZ (own := RX12) (by decide) rfl (Nat.le_of_ble_eq_true rfl) (fun p e s m args below meth c Q ls G hl hw hret => ?_)
  obtain ⟨hx, hb, hml, hown, hts⟩ := G.1
  have hl : lv_has ls 2 [(0, .ref (za Z 0))] := hl
  refine lv_aload_n hx hb dX12_undo_0 rfl (lv_at hl 0 rfl) ?_
  refine gI G hw (m_this hZ) KX12 3 (by decide) rfl fl_X12_75 dX12_undo_1 ?_
  refine lv_if_ne (tgt := 9) hx hb dX12_undo_4 (by decide) (fun c_9 => ?_) (fun c_9 => ?_)
  · have hf := (if_neg c_9).symm.trans hf
    refine lv_aload_n hx hb dX12_undo_9 rfl (lv_at hl 0 rfl) ?_
    refine lv_dup hx hb dX12_undo_10 rfl ?_
    refine gI G hw (m_this hZ) KX12 3 (by decide) rfl fl_X12_75 dX12_undo_11 ?_
    refine lv_iconst hx hb dX12_undo_14 ki_1 ?_
    refine lv_isub hx hb dX12_undo_15 ?_
    obtain ⟨S_1, eS_1, hf⟩ := bL_e hf
    refine pI G hw (m_this hZ) KX12 3 (by decide) rfl rfl rfl eS_1 fl_X12_75 dX12_undo_16 (fun H locs hw => ?_)
    refine lv_iconst hx hb dX12_undo_19 ki_0 ?_
    refine lv_istore_n (lv' := [(1, .int 0), (0, .ref (za Z 0))]) hx hb dX12_undo_20 rfl hl (by decide) rfl (fun ls hl => ?_)
    obtain ⟨g53_21, ej, hf⟩ := bL_e hf
    have R53_21 : ∀ (S_2 : pS) (H : Heap) (locs : List Loc) (ls : Array Slot), Wd Z s S_2 H locs → lv_has ls 2 [] → g53_21 S_2 = some (r, S2) → W p l e { frames := 3, cells := 0, slots := 0, locals := 60 } s m args below meth c H locs 0 0 Q (F0 m 53 ls []) := by
      intro S_2 H locs ls hw hl hf
      have hf := (congrFun ej S_2).symm.trans hf
      refine lv_iconst hx hb dX12_undo_53 ki_1 ?_
      obtain ⟨e1, e2⟩ := Prod.mk.inj (Option.some.inj hf)
      exact hret _ _ _ _ _ dX12_undo_54 ((by decide : (1 : Int32) &&& 1 = 1).trans e1) (by rw [← e2]; exact hw)
    clear ej
    obtain ⟨b21, eb, hf⟩ := bL_e hf
    have RL21 : ∀ (n : Nat) z, (u1 g53_21) z = some (r, S2) → ∀ (l1_3 : Int32) (S_4 : pS) (H : Heap) (locs : List Loc) (ls : Array Slot), Wd Z s S_4 H locs → lv_has ls 2 [(0, .ref (za Z 0)), (1, .int l1_3)] → bPn b21 n (l1_3, S_4) = some z → W p l e { frames := 3, cells := 0, slots := 0, locals := 60 } s m args below meth c H locs 0 0 Q (F0 m 21 ls []) := by
      intro n
      induction n with
      | zero =>
        intro z hg l1_3 S_4 H locs ls hw hl hz
        exact bPn_0 hz
      | succ n ih =>
        intro z hg l1_3 S_4 H locs ls hw hl hz
        obtain ⟨q_5, hf, hz⟩ := bPn_e hz
        have hf := u2_e ((congrFun eb _).symm.trans hf)
        refine lv_iload_n hx hb dX12_undo_21 rfl (lv_at hl 1 rfl) ?_
        refine lv_bipush hx hb dX12_undo_22 kb_60 ?_
        refine lv_icmp_ge (tgt := 53) hx hb dX12_undo_24 (by decide) (fun c_8 => ?_) (fun c_8 => ?_)
        · have hf := (if_pos c_8).symm.trans hf
          obtain rfl := Option.some.inj hf
          obtain rfl := Option.some.inj (hz : some _ = some _)
          exact R53_21 _ _ _ _ hw (lv_sub hl [] rfl) hg
        · have hf := (if_neg c_8).symm.trans hf
          refine lv_aload_n hx hb dX12_undo_27 rfl (lv_at hl 0 rfl) ?_
          refine gF G hw (m_this hZ) KX12 0 (k2 := 1) rfl (by decide) rfl fl_X12_7 dX12_undo_28 ?_
          refine lv_iload_n hx hb dX12_undo_31 rfl (lv_at hl 1 rfl) ?_
          refine lv_aload_n hx hb dX12_undo_32 rfl (lv_at hl 0 rfl) ?_
          refine gF G hw (m_this hZ) KX12 2 (k2 := 3) rfl (by decide) rfl fl_X12_16 dX12_undo_33 ?_
          refine lv_bipush hx hb dX12_undo_36 kb_60 ?_
          refine lv_aload_n hx hb dX12_undo_38 rfl (lv_at hl 0 rfl) ?_
          refine gI G hw (m_this hZ) KX12 3 (by decide) rfl fl_X12_75 dX12_undo_39 ?_
          refine lv_imul hx hb dX12_undo_42 ?_
          refine lv_iload_n hx hb dX12_undo_43 rfl (lv_at hl 1 rfl) ?_
          refine lv_iadd hx hb dX12_undo_44 ?_
          obtain ⟨hg1, hf⟩ := bG_e hf
          refine aI G hw (m_back hZ) hg1 (j := ((60 * (S_4 0 3)) + l1_3).toNatClampNeg) rfl dX12_undo_45 ?_
          obtain ⟨hg1, hf⟩ := bG_e hf
          obtain ⟨S_6, eS_6, hf⟩ := bL_e hf
          refine sI G hw (m_w hZ) hg1 (j := l1_3.toNatClampNeg) rfl eS_6 dX12_undo_46 (fun H locs hw => ?_)
          obtain ⟨l1_7, el1_7, hf⟩ := bL_e hf
          refine lv_iinc (v := l1_7) (lv' := [(1, .int l1_7), (0, .ref (za Z 0))]) hx hb dX12_undo_47 hl (k := 1) rfl (by rw [el1_7]; rfl) (by decide) rfl (fun ls hl => ?_)
          refine lv_goto (tgt := 21) hx hb dX12_undo_50 (by decide) ?_
          obtain rfl := Option.some.inj hf
          exact ih _ hg _ _ _ _ _ hw (lv_sub hl [1, 0] rfl) hz
    clear eb
    obtain ⟨z, hz, hf⟩ := bB_e hf
    obtain ⟨n, hz⟩ := bP_e hz
    exact RL21 n z hf _ _ _ _ _ hw (lv_sub hl [1, 0] rfl) hz
  · have hf := (if_pos c_9).symm.trans hf
    refine lv_iconst hx hb dX12_undo_7 ki_0 ?_
    obtain ⟨e1, e2⟩ := Prod.mk.inj (Option.some.inj hf)
    exact hret _ _ _ _ _ dX12_undo_8 ((by decide : (0 : Int32) &&& 1 = 0).trans e1) (by rw [← e2]; exact hw)
noncomputable def F12_nextTurn (S : pS) : pS :=
  bL (sU S 1 1 ((S 1 1) + 1)) fun S_1 =>
  if (S_1 1 68) ≤ (S_1 1 1) then
    bL (sU S_1 1 1 0) fun S_2 =>
    bL (sU S_2 1 0 ((S_2 1 0) + 1)) fun S_3 =>
    S_3
  else
    S_1
set_option maxRecDepth 100000 in
set_option maxHeartbeats 4000000 in
theorem wX12_nextTurn {l : Launch} {Z : pZ}  (hZ : CM Z) (S : pS)  (S2 : pS)  (hf : F12_nextTurn S = S2) : CV l Z yX12_nextTurn cX12_nextTurn 1 3 60 [.ref (za Z 0)] S S2 := by
  unfold F12_nextTurn at hf
  refine eV (own := RX12) (by decide) rfl (Nat.le_of_ble_eq_true rfl) (fun p e s m args below meth c Q ls G hl hw hret => ?_)
  obtain ⟨hx, hb, hml, hown, hts⟩ := G.1
  have hl : lv_has ls 1 [(0, .ref (za Z 0))] := hl
  refine lv_aload_n hx hb dX12_nextTurn_0 rfl (lv_at hl 0 rfl) ?_
  refine gF G hw (m_this hZ) KX12 0 (k2 := 1) rfl (by decide) rfl fl_X12_7 dX12_nextTurn_1 ?_
  refine lv_iconst hx hb dX12_nextTurn_4 ki_1 ?_
  refine lv_dup2_11 hx hb dX12_nextTurn_5 rfl rfl ?_
  refine aI G hw (m_w hZ) (vin_e (by decide)) (j := 1) (by decide) dX12_nextTurn_6 ?_
  refine lv_iconst hx hb dX12_nextTurn_7 ki_1 ?_
  refine lv_iadd hx hb dX12_nextTurn_8 ?_
  obtain ⟨S_1, eS_1, hf⟩ := bL_e hf
  refine sI G hw (m_w hZ) (vin_e (by decide)) (j := 1) (by decide) eS_1 dX12_nextTurn_9 (fun H locs hw => ?_)
  refine lv_aload_n hx hb dX12_nextTurn_10 rfl (lv_at hl 0 rfl) ?_
  refine gF G hw (m_this hZ) KX12 0 (k2 := 1) rfl (by decide) rfl fl_X12_7 dX12_nextTurn_11 ?_
  refine lv_iconst hx hb dX12_nextTurn_14 ki_1 ?_
  refine aI G hw (m_w hZ) (vin_e (by decide)) (j := 1) (by decide) dX12_nextTurn_15 ?_
  refine lv_aload_n hx hb dX12_nextTurn_16 rfl (lv_at hl 0 rfl) ?_
  refine gF G hw (m_this hZ) KX12 0 (k2 := 1) rfl (by decide) rfl fl_X12_7 dX12_nextTurn_17 ?_
  refine lv_bipush hx hb dX12_nextTurn_20 kb_68 ?_
  refine aI G hw (m_w hZ) (vin_e (by decide)) (j := 68) (by decide) dX12_nextTurn_22 ?_
  refine lv_icmp_ge (tgt := 27) hx hb dX12_nextTurn_23 (by decide) (fun c_4 => ?_) (fun c_4 => ?_)
  · have hf := (if_pos c_4).symm.trans hf
    refine lv_aload_n hx hb dX12_nextTurn_27 rfl (lv_at hl 0 rfl) ?_
    refine gF G hw (m_this hZ) KX12 0 (k2 := 1) rfl (by decide) rfl fl_X12_7 dX12_nextTurn_28 ?_
    refine lv_iconst hx hb dX12_nextTurn_31 ki_1 ?_
    refine lv_iconst hx hb dX12_nextTurn_32 ki_0 ?_
    obtain ⟨S_2, eS_2, hf⟩ := bL_e hf
    refine sI G hw (m_w hZ) (vin_e (by decide)) (j := 1) (by decide) eS_2 dX12_nextTurn_33 (fun H locs hw => ?_)
    refine lv_aload_n hx hb dX12_nextTurn_34 rfl (lv_at hl 0 rfl) ?_
    refine gF G hw (m_this hZ) KX12 0 (k2 := 1) rfl (by decide) rfl fl_X12_7 dX12_nextTurn_35 ?_
    refine lv_iconst hx hb dX12_nextTurn_38 ki_0 ?_
    refine lv_dup2_11 hx hb dX12_nextTurn_39 rfl rfl ?_
    refine aI G hw (m_w hZ) (vin_e (by decide)) (j := 0) (by decide) dX12_nextTurn_40 ?_
    refine lv_iconst hx hb dX12_nextTurn_41 ki_1 ?_
    refine lv_iadd hx hb dX12_nextTurn_42 ?_
    obtain ⟨S_3, eS_3, hf⟩ := bL_e hf
    refine sI G hw (m_w hZ) (vin_e (by decide)) (j := 0) (by decide) eS_3 dX12_nextTurn_43 (fun H locs hw => ?_)
    exact hret _ _ _ _ dX12_nextTurn_44 (by rw [← hf]; exact hw)
  · have hf := (if_neg c_4).symm.trans hf
    exact hret _ _ _ _ dX12_nextTurn_26 (by rw [← hf]; exact hw)

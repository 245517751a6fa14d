noncomputable def F12_isIn (a0 : Int32) (a1 : Int32) (a2 : Int32) : Int32 :=
  bL (fun (_ : Unit) =>
    (0 : Int32)) fun j14 =>
  if a0 < a1 then
    j14 ()
  else
    if a2 < a0 then
      j14 ()
    else
      (1 : Int32)
set_option maxRecDepth 100000 in
set_option maxHeartbeats 4000000 in
theorem wX12_isIn {l : Launch} {Z : pZ}  (hZ : CM Z) (S : pS) (a0 : Int32) (a1 : Int32) (a2 : Int32) (r : Int32)  (hf : F12_isIn a0 a1 a2 = r) : CI l Z yX12_isIn cX12_isIn 3 .boolean 3 60 [.int a0, .int a1, .int a2] S r S := by
  unfold F12_isIn at hf
  refine eZ (own := RX12) (by decide) rfl (Nat.le_of_ble_eq_true rfl) (fun p e s m args below meth c Q ls G hl hw hret => ?_)
  obtain ⟨hx, hb, hml, hown, hts⟩ := G.1
  have hl : lv_has ls 3 [(0, .int a0), (1, .int a1), (2, .int a2)] := hl
  refine lv_iload_n hx hb dX12_isIn_0 rfl (lv_at hl 0 rfl) ?_
  refine lv_iload_n hx hb dX12_isIn_1 rfl (lv_at hl 1 rfl) ?_
  obtain ⟨j14, ej, hf⟩ := bL_e hf
  have R14 : ∀ (H : Heap) (locs : List Loc) (ls : Array Slot), Wd Z s S H locs → lv_has ls 3 [] → j14 () = r → W p l e { frames := 3, cells := 0, slots := 0, locals := 60 } s m args below meth c H locs 0 0 Q (F0 m 14 ls []) := by
    intro  H locs ls hw hl hf
    have hf := (congrFun ej ()).symm.trans hf
    refine lv_iconst hx hb dX12_isIn_14 ki_0 ?_
    exact hret _ _ _ _ _ dX12_isIn_15 ((by decide : (0 : Int32) &&& 1 = 0).trans hf) hw
  clear ej
  refine lv_icmp_lt (tgt := 14) hx hb dX12_isIn_2 (by decide) (fun c_2 => ?_) (fun c_2 => ?_)
  · have hf := (if_pos c_2).symm.trans hf
    exact R14 _ _ _ hw (lv_sub hl [] rfl) hf
  · have hf := (if_neg c_2).symm.trans hf
    refine lv_iload_n hx hb dX12_isIn_5 rfl (lv_at hl 0 rfl) ?_
    refine lv_iload_n hx hb dX12_isIn_6 rfl (lv_at hl 2 rfl) ?_
    refine lv_icmp_gt (tgt := 14) hx hb dX12_isIn_7 (by decide) (fun c_1 => ?_) (fun c_1 => ?_)
    · have hf := (if_pos c_1).symm.trans hf
      exact R14 _ _ _ hw (lv_sub hl [] rfl) hf
    · have hf := (if_neg c_1).symm.trans hf
      refine lv_iconst hx hb dX12_isIn_10 ki_1 ?_
      refine lv_goto (tgt := 15) hx hb dX12_isIn_11 (by decide) ?_
      exact hret _ _ _ _ _ dX12_isIn_15 ((by decide : (1 : Int32) &&& 1 = 1).trans hf) hw
noncomputable def F12_lesser (a0 : Int32) (a1 : Int32) : Int32 :=
  if a1 ≤ a0 then
    a1
  else
    a0
set_option maxRecDepth 100000 in
set_option maxHeartbeats 4000000 in
theorem wX12_lesser {l : Launch} {Z : pZ}  (hZ : CM Z) (S : pS) (a0 : Int32) (a1 : Int32) (r : Int32)  (hf : F12_lesser a0 a1 = r) : CI l Z yX12_lesser cX12_lesser 2 .int 3 60 [.int a0, .int a1] S r S := by
  unfold F12_lesser at hf
  refine eI (own := RX12) (by decide) rfl (Nat.le_of_ble_eq_true rfl) (fun p e s m args below meth c Q ls G hl hw hret => ?_)
  obtain ⟨hx, hb, hml, hown, hts⟩ := G.1
  have hl : lv_has ls 2 [(0, .int a0), (1, .int a1)] := hl
  refine lv_iload_n hx hb dX12_lesser_0 rfl (lv_at hl 0 rfl) ?_
  refine lv_iload_n hx hb dX12_lesser_1 rfl (lv_at hl 1 rfl) ?_
  refine lv_icmp_ge (tgt := 9) hx hb dX12_lesser_2 (by decide) (fun c_1 => ?_) (fun c_1 => ?_)
  · have hf := (if_pos c_1).symm.trans hf
    refine lv_iload_n hx hb dX12_lesser_9 rfl (lv_at hl 1 rfl) ?_
    exact hret _ _ _ _ _ dX12_lesser_10 hf hw
  · have hf := (if_neg c_1).symm.trans hf
    refine lv_iload_n hx hb dX12_lesser_5 rfl (lv_at hl 0 rfl) ?_
    refine lv_goto (tgt := 10) hx hb dX12_lesser_6 (by decide) ?_
    exact hret _ _ _ _ _ dX12_lesser_10 hf hw
noncomputable def F12_greater (a0 : Int32) (a1 : Int32) : Int32 :=
  if a0 ≤ a1 then
    a1
  else
    a0
set_option maxRecDepth 100000 in
set_option maxHeartbeats 4000000 in
theorem wX12_greater {l : Launch} {Z : pZ}  (hZ : CM Z) (S : pS) (a0 : Int32) (a1 : Int32) (r : Int32)  (hf : F12_greater a0 a1 = r) : CI l Z yX12_greater cX12_greater 2 .int 3 60 [.int a0, .int a1] S r S := by
  unfold F12_greater at hf
  refine eI (own := RX12) (by decide) rfl (Nat.le_of_ble_eq_true rfl) (fun p e s m args below meth c Q ls G hl hw hret => ?_)
  obtain ⟨hx, hb, hml, hown, hts⟩ := G.1
  have hl : lv_has ls 2 [(0, .int a0), (1, .int a1)] := hl
  refine lv_iload_n hx hb dX12_greater_0 rfl (lv_at hl 0 rfl) ?_
  refine lv_iload_n hx hb dX12_greater_1 rfl (lv_at hl 1 rfl) ?_
  refine lv_icmp_le (tgt := 9) hx hb dX12_greater_2 (by decide) (fun c_1 => ?_) (fun c_1 => ?_)
  · have hf := (if_pos c_1).symm.trans hf
    refine lv_iload_n hx hb dX12_greater_9 rfl (lv_at hl 1 rfl) ?_
    exact hret _ _ _ _ _ dX12_greater_10 hf hw
  · have hf := (if_neg c_1).symm.trans hf
    refine lv_iload_n hx hb dX12_greater_5 rfl (lv_at hl 0 rfl) ?_
    refine lv_goto (tgt := 10) hx hb dX12_greater_6 (by decide) ?_
    exact hret _ _ _ _ _ dX12_greater_10 hf hw
noncomputable def F12_held (a0 : Int32) (a1 : Int32) (a2 : Int32) : Int32 :=
  F12_greater a1 (F12_lesser a2 a0)
set_option maxRecDepth 100000 in
set_option maxHeartbeats 4000000 in
theorem wX12_held {l : Launch} {Z : pZ}  (hZ : CM Z) (S : pS) (a0 : Int32) (a1 : Int32) (a2 : Int32) (r : Int32)  (hf : F12_held a0 a1 a2 = r) : CI l Z yX12_held cX12_held 3 .int 4 81 [.int a0, .int a1, .int a2] S r S := by
  unfold F12_held at hf
  refine eI (own := RX12) (by decide) rfl (Nat.le_of_ble_eq_true rfl) (fun p e s m args below meth c Q ls G hl hw hret => ?_)
  obtain ⟨hx, hb, hml, hown, hts⟩ := G.1
  have hl : lv_has ls 3 [(0, .int a0), (1, .int a1), (2, .int a2)] := hl
  refine lv_iload_n hx hb dX12_held_0 rfl (lv_at hl 1 rfl) ?_
  refine lv_iload_n hx hb dX12_held_1 rfl (lv_at hl 2 rfl) ?_
  refine lv_iload_n hx hb dX12_held_2 rfl (lv_at hl 0 rfl) ?_
  refine kSi (rest := [.int a1]) G hw (wX12_lesser hZ S a2 a0 (F12_lesser a2 a0) rfl) cw_X12_64 ⟨Nat.le_of_ble_eq_true rfl, Nat.le_of_ble_eq_true rfl⟩ rfl hl.1 rfl (Nat.le_of_ble_eq_true rfl) ⟨Nat.le_refl _, Nat.le_refl _⟩ dX12_held_3 (fun H locs hw => ?_)
  refine kSi (rest := []) G hw (wX12_greater hZ S a1 (F12_lesser a2 a0) (F12_greater a1 (F12_lesser a2 a0)) rfl) cw_X12_68 ⟨Nat.le_of_ble_eq_true rfl, Nat.le_of_ble_eq_true rfl⟩ rfl hl.1 rfl (Nat.le_of_ble_eq_true rfl) ⟨Nat.le_refl _, Nat.le_refl _⟩ dX12_held_6 (fun H locs hw => ?_)
  exact hret _ _ _ _ _ dX12_held_9 hf hw
noncomputable def F12_weather (S : pS) (a1 : Int32) : Option (Int32) :=
  bG (vp_in (60 + a1) 4296) <|
  some (S 1 ((60 + a1).toNatClampNeg))
set_option maxRecDepth 100000 in
set_option maxHeartbeats 4000000 in
theorem wX12_weather {l : Launch} {Z : pZ}  (hZ : CM Z) (S : pS) (a1 : Int32) (r : Int32)  (hf : F12_weather S a1 = some r) : CI l Z yX12_weather cX12_weather 2 .int 3 60 [.ref (za Z 0), .int a1] S r S := by
  unfold F12_weather at hf
  refine eI (own := RX12) (by decide) rfl (Nat.le_of_ble_eq_true rfl) (fun p e s m args below meth c Q ls G hl hw hret => ?_)
  obtain ⟨hx, hb, hml, hown, hts⟩ := G.1
  have hl : lv_has ls 2 [(0, .ref (za Z 0)), (1, .int a1)] := hl
  refine lv_aload_n hx hb dX12_weather_0 rfl (lv_at hl 0 rfl) ?_
  refine gF G hw (m_this hZ) KX12 0 (k2 := 1) rfl (by decide) rfl fl_X12_7 dX12_weather_1 ?_
  refine lv_bipush hx hb dX12_weather_4 kb_60 ?_
  refine lv_iload_n hx hb dX12_weather_6 rfl (lv_at hl 1 rfl) ?_
  refine lv_iadd hx hb dX12_weather_7 ?_
  obtain ⟨hg1, hf⟩ := bG_e hf
  refine aI G hw (m_w hZ) hg1 (j := (60 + a1).toNatClampNeg) rfl dX12_weather_8 ?_
  exact hret _ _ _ _ _ dX12_weather_9 (Option.some.inj hf) hw
noncomputable def F12_own (S : pS) (a1 : Int32) (a2 : Int32) : Option (Int32) :=
  bG (vp_in ((4 + (7 * a1)) + a2) 4296) <|
  some (S 1 (((4 + (7 * a1)) + a2).toNatClampNeg))
set_option maxRecDepth 100000 in
set_option maxHeartbeats 4000000 in
theorem wX12_own {l : Launch} {Z : pZ}  (hZ : CM Z) (S : pS) (a1 : Int32) (a2 : Int32) (r : Int32)  (hf : F12_own S a1 a2 = some r) : CI l Z yX12_own cX12_own 3 .int 3 60 [.ref (za Z 0), .int a1, .int a2] S r S := by
  unfold F12_own at hf
  refine eI (own := RX12) (by decide) rfl (Nat.le_of_ble_eq_true rfl) (fun p e s m args below meth c Q ls G hl hw hret => ?_)
  obtain ⟨hx, hb, hml, hown, hts⟩ := G.1
  have hl : lv_has ls 3 [(0, .ref (za Z 0)), (1, .int a1), (2, .int a2)] := hl
  refine lv_aload_n hx hb dX12_own_0 rfl (lv_at hl 0 rfl) ?_
  refine gF G hw (m_this hZ) KX12 0 (k2 := 1) rfl (by decide) rfl fl_X12_7 dX12_own_1 ?_
  refine lv_iconst hx hb dX12_own_4 ki_4 ?_
  refine lv_bipush hx hb dX12_own_5 kb_7 ?_
  refine lv_iload_n hx hb dX12_own_7 rfl (lv_at hl 1 rfl) ?_
  refine lv_imul hx hb dX12_own_8 ?_
  refine lv_iadd hx hb dX12_own_9 ?_
  refine lv_iload_n hx hb dX12_own_10 rfl (lv_at hl 2 rfl) ?_
  refine lv_iadd hx hb dX12_own_11 ?_
  obtain ⟨hg1, hf⟩ := bG_e hf
  refine aI G hw (m_w hZ) hg1 (j := ((4 + (7 * a1)) + a2).toNatClampNeg) rfl dX12_own_12 ?_
  exact hret _ _ _ _ _ dX12_own_13 (Option.some.inj hf) hw
noncomputable def F12_gives (S : pS) (a1 : Int32) (a2 : Int32) (a3 : Int32) : Option (pS) :=
  bG (vp_in ((4 + (7 * a1)) + a2) 4296) <|
  bL (sU S 1 (((4 + (7 * a1)) + a2).toNatClampNeg) a3) fun S_1 =>
  some S_1
set_option maxRecDepth 100000 in
set_option maxHeartbeats 4000000 in
theorem wX12_gives {l : Launch} {Z : pZ}  (hZ : CM Z) (S : pS) (a1 : Int32) (a2 : Int32) (a3 : Int32) (S2 : pS)  (hf : F12_gives S a1 a2 a3 = some S2) : CV l Z yX12_gives cX12_gives 4 3 60 [.ref (za Z 0), .int a1, .int a2, .int a3] S S2 := by
  unfold F12_gives at hf
  refine eV (own := RX12) (by decide) rfl (Nat.le_of_ble_eq_true rfl) (fun p e s m args below meth c Q ls G hl hw hret => ?_)
  obtain ⟨hx, hb, hml, hown, hts⟩ := G.1
  have hl : lv_has ls 4 [(0, .ref (za Z 0)), (1, .int a1), (2, .int a2), (3, .int a3)] := hl
  refine lv_aload_n hx hb dX12_gives_0 rfl (lv_at hl 0 rfl) ?_
  refine gF G hw (m_this hZ) KX12 0 (k2 := 1) rfl (by decide) rfl fl_X12_7 dX12_gives_1 ?_
  refine lv_iconst hx hb dX12_gives_4 ki_4 ?_
  refine lv_bipush hx hb dX12_gives_5 kb_7 ?_
  refine lv_iload_n hx hb dX12_gives_7 rfl (lv_at hl 1 rfl) ?_
  refine lv_imul hx hb dX12_gives_8 ?_
  refine lv_iadd hx hb dX12_gives_9 ?_
  refine lv_iload_n hx hb dX12_gives_10 rfl (lv_at hl 2 rfl) ?_
  refine lv_iadd hx hb dX12_gives_11 ?_
  refine lv_iload_n hx hb dX12_gives_12 rfl (lv_at hl 3 rfl) ?_
  obtain ⟨hg1, hf⟩ := bG_e hf
  obtain ⟨S_1, eS_1, hf⟩ := bL_e hf
  refine sI G hw (m_w hZ) hg1 (j := ((4 + (7 * a1)) + a2).toNatClampNeg) rfl eS_1 dX12_gives_13 (fun H locs hw => ?_)
  exact hret _ _ _ _ dX12_gives_14 (by rw [← (Option.some.inj hf)]; exact hw)
noncomputable def F12_isThrower (S : pS) (a1 : Int32) : Int32 :=
  ((F12_isIn a1 0 ((S 1 68) - 1)) &&& 1)
set_option maxRecDepth 100000 in
set_option maxHeartbeats 4000000 in
theorem wX12_isThrower {l : Launch} {Z : pZ}  (hZ : CM Z) (S : pS) (a1 : Int32) (r : Int32)  (hf : F12_isThrower S a1 = r) : CI l Z yX12_isThrower cX12_isThrower 2 .boolean 4 82 [.ref (za Z 0), .int a1] S r S := by
  unfold F12_isThrower at hf
  refine eZ (own := RX12) (by decide) rfl (Nat.le_of_ble_eq_true rfl) (fun p e s m args below meth c Q ls G hl hw hret => ?_)
  obtain ⟨hx, hb, hml, hown, hts⟩ := G.1
  have hl : lv_has ls 2 [(0, .ref (za Z 0)), (1, .int a1)] := hl
  refine lv_iload_n hx hb dX12_isThrower_0 rfl (lv_at hl 1 rfl) ?_
  refine lv_iconst hx hb dX12_isThrower_1 ki_0 ?_
  refine lv_aload_n hx hb dX12_isThrower_2 rfl (lv_at hl 0 rfl) ?_
  refine gF G hw (m_this hZ) KX12 0 (k2 := 1) rfl (by decide) rfl fl_X12_7 dX12_isThrower_3 ?_
  refine lv_bipush hx hb dX12_isThrower_6 kb_68 ?_
  refine aI G hw (m_w hZ) (vin_e (by decide)) (j := 68) (by decide) dX12_isThrower_8 ?_
  refine lv_iconst hx hb dX12_isThrower_9 ki_1 ?_
  refine lv_isub hx hb dX12_isThrower_10 ?_
  refine kSi (rest := []) G hw (wX12_isIn hZ S a1 0 ((S 1 68) - 1) (F12_isIn a1 0 ((S 1 68) - 1)) rfl) cw_X12_71 ⟨Nat.le_of_ble_eq_true rfl, Nat.le_of_ble_eq_true rfl⟩ rfl hl.1 rfl (Nat.le_of_ble_eq_true rfl) ⟨Nat.le_refl _, Nat.le_refl _⟩ dX12_isThrower_11 (fun H locs hw => ?_)
  exact hret _ _ _ _ _ dX12_isThrower_14 hf hw
noncomputable def F12_isSpear (S : pS) (a1 : Int32) : Int32 :=
  ((F12_isIn a1 0 ((S 1 67) - 1)) &&& 1)
set_option maxRecDepth 100000 in
set_option maxHeartbeats 4000000 in
theorem wX12_isSpear {l : Launch} {Z : pZ}  (hZ : CM Z) (S : pS) (a1 : Int32) (r : Int32)  (hf : F12_isSpear S a1 = r) : CI l Z yX12_isSpear cX12_isSpear 2 .boolean 4 82 [.ref (za Z 0), .int a1] S r S := by
  unfold F12_isSpear at hf
  refine eZ (own := RX12) (by decide) rfl (Nat.le_of_ble_eq_true rfl) (fun p e s m args below meth c Q ls G hl hw hret => ?_)
  obtain ⟨hx, hb, hml, hown, hts⟩ := G.1
  have hl : lv_has ls 2 [(0, .ref (za Z 0)), (1, .int a1)] := hl
  refine lv_iload_n hx hb dX12_isSpear_0 rfl (lv_at hl 1 rfl) ?_
  refine lv_iconst hx hb dX12_isSpear_1 ki_0 ?_
  refine lv_aload_n hx hb dX12_isSpear_2 rfl (lv_at hl 0 rfl) ?_
  refine gF G hw (m_this hZ) KX12 0 (k2 := 1) rfl (by decide) rfl fl_X12_7 dX12_isSpear_3 ?_
  refine lv_bipush hx hb dX12_isSpear_6 kb_67 ?_
  refine aI G hw (m_w hZ) (vin_e (by decide)) (j := 67) (by decide) dX12_isSpear_8 ?_
  refine lv_iconst hx hb dX12_isSpear_9 ki_1 ?_
  refine lv_isub hx hb dX12_isSpear_10 ?_
  refine kSi (rest := []) G hw (wX12_isIn hZ S a1 0 ((S 1 67) - 1) (F12_isIn a1 0 ((S 1 67) - 1)) rfl) cw_X12_71 ⟨Nat.le_of_ble_eq_true rfl, Nat.le_of_ble_eq_true rfl⟩ rfl hl.1 rfl (Nat.le_of_ble_eq_true rfl) ⟨Nat.le_refl _, Nat.le_refl _⟩ dX12_isSpear_11 (fun H locs hw => ?_)
  exact hret _ _ _ _ _ dX12_isSpear_14 hf hw
noncomputable def F12_forgets (S : pS) : pS :=
  bL (sU S 0 3 0) fun S_1 =>
  S_1
set_option maxRecDepth 100000 in
set_option maxHeartbeats 4000000 in
theorem wX12_forgets {l : Launch} {Z : pZ}  (hZ : CM Z) (S : pS)  (S2 : pS)  (hf : F12_forgets S = S2) : CV l Z yX12_forgets cX12_forgets 1 3 60 [.ref (za Z 0)] S S2 := by
  unfold F12_forgets at hf
  refine eV (own := RX12) (by decide) rfl (Nat.le_of_ble_eq_true rfl) (fun p e s m args below meth c Q ls G hl hw hret => ?_)
  obtain ⟨hx, hb, hml, hown, hts⟩ := G.1
  have hl : lv_has ls 1 [(0, .ref (za Z 0))] := hl
  refine lv_aload_n hx hb dX12_forgets_0 rfl (lv_at hl 0 rfl) ?_
  refine lv_iconst hx hb dX12_forgets_1 ki_0 ?_
  obtain ⟨S_1, eS_1, hf⟩ := bL_e hf
  refine pI G hw (m_this hZ) KX12 3 (by decide) rfl rfl rfl eS_1 fl_X12_75 dX12_forgets_2 (fun H locs hw => ?_)
  exact hret _ _ _ _ dX12_forgets_5 (by rw [← hf]; exact hw)
noncomputable def F12_state (S : pS) (a1 : Int32) : Int32 × pS :=
  bL (S 1 3) fun l2_1 =>
  bL (sU S 1 3 a1) fun S_2 =>
  bL (F12_forgets S_2) fun S_3 =>
  (l2_1, S_3)
set_option maxRecDepth 100000 in
set_option maxHeartbeats 4000000 in
theorem wX12_state {l : Launch} {Z : pZ}  (hZ : CM Z) (S : pS) (a1 : Int32) (r : Int32) (S2 : pS)  (hf : F12_state S a1 = (r, S2)) : CI l Z yX12_state cX12_state 3 .int 4 80 [.ref (za Z 0), .int a1] S r S2 := by
  unfold F12_state at hf
  refine eI (own := RX12) (by decide) rfl (Nat.le_of_ble_eq_true rfl) (fun p e s m args below meth c Q ls G hl hw hret => ?_)
  obtain ⟨hx, hb, hml, hown, hts⟩ := G.1
  have hl : lv_has ls 3 [(0, .ref (za Z 0)), (1, .int a1)] := hl
  refine lv_aload_n hx hb dX12_state_0 rfl (lv_at hl 0 rfl) ?_
  refine gF G hw (m_this hZ) KX12 0 (k2 := 1) rfl (by decide) rfl fl_X12_7 dX12_state_1 ?_
  refine lv_iconst hx hb dX12_state_4 ki_3 ?_
  refine aI G hw (m_w hZ) (vin_e (by decide)) (j := 3) (by decide) dX12_state_5 ?_
  obtain ⟨l2_1, el2_1, hf⟩ := bL_e hf
  refine top_i el2_1 ?_
  refine lv_istore_n (lv' := [(2, .int l2_1), (0, .ref (za Z 0)), (1, .int a1)]) hx hb dX12_state_6 rfl hl (by decide) rfl (fun ls hl => ?_)
  refine lv_aload_n hx hb dX12_state_7 rfl (lv_at hl 1 rfl) ?_
  refine gF G hw (m_this hZ) KX12 0 (k2 := 1) rfl (by decide) rfl fl_X12_7 dX12_state_8 ?_
  refine lv_iconst hx hb dX12_state_11 ki_3 ?_
  refine lv_iload_n hx hb dX12_state_12 rfl (lv_at hl 2 rfl) ?_
  obtain ⟨S_2, eS_2, hf⟩ := bL_e hf
  refine sI G hw (m_w hZ) (vin_e (by decide)) (j := 3) (by decide) eS_2 dX12_state_13 (fun H locs hw => ?_)
  refine lv_aload_n hx hb dX12_state_14 rfl (lv_at hl 1 rfl) ?_
  obtain ⟨S_3, hS_3, hf⟩ := bL_e hf
  refine kVv (rest := []) G hw (wX12_forgets hZ S_2 S_3 hS_3.symm) cw_X12_78 (m_this hZ) KX12 ⟨Nat.le_of_ble_eq_true rfl, Nat.le_of_ble_eq_true rfl⟩ rfl hl.1 rfl (Nat.le_of_ble_eq_true rfl) ⟨Nat.le_refl _, Nat.le_refl _⟩ dX12_state_15 (fun H locs hw => ?_)
  refine lv_iload_n hx hb dX12_state_18 rfl (lv_at hl 0 rfl) ?_
  obtain ⟨e1, e2⟩ := Prod.mk.inj hf
  exact hret _ _ _ _ _ dX12_state_19 e1 (by rw [← e2]; exact hw)
noncomputable def F12_draw (S : pS) (a1 : Int32) : Option (Int32 × pS) :=
  bL (sU S 1 3 ((1664525 * (S 1 3)) + 1013904223)) fun S_1 =>
  bG (¬ a1 = 0) <|
  some ((((S_1 1 3).toUInt32 >>> ((8 : Int32).toUInt32 &&& Int32.toUInt32 31)).toInt32) - (((S_1 1 3).toUInt32 >>> ((8 : Int32).toUInt32 &&& Int32.toUInt32 31)).toInt32) / a1 * a1, S_1)
set_option maxRecDepth 100000 in
set_option maxHeartbeats 4000000 in
theorem wX12_draw {l : Launch} {Z : pZ}  (hZ : CM Z) (S : pS) (a1 : Int32) (r : Int32) (S2 : pS)  (hf : F12_draw S a1 = some (r, S2)) : CI l Z yX12_draw cX12_draw 2 .int 3 60 [.ref (za Z 0), .int a1] S r S2 := by
  unfold F12_draw at hf
  refine eI (own := RX12) (by decide) rfl (Nat.le_of_ble_eq_true rfl) (fun p e s m args below meth c Q ls G hl hw hret => ?_)
  obtain ⟨hx, hb, hml, hown, hts⟩ := G.1
  have hl : lv_has ls 2 [(0, .ref (za Z 0)), (1, .int a1)] := hl
  refine lv_aload_n hx hb dX12_draw_0 rfl (lv_at hl 0 rfl) ?_
  refine gF G hw (m_this hZ) KX12 0 (k2 := 1) rfl (by decide) rfl fl_X12_7 dX12_draw_1 ?_
  refine lv_iconst hx hb dX12_draw_4 ki_3 ?_
  refine lv_ldc hx hb hown (hts _ cn_X12_81) dX12_draw_5 ?_
  refine lv_aload_n hx hb dX12_draw_7 rfl (lv_at hl 0 rfl) ?_
  refine gF G hw (m_this hZ) KX12 0 (k2 := 1) rfl (by decide) rfl fl_X12_7 dX12_draw_8 ?_
  refine lv_iconst hx hb dX12_draw_11 ki_3 ?_
  refine aI G hw (m_w hZ) (vin_e (by decide)) (j := 3) (by decide) dX12_draw_12 ?_
  refine lv_imul hx hb dX12_draw_13 ?_
  refine lv_ldc hx hb hown (hts _ cn_X12_82) dX12_draw_14 ?_
  refine lv_iadd hx hb dX12_draw_16 ?_
  obtain ⟨S_1, eS_1, hf⟩ := bL_e hf
  refine sI G hw (m_w hZ) (vin_e (by decide)) (j := 3) (by decide) eS_1 dX12_draw_17 (fun H locs hw => ?_)
  refine lv_aload_n hx hb dX12_draw_18 rfl (lv_at hl 0 rfl) ?_
  refine gF G hw (m_this hZ) KX12 0 (k2 := 1) rfl (by decide) rfl fl_X12_7 dX12_draw_19 ?_
  refine lv_iconst hx hb dX12_draw_22 ki_3 ?_
  refine aI G hw (m_w hZ) (vin_e (by decide)) (j := 3) (by decide) dX12_draw_23 ?_
  refine lv_bipush hx hb dX12_draw_24 kb_8 ?_
  refine lv_iushr hx hb dX12_draw_26 rfl ?_
  refine lv_iload_n hx hb dX12_draw_27 rfl (lv_at hl 1 rfl) ?_
  obtain ⟨hg1, hf⟩ := bG_e hf
  refine lv_irem hx hb dX12_draw_28 hg1 ?_
  obtain ⟨e1, e2⟩ := Prod.mk.inj (Option.some.inj hf)
  exact hret _ _ _ _ _ dX12_draw_29 e1 (by rw [← e2]; exact hw)
noncomputable def F12_spear (S : pS) (a1 : Int32) (a2 : Int32) : Option (Int32 × pS) :=
  if (F12_isIn a1 0 9) = 0 then
    some (((-1) : Int32), S)
  else
    if (F12_isIn a2 0 9) = 0 then
      some (((-1) : Int32), S)
    else
      if (S 1 67) = 6 then
        some (((-1) : Int32), S)
      else
        bL (S 1 67) fun l3_1 =>
        bG (vp_in (70 + (2 * l3_1)) 4296) <|
        bL (sU S 1 ((70 + (2 * l3_1)).toNatClampNeg) a1) fun S_2 =>
        bG (vp_in ((70 + (2 * l3_1)) + 1) 4296) <|
        bL (sU S_2 1 (((70 + (2 * l3_1)) + 1).toNatClampNeg) a2) fun S_3 =>
        bL (sU S_3 1 67 ((S_3 1 67) + 1)) fun S_4 =>
        bL (F12_forgets S_4) fun S_5 =>
        some (l3_1, S_5)
set_option maxRecDepth 100000 in
set_option maxHeartbeats 4000000 in
theorem wX12_spear {l : Launch} {Z : pZ}  (hZ : CM Z) (S : pS) (a1 : Int32) (a2 : Int32) (r : Int32) (S2 : pS)  (hf : F12_spear S a1 a2 = some (r, S2)) : CI l Z yX12_spear cX12_spear 4 .int 4 82 [.ref (za Z 0), .int a1, .int a2] S r S2 := by
  unfold F12_spear at hf
  refine eI (own := RX12) (by decide) rfl (Nat.le_of_ble_eq_true rfl) (fun p e s m args below meth c Q ls G hl hw hret => ?_)
  obtain ⟨hx, hb, hml, hown, hts⟩ := G.1
  have hl : lv_has ls 4 [(0, .ref (za Z 0)), (1, .int a1), (2, .int a2)] := hl
  refine lv_iload_n hx hb dX12_spear_0 rfl (lv_at hl 1 rfl) ?_
  refine lv_iconst hx hb dX12_spear_1 ki_0 ?_
  refine lv_bipush hx hb dX12_spear_2 kb_9 ?_
  refine kSi (rest := []) G hw (wX12_isIn hZ S a1 0 9 (F12_isIn a1 0 9) rfl) cw_X12_71 ⟨Nat.le_of_ble_eq_true rfl, Nat.le_of_ble_eq_true rfl⟩ rfl hl.1 rfl (Nat.le_of_ble_eq_true rfl) ⟨Nat.le_refl _, Nat.le_refl _⟩ dX12_spear_4 (fun H locs hw => ?_)
  refine lv_if_eq (tgt := 32) hx hb dX12_spear_7 (by decide) (fun c_8 => ?_) (fun c_8 => ?_)
  · have hf := (if_pos c_8).symm.trans hf
    refine lv_iconst hx hb dX12_spear_32 ki_m1 ?_
    obtain ⟨e1, e2⟩ := Prod.mk.inj (Option.some.inj hf)
    exact hret _ _ _ _ _ dX12_spear_33 e1 (by rw [← e2]; exact hw)
  · have hf := (if_neg c_8).symm.trans hf
    refine lv_iload_n hx hb dX12_spear_10 rfl (lv_at hl 2 rfl) ?_
    refine lv_iconst hx hb dX12_spear_11 ki_0 ?_
    refine lv_bipush hx hb dX12_spear_12 kb_9 ?_
    refine kSi (rest := []) G hw (wX12_isIn hZ S a2 0 9 (F12_isIn a2 0 9) rfl) cw_X12_71 ⟨Nat.le_of_ble_eq_true rfl, Nat.le_of_ble_eq_true rfl⟩ rfl hl.1 rfl (Nat.le_of_ble_eq_true rfl) ⟨Nat.le_refl _, Nat.le_refl _⟩ dX12_spear_14 (fun H locs hw => ?_)
    refine lv_if_eq (tgt := 32) hx hb dX12_spear_17 (by decide) (fun c_7 => ?_) (fun c_7 => ?_)
    · have hf := (if_pos c_7).symm.trans hf
      refine lv_iconst hx hb dX12_spear_32 ki_m1 ?_
      obtain ⟨e1, e2⟩ := Prod.mk.inj (Option.some.inj hf)
      exact hret _ _ _ _ _ dX12_spear_33 e1 (by rw [← e2]; exact hw)
    · have hf := (if_neg c_7).symm.trans hf
      refine lv_aload_n hx hb dX12_spear_20 rfl (lv_at hl 0 rfl) ?_
      refine gF G hw (m_this hZ) KX12 0 (k2 := 1) rfl (by decide) rfl fl_X12_7 dX12_spear_21 ?_
      refine lv_bipush hx hb dX12_spear_24 kb_67 ?_
      refine aI G hw (m_w hZ) (vin_e (by decide)) (j := 67) (by decide) dX12_spear_26 ?_
      refine lv_bipush hx hb dX12_spear_27 kb_6 ?_
      refine lv_icmp_ne (tgt := 34) hx hb dX12_spear_29 (by decide) (fun c_6 => ?_) (fun c_6 => ?_)
      · have hf := (if_neg c_6).symm.trans hf
        refine lv_aload_n hx hb dX12_spear_34 rfl (lv_at hl 0 rfl) ?_
        refine gF G hw (m_this hZ) KX12 0 (k2 := 1) rfl (by decide) rfl fl_X12_7 dX12_spear_35 ?_
        refine lv_bipush hx hb dX12_spear_38 kb_67 ?_
        refine aI G hw (m_w hZ) (vin_e (by decide)) (j := 67) (by decide) dX12_spear_40 ?_
        obtain ⟨l3_1, el3_1, hf⟩ := bL_e hf
        refine top_i el3_1 ?_
        refine lv_istore_n (lv' := [(3, .int l3_1), (0, .ref (za Z 0)), (1, .int a1), (2, .int a2)]) hx hb dX12_spear_41 rfl hl (by decide) rfl (fun ls hl => ?_)
        refine lv_aload_n hx hb dX12_spear_42 rfl (lv_at hl 1 rfl) ?_
        refine gF G hw (m_this hZ) KX12 0 (k2 := 1) rfl (by decide) rfl fl_X12_7 dX12_spear_43 ?_
        refine lv_bipush hx hb dX12_spear_46 kb_70 ?_
        refine lv_iconst hx hb dX12_spear_48 ki_2 ?_
        refine lv_iload_n hx hb dX12_spear_49 rfl (lv_at hl 0 rfl) ?_
        refine lv_imul hx hb dX12_spear_50 ?_
        refine lv_iadd hx hb dX12_spear_51 ?_
        refine lv_iload_n hx hb dX12_spear_52 rfl (lv_at hl 2 rfl) ?_
        obtain ⟨hg1, hf⟩ := bG_e hf
        obtain ⟨S_2, eS_2, hf⟩ := bL_e hf
        refine sI G hw (m_w hZ) hg1 (j := (70 + (2 * l3_1)).toNatClampNeg) rfl eS_2 dX12_spear_53 (fun H locs hw => ?_)
        refine lv_aload_n hx hb dX12_spear_54 rfl (lv_at hl 1 rfl) ?_
        refine gF G hw (m_this hZ) KX12 0 (k2 := 1) rfl (by decide) rfl fl_X12_7 dX12_spear_55 ?_
        refine lv_bipush hx hb dX12_spear_58 kb_70 ?_
        refine lv_iconst hx hb dX12_spear_60 ki_2 ?_
        refine lv_iload_n hx hb dX12_spear_61 rfl (lv_at hl 0 rfl) ?_
        refine lv_imul hx hb dX12_spear_62 ?_
        refine lv_iadd hx hb dX12_spear_63 ?_
        refine lv_iconst hx hb dX12_spear_64 ki_1 ?_
        refine lv_iadd hx hb dX12_spear_65 ?_
        refine lv_iload_n hx hb dX12_spear_66 rfl (lv_at hl 3 rfl) ?_
        obtain ⟨hg1, hf⟩ := bG_e hf
        obtain ⟨S_3, eS_3, hf⟩ := bL_e hf
        refine sI G hw (m_w hZ) hg1 (j := ((70 + (2 * l3_1)) + 1).toNatClampNeg) rfl eS_3 dX12_spear_67 (fun H locs hw => ?_)
        refine lv_aload_n hx hb dX12_spear_68 rfl (lv_at hl 1 rfl) ?_
        refine gF G hw (m_this hZ) KX12 0 (k2 := 1) rfl (by decide) rfl fl_X12_7 dX12_spear_69 ?_
        refine lv_bipush hx hb dX12_spear_72 kb_67 ?_
        refine lv_dup2_11 hx hb dX12_spear_74 rfl rfl ?_
        refine aI G hw (m_w hZ) (vin_e (by decide)) (j := 67) (by decide) dX12_spear_75 ?_
        refine lv_iconst hx hb dX12_spear_76 ki_1 ?_
        refine lv_iadd hx hb dX12_spear_77 ?_
        obtain ⟨S_4, eS_4, hf⟩ := bL_e hf
        refine sI G hw (m_w hZ) (vin_e (by decide)) (j := 67) (by decide) eS_4 dX12_spear_78 (fun H locs hw => ?_)
        refine lv_aload_n hx hb dX12_spear_79 rfl (lv_at hl 1 rfl) ?_
        obtain ⟨S_5, hS_5, hf⟩ := bL_e hf
        refine kVv (rest := []) G hw (wX12_forgets hZ S_4 S_5 hS_5.symm) cw_X12_78 (m_this hZ) KX12 ⟨Nat.le_of_ble_eq_true rfl, Nat.le_of_ble_eq_true rfl⟩ rfl hl.1 rfl (Nat.le_of_ble_eq_true rfl) ⟨Nat.le_refl _, Nat.le_refl _⟩ dX12_spear_80 (fun H locs hw => ?_)
        refine lv_iload_n hx hb dX12_spear_83 rfl (lv_at hl 0 rfl) ?_
        obtain ⟨e1, e2⟩ := Prod.mk.inj (Option.some.inj hf)
        exact hret _ _ _ _ _ dX12_spear_84 e1 (by rw [← e2]; exact hw)
      · have hf := (if_pos c_6).symm.trans hf
        refine lv_iconst hx hb dX12_spear_32 ki_m1 ?_
        obtain ⟨e1, e2⟩ := Prod.mk.inj (Option.some.inj hf)
        exact hret _ _ _ _ _ dX12_spear_33 e1 (by rw [← e2]; exact hw)
noncomputable def F12_thrower (S : pS) (a1 : Int32) : Option (Int32 × pS) :=
  if (F12_isIn a1 0 99) = 0 then
    some (((-1) : Int32), S)
  else
    if (S 1 68) = 8 then
      some (((-1) : Int32), S)
    else
      if 0 < (S 1 0) then
        some (((-1) : Int32), S)
      else
        if (S 1 1) ≤ 0 then
          bL (S 1 68) fun l2_1 =>
          bL (fun (S_2 : pS) =>
            bB (F12_gives S_2 l2_1 0 a1) fun S_3 =>
            bG (vp_in (82 + l2_1) 4296) <|
            bL (sU S_3 1 ((82 + l2_1).toNatClampNeg) 0) fun S_4 =>
            bL (sU S_4 1 68 ((S_4 1 68) + 1)) fun S_5 =>
            bL (F12_forgets S_5) fun S_6 =>
            some (l2_1, S_6)) fun g71_52 =>
          bL (u2 fun (l3_7 : Int32) (S_8 : pS) =>
            if 7 ≤ l3_7 then
              some (.inr S_8)
            else
              bB (F12_gives S_8 l2_1 l3_7 0) fun S_10 =>
              bL (l3_7 + 1) fun l3_11 =>
              some (.inl (l3_11, S_10))) fun b52 =>
          bB (bP b52 ((0 : Int32), S)) (u1 g71_52)
        else
          some (((-1) : Int32), S)
set_option maxRecDepth 100000 in
set_option maxHeartbeats 4000000 in
theorem wX12_thrower {l : Launch} {Z : pZ}  (hZ : CM Z) (S : pS) (a1 : Int32) (r : Int32) (S2 : pS)  (hf : F12_thrower S a1 = some (r, S2)) : CI l Z yX12_thrower cX12_thrower 4 .int 4 83 [.ref (za Z 0), .int a1] S r S2 := by
  unfold F12_thrower at hf
  refine eI (own := RX12) (by decide) rfl (Nat.le_of_ble_eq_true rfl) (fun p e s m args below meth c Q ls G hl hw hret => ?_)
  obtain ⟨hx, hb, hml, hown, hts⟩ := G.1
  have hl : lv_has ls 4 [(0, .ref (za Z 0)), (1, .int a1)] := hl
  refine lv_iload_n hx hb dX12_thrower_0 rfl (lv_at hl 1 rfl) ?_
  refine lv_iconst hx hb dX12_thrower_1 ki_0 ?_
  refine lv_bipush hx hb dX12_thrower_2 kb_99 ?_
  refine kSi (rest := []) G hw (wX12_isIn hZ S a1 0 99 (F12_isIn a1 0 99) rfl) cw_X12_71 ⟨Nat.le_of_ble_eq_true rfl, Nat.le_of_ble_eq_true rfl⟩ rfl hl.1 rfl (Nat.le_of_ble_eq_true rfl) ⟨Nat.le_refl _, Nat.le_refl _⟩ dX12_thrower_4 (fun H locs hw => ?_)
  refine lv_if_eq (tgt := 40) hx hb dX12_thrower_7 (by decide) (fun c_16 => ?_) (fun c_16 => ?_)
  · have hf := (if_pos c_16).symm.trans hf
    refine lv_iconst hx hb dX12_thrower_40 ki_m1 ?_
    obtain ⟨e1, e2⟩ := Prod.mk.inj (Option.some.inj hf)
    exact hret _ _ _ _ _ dX12_thrower_41 e1 (by rw [← e2]; exact hw)
  · have hf := (if_neg c_16).symm.trans hf
    refine lv_aload_n hx hb dX12_thrower_10 rfl (lv_at hl 0 rfl) ?_
    refine gF G hw (m_this hZ) KX12 0 (k2 := 1) rfl (by decide) rfl fl_X12_7 dX12_thrower_11 ?_
    refine lv_bipush hx hb dX12_thrower_14 kb_68 ?_
    refine aI G hw (m_w hZ) (vin_e (by decide)) (j := 68) (by decide) dX12_thrower_16 ?_
    refine lv_bipush hx hb dX12_thrower_17 kb_8 ?_
    refine lv_icmp_eq (tgt := 40) hx hb dX12_thrower_19 (by decide) (fun c_15 => ?_) (fun c_15 => ?_)
    · have hf := (if_pos c_15).symm.trans hf
      refine lv_iconst hx hb dX12_thrower_40 ki_m1 ?_
      obtain ⟨e1, e2⟩ := Prod.mk.inj (Option.some.inj hf)
      exact hret _ _ _ _ _ dX12_thrower_41 e1 (by rw [← e2]; exact hw)
    · have hf := (if_neg c_15).symm.trans hf
      refine lv_aload_n hx hb dX12_thrower_22 rfl (lv_at hl 0 rfl) ?_
      refine gF G hw (m_this hZ) KX12 0 (k2 := 1) rfl (by decide) rfl fl_X12_7 dX12_thrower_23 ?_
      refine lv_iconst hx hb dX12_thrower_26 ki_0 ?_
      refine aI G hw (m_w hZ) (vin_e (by decide)) (j := 0) (by decide) dX12_thrower_27 ?_
      refine lv_if_gt (tgt := 40) hx hb dX12_thrower_28 (by decide) (fun c_14 => ?_) (fun c_14 => ?_)
      · have hf := (if_pos c_14).symm.trans hf
        refine lv_iconst hx hb dX12_thrower_40 ki_m1 ?_
        obtain ⟨e1, e2⟩ := Prod.mk.inj (Option.some.inj hf)
        exact hret _ _ _ _ _ dX12_thrower_41 e1 (by rw [← e2]; exact hw)
      · have hf := (if_neg c_14).symm.trans hf
        refine lv_aload_n hx hb dX12_thrower_31 rfl (lv_at hl 0 rfl) ?_
        refine gF G hw (m_this hZ) KX12 0 (k2 := 1) rfl (by decide) rfl fl_X12_7 dX12_thrower_32 ?_
        refine lv_iconst hx hb dX12_thrower_35 ki_1 ?_
        refine aI G hw (m_w hZ) (vin_e (by decide)) (j := 1) (by decide) dX12_thrower_36 ?_
        refine lv_if_le (tgt := 42) hx hb dX12_thrower_37 (by decide) (fun c_13 => ?_) (fun c_13 => ?_)
        · have hf := (if_pos c_13).symm.trans hf
          refine lv_aload_n hx hb dX12_thrower_42 rfl (lv_at hl 0 rfl) ?_
          refine gF G hw (m_this hZ) KX12 0 (k2 := 1) rfl (by decide) rfl fl_X12_7 dX12_thrower_43 ?_
          refine lv_bipush hx hb dX12_thrower_46 kb_68 ?_
          refine aI G hw (m_w hZ) (vin_e (by decide)) (j := 68) (by decide) dX12_thrower_48 ?_
          obtain ⟨l2_1, el2_1, hf⟩ := bL_e hf
          refine top_i el2_1 ?_
          refine lv_istore_n (lv' := [(2, .int l2_1), (0, .ref (za Z 0)), (1, .int a1)]) hx hb dX12_thrower_49 rfl hl (by decide) rfl (fun ls hl => ?_)
          refine lv_iconst hx hb dX12_thrower_50 ki_0 ?_
          refine lv_istore_n (lv' := [(3, .int 0), (2, .int l2_1), (0, .ref (za Z 0)), (1, .int a1)]) hx hb dX12_thrower_51 rfl hl (by decide) rfl (fun ls hl => ?_)
          obtain ⟨g71_52, ej, hf⟩ := bL_e hf
          have R71_52 : ∀ (S_2 : pS) (H : Heap) (locs : List Loc) (ls : Array Slot), Wd Z s S_2 H locs → lv_has ls 4 [(0, .ref (za Z 0)), (1, .int a1), (2, .int l2_1)] → g71_52 S_2 = some (r, S2) → W p l e { frames := 4, cells := 0, slots := 0, locals := 83 } s m args below meth c H locs 0 0 Q (F0 m 71 ls []) := by
            intro S_2 H locs ls hw hl hf
            have hf := (congrFun ej S_2).symm.trans hf
            refine lv_aload_n hx hb dX12_thrower_71 rfl (lv_at hl 0 rfl) ?_
            refine lv_iload_n hx hb dX12_thrower_72 rfl (lv_at hl 2 rfl) ?_
            refine lv_iconst hx hb dX12_thrower_73 ki_0 ?_
            refine lv_iload_n hx hb dX12_thrower_74 rfl (lv_at hl 1 rfl) ?_
            obtain ⟨S_3, hS_3, hf⟩ := bB_e hf
            refine kVv (rest := []) G hw (wX12_gives hZ S_2 l2_1 0 a1 S_3 hS_3) cw_X12_83 (m_this hZ) KX12 ⟨Nat.le_of_ble_eq_true rfl, Nat.le_of_ble_eq_true rfl⟩ rfl hl.1 rfl (Nat.le_of_ble_eq_true rfl) ⟨Nat.le_refl _, Nat.le_refl _⟩ dX12_thrower_75 (fun H locs hw => ?_)
            refine lv_aload_n hx hb dX12_thrower_78 rfl (lv_at hl 0 rfl) ?_
            refine gF G hw (m_this hZ) KX12 0 (k2 := 1) rfl (by decide) rfl fl_X12_7 dX12_thrower_79 ?_
            refine lv_bipush hx hb dX12_thrower_82 kb_82 ?_
            refine lv_iload_n hx hb dX12_thrower_84 rfl (lv_at hl 2 rfl) ?_
            refine lv_iadd hx hb dX12_thrower_85 ?_
            refine lv_iconst hx hb dX12_thrower_86 ki_0 ?_
            obtain ⟨hg1, hf⟩ := bG_e hf
            obtain ⟨S_4, eS_4, hf⟩ := bL_e hf
            refine sI G hw (m_w hZ) hg1 (j := (82 + l2_1).toNatClampNeg) rfl eS_4 dX12_thrower_87 (fun H locs hw => ?_)
            refine lv_aload_n hx hb dX12_thrower_88 rfl (lv_at hl 0 rfl) ?_
            refine gF G hw (m_this hZ) KX12 0 (k2 := 1) rfl (by decide) rfl fl_X12_7 dX12_thrower_89 ?_
            refine lv_bipush hx hb dX12_thrower_92 kb_68 ?_
            refine lv_dup2_11 hx hb dX12_thrower_94 rfl rfl ?_
            refine aI G hw (m_w hZ) (vin_e (by decide)) (j := 68) (by decide) dX12_thrower_95 ?_
            refine lv_iconst hx hb dX12_thrower_96 ki_1 ?_
            refine lv_iadd hx hb dX12_thrower_97 ?_
            obtain ⟨S_5, eS_5, hf⟩ := bL_e hf
            refine sI G hw (m_w hZ) (vin_e (by decide)) (j := 68) (by decide) eS_5 dX12_thrower_98 (fun H locs hw => ?_)
            refine lv_aload_n hx hb dX12_thrower_99 rfl (lv_at hl 0 rfl) ?_
            obtain ⟨S_6, hS_6, hf⟩ := bL_e hf
            refine kVv (rest := []) G hw (wX12_forgets hZ S_5 S_6 hS_6.symm) cw_X12_78 (m_this hZ) KX12 ⟨Nat.le_of_ble_eq_true rfl, Nat.le_of_ble_eq_true rfl⟩ rfl hl.1 rfl (Nat.le_of_ble_eq_true rfl) ⟨Nat.le_refl _, Nat.le_refl _⟩ dX12_thrower_100 (fun H locs hw => ?_)
            refine lv_iload_n hx hb dX12_thrower_103 rfl (lv_at hl 2 rfl) ?_
            obtain ⟨e1, e2⟩ := Prod.mk.inj (Option.some.inj hf)
            exact hret _ _ _ _ _ dX12_thrower_104 e1 (by rw [← e2]; exact hw)
          clear ej
          obtain ⟨b52, eb, hf⟩ := bL_e hf
          have RL52 : ∀ (n : Nat) z, (u1 g71_52) z = some (r, S2) → ∀ (l3_7 : Int32) (S_8 : pS) (H : Heap) (locs : List Loc) (ls : Array Slot), Wd Z s S_8 H locs → lv_has ls 4 [(0, .ref (za Z 0)), (1, .int a1), (2, .int l2_1), (3, .int l3_7)] → bPn b52 n (l3_7, S_8) = some z → W p l e { frames := 4, cells := 0, slots := 0, locals := 83 } s m args below meth c H locs 0 0 Q (F0 m 52 ls []) := by
            intro n
            induction n with
            | zero =>
              intro z hg l3_7 S_8 H locs ls hw hl hz
              exact bPn_0 hz
            | succ n ih =>
              intro z hg l3_7 S_8 H locs ls hw hl hz
              obtain ⟨q_9, hf, hz⟩ := bPn_e hz
              have hf := u2_e ((congrFun eb _).symm.trans hf)
              refine lv_iload_n hx hb dX12_thrower_52 rfl (lv_at hl 3 rfl) ?_
              refine lv_bipush hx hb dX12_thrower_53 kb_7 ?_
              refine lv_icmp_ge (tgt := 71) hx hb dX12_thrower_55 (by decide) (fun c_12 => ?_) (fun c_12 => ?_)
              · have hf := (if_pos c_12).symm.trans hf
                obtain rfl := Option.some.inj hf
                obtain rfl := Option.some.inj (hz : some _ = some _)
                exact R71_52 _ _ _ _ hw (lv_sub hl [0, 1, 2] rfl) hg
              · have hf := (if_neg c_12).symm.trans hf
                refine lv_aload_n hx hb dX12_thrower_58 rfl (lv_at hl 0 rfl) ?_
                refine lv_iload_n hx hb dX12_thrower_59 rfl (lv_at hl 2 rfl) ?_
                refine lv_iload_n hx hb dX12_thrower_60 rfl (lv_at hl 3 rfl) ?_
                refine lv_iconst hx hb dX12_thrower_61 ki_0 ?_
                obtain ⟨S_10, hS_10, hf⟩ := bB_e hf
                refine kVv (rest := []) G hw (wX12_gives hZ S_8 l2_1 l3_7 0 S_10 hS_10) cw_X12_83 (m_this hZ) KX12 ⟨Nat.le_of_ble_eq_true rfl, Nat.le_of_ble_eq_true rfl⟩ rfl hl.1 rfl (Nat.le_of_ble_eq_true rfl) ⟨Nat.le_refl _, Nat.le_refl _⟩ dX12_thrower_62 (fun H locs hw => ?_)
                obtain ⟨l3_11, el3_11, hf⟩ := bL_e hf
                refine lv_iinc (v := l3_11) (lv' := [(3, .int l3_11), (0, .ref (za Z 0)), (1, .int a1), (2, .int l2_1)]) hx hb dX12_thrower_65 hl (k := 3) rfl (by rw [el3_11]; rfl) (by decide) rfl (fun ls hl => ?_)
                refine lv_goto (tgt := 52) hx hb dX12_thrower_68 (by decide) ?_
                obtain rfl := Option.some.inj hf
                exact ih _ hg _ _ _ _ _ hw (lv_sub hl [1, 2, 3, 0] rfl) hz
          clear eb
          obtain ⟨z, hz, hf⟩ := bB_e hf
          obtain ⟨n, hz⟩ := bP_e hz
          exact RL52 n z hf _ _ _ _ _ hw (lv_sub hl [2, 3, 1, 0] rfl) hz
        · have hf := (if_neg c_13).symm.trans hf
          refine lv_iconst hx hb dX12_thrower_40 ki_m1 ?_
          obtain ⟨e1, e2⟩ := Prod.mk.inj (Option.some.inj hf)
          exact hret _ _ _ _ _ dX12_thrower_41 e1 (by rw [← e2]; exact hw)
noncomputable def F12_leastOf (a0 : Int32) : Int32 :=
  if 2 ≤ a0 then
    if a0 = 4 then
      (1 : Int32)
    else
      (0 : Int32)
  else
    ((-20) : Int32)
set_option maxRecDepth 100000 in
set_option maxHeartbeats 4000000 in
theorem wX12_leastOf {l : Launch} {Z : pZ}  (hZ : CM Z) (S : pS) (a0 : Int32) (r : Int32)  (hf : F12_leastOf a0 = r) : CI l Z yX12_leastOf cX12_leastOf 1 .int 3 60 [.int a0] S r S := by
  unfold F12_leastOf at hf
  refine eI (own := RX12) (by decide) rfl (Nat.le_of_ble_eq_true rfl) (fun p e s m args below meth c Q ls G hl hw hret => ?_)
  obtain ⟨hx, hb, hml, hown, hts⟩ := G.1
  have hl : lv_has ls 1 [(0, .int a0)] := hl
  refine lv_iload_n hx hb dX12_leastOf_0 rfl (lv_at hl 0 rfl) ?_
  refine lv_iconst hx hb dX12_leastOf_1 ki_2 ?_
  refine lv_icmp_ge (tgt := 10) hx hb dX12_leastOf_2 (by decide) (fun c_2 => ?_) (fun c_2 => ?_)
  · have hf := (if_pos c_2).symm.trans hf
    refine lv_iload_n hx hb dX12_leastOf_10 rfl (lv_at hl 0 rfl) ?_
    refine lv_iconst hx hb dX12_leastOf_11 ki_4 ?_
    refine lv_icmp_ne (tgt := 19) hx hb dX12_leastOf_12 (by decide) (fun c_1 => ?_) (fun c_1 => ?_)
    · have hf := (if_neg c_1).symm.trans hf
      refine lv_iconst hx hb dX12_leastOf_19 ki_0 ?_
      exact hret _ _ _ _ _ dX12_leastOf_20 hf hw
    · have hf := (if_pos c_1).symm.trans hf
      refine lv_iconst hx hb dX12_leastOf_15 ki_1 ?_
      refine lv_goto (tgt := 20) hx hb dX12_leastOf_16 (by decide) ?_
      exact hret _ _ _ _ _ dX12_leastOf_20 hf hw
  · have hf := (if_neg c_2).symm.trans hf
    refine lv_bipush hx hb dX12_leastOf_5 kb_m20 ?_
    refine lv_goto (tgt := 20) hx hb dX12_leastOf_7 (by decide) ?_
    exact hret _ _ _ _ _ dX12_leastOf_20 hf hw
noncomputable def F12_mostOf (a0 : Int32) : Int32 :=
  if a0 < 2 then
    (20 : Int32)
  else
    if a0 = 4 then
      (20 : Int32)
    else
      if 4 ≤ a0 then
        if a0 = 5 then
          (99 : Int32)
        else
          (1000 : Int32)
      else
        (9 : Int32)
set_option maxRecDepth 100000 in
set_option maxHeartbeats 4000000 in
theorem wX12_mostOf {l : Launch} {Z : pZ}  (hZ : CM Z) (S : pS) (a0 : Int32) (r : Int32)  (hf : F12_mostOf a0 = r) : CI l Z yX12_mostOf cX12_mostOf 1 .int 3 60 [.int a0] S r S := by
  unfold F12_mostOf at hf
  refine eI (own := RX12) (by decide) rfl (Nat.le_of_ble_eq_true rfl) (fun p e s m args below meth c Q ls G hl hw hret => ?_)
  obtain ⟨hx, hb, hml, hown, hts⟩ := G.1
  have hl : lv_has ls 1 [(0, .int a0)] := hl
  refine lv_iload_n hx hb dX12_mostOf_0 rfl (lv_at hl 0 rfl) ?_
  refine lv_iconst hx hb dX12_mostOf_1 ki_2 ?_
  refine lv_icmp_lt (tgt := 10) hx hb dX12_mostOf_2 (by decide) (fun c_4 => ?_) (fun c_4 => ?_)
  · have hf := (if_pos c_4).symm.trans hf
    refine lv_bipush hx hb dX12_mostOf_10 kb_20 ?_
    exact hret _ _ _ _ _ dX12_mostOf_12 hf hw
  · have hf := (if_neg c_4).symm.trans hf
    refine lv_iload_n hx hb dX12_mostOf_5 rfl (lv_at hl 0 rfl) ?_
    refine lv_iconst hx hb dX12_mostOf_6 ki_4 ?_
    refine lv_icmp_ne (tgt := 13) hx hb dX12_mostOf_7 (by decide) (fun c_3 => ?_) (fun c_3 => ?_)
    · have hf := (if_neg c_3).symm.trans hf
      refine lv_iload_n hx hb dX12_mostOf_13 rfl (lv_at hl 0 rfl) ?_
      refine lv_iconst hx hb dX12_mostOf_14 ki_4 ?_
      refine lv_icmp_ge (tgt := 23) hx hb dX12_mostOf_15 (by decide) (fun c_2 => ?_) (fun c_2 => ?_)
      · have hf := (if_pos c_2).symm.trans hf
        refine lv_iload_n hx hb dX12_mostOf_23 rfl (lv_at hl 0 rfl) ?_
        refine lv_iconst hx hb dX12_mostOf_24 ki_5 ?_
        refine lv_icmp_ne (tgt := 33) hx hb dX12_mostOf_25 (by decide) (fun c_1 => ?_) (fun c_1 => ?_)
        · have hf := (if_neg c_1).symm.trans hf
          refine lv_sipush hx hb dX12_mostOf_33 ks_1000 ?_
          exact hret _ _ _ _ _ dX12_mostOf_36 hf hw
        · have hf := (if_pos c_1).symm.trans hf
          refine lv_bipush hx hb dX12_mostOf_28 kb_99 ?_
          refine lv_goto (tgt := 36) hx hb dX12_mostOf_30 (by decide) ?_
          exact hret _ _ _ _ _ dX12_mostOf_36 hf hw
      · have hf := (if_neg c_2).symm.trans hf
        refine lv_bipush hx hb dX12_mostOf_18 kb_9 ?_
        refine lv_goto (tgt := 36) hx hb dX12_mostOf_20 (by decide) ?_
        exact hret _ _ _ _ _ dX12_mostOf_36 hf hw
    · have hf := (if_pos c_3).symm.trans hf
      refine lv_bipush hx hb dX12_mostOf_10 kb_20 ?_
      exact hret _ _ _ _ _ dX12_mostOf_12 hf hw
noncomputable def F12_set (S : pS) (a1 : Int32) (a2 : Int32) (a3 : Int32) : Option (Int32 × pS) :=
  if (F12_isIn a1 0 6) = 0 then
    some ((0 : Int32), S)
  else
    bL (fun (_ : Unit) =>
      if (F12_isIn a3 (F12_leastOf a1) (F12_mostOf a1)) = 0 then
        some ((0 : Int32), S)
      else
        bL (fun (S_1 : pS) =>
          bL (F12_forgets S_1) fun S_2 =>
          some ((1 : Int32), S_2)) fun j74 =>
        if 4 < a1 then
          bL (fun (t_3 : Int32) =>
            bB (F12_gives S a2 t_3 a3) fun S_4 =>
            j74 S_4) fun j70 =>
          if a1 = 5 then
            j70 0
          else
            j70 1
        else
          bG (vp_in (60 + a1) 4296) <|
          bL (sU S 1 ((60 + a1).toNatClampNeg) a3) fun S_6 =>
          j74 S_6) fun j23 =>
    if a1 ≤ 4 then
      j23 ()
    else
      if (F12_isThrower S a2) = 0 then
        some ((0 : Int32), S)
      else
        j23 ()
set_option maxRecDepth 100000 in
set_option maxHeartbeats 4000000 in
theorem wX12_set {l : Launch} {Z : pZ}  (hZ : CM Z) (S : pS) (a1 : Int32) (a2 : Int32) (a3 : Int32) (r : Int32) (S2 : pS)  (hf : F12_set S a1 a2 a3 = some (r, S2)) : CI l Z yX12_set cX12_set 4 .boolean 5 103 [.ref (za Z 0), .int a1, .int a2, .int a3] S r S2 := by
  unfold F12_set at hf
  refine eZ (own := RX12) (by decide) rfl (Nat.le_of_ble_eq_true rfl) (fun p e s m args below meth c Q ls G hl hw hret => ?_)
  obtain ⟨hx, hb, hml, hown, hts⟩ := G.1
  have hl : lv_has ls 4 [(0, .ref (za Z 0)), (1, .int a1), (2, .int a2), (3, .int a3)] := hl
  refine lv_iload_n hx hb dX12_set_0 rfl (lv_at hl 1 rfl) ?_
  refine lv_iconst hx hb dX12_set_1 ki_0 ?_
  refine lv_bipush hx hb dX12_set_2 kb_6 ?_
  refine kSi (rest := []) G hw (wX12_isIn hZ S a1 0 6 (F12_isIn a1 0 6) rfl) cw_X12_71 ⟨Nat.le_of_ble_eq_true rfl, Nat.le_of_ble_eq_true rfl⟩ rfl hl.1 rfl (Nat.le_of_ble_eq_true rfl) ⟨Nat.le_refl _, Nat.le_refl _⟩ dX12_set_4 (fun H locs hw => ?_)
  refine lv_if_eq (tgt := 38) hx hb dX12_set_7 (by decide) (fun c_11 => ?_) (fun c_11 => ?_)
  · have hf := (if_pos c_11).symm.trans hf
    refine lv_iconst hx hb dX12_set_38 ki_0 ?_
    obtain ⟨e1, e2⟩ := Prod.mk.inj (Option.some.inj hf)
    exact hret _ _ _ _ _ dX12_set_39 ((by decide : (0 : Int32) &&& 1 = 0).trans e1) (by rw [← e2]; exact hw)
  · have hf := (if_neg c_11).symm.trans hf
    refine lv_iload_n hx hb dX12_set_10 rfl (lv_at hl 1 rfl) ?_
    refine lv_iconst hx hb dX12_set_11 ki_4 ?_
    obtain ⟨j23, ej, hf⟩ := bL_e hf
    have R23 : ∀ (H : Heap) (locs : List Loc) (ls : Array Slot), Wd Z s S H locs → lv_has ls 4 [(0, .ref (za Z 0)), (1, .int a1), (2, .int a2), (3, .int a3)] → j23 () = some (r, S2) → W p l e { frames := 5, cells := 0, slots := 0, locals := 103 } s m args below meth c H locs 0 0 Q (F0 m 23 ls []) := by
      intro  H locs ls hw hl hf
      have hf := (congrFun ej ()).symm.trans hf
      refine lv_iload_n hx hb dX12_set_23 rfl (lv_at hl 3 rfl) ?_
      refine lv_iload_n hx hb dX12_set_24 rfl (lv_at hl 1 rfl) ?_
      refine kSi (rest := [.int a3]) G hw (wX12_leastOf hZ S a1 (F12_leastOf a1) rfl) cw_X12_91 ⟨Nat.le_of_ble_eq_true rfl, Nat.le_of_ble_eq_true rfl⟩ rfl hl.1 rfl (Nat.le_of_ble_eq_true rfl) ⟨Nat.le_refl _, Nat.le_refl _⟩ dX12_set_25 (fun H locs hw => ?_)
      refine lv_iload_n hx hb dX12_set_28 rfl (lv_at hl 1 rfl) ?_
      refine kSi (rest := [.int (F12_leastOf a1), .int a3]) G hw (wX12_mostOf hZ S a1 (F12_mostOf a1) rfl) cw_X12_95 ⟨Nat.le_of_ble_eq_true rfl, Nat.le_of_ble_eq_true rfl⟩ rfl hl.1 rfl (Nat.le_of_ble_eq_true rfl) ⟨Nat.le_refl _, Nat.le_refl _⟩ dX12_set_29 (fun H locs hw => ?_)
      refine kSi (rest := []) G hw (wX12_isIn hZ S a3 (F12_leastOf a1) (F12_mostOf a1) (F12_isIn a3 (F12_leastOf a1) (F12_mostOf a1)) rfl) cw_X12_71 ⟨Nat.le_of_ble_eq_true rfl, Nat.le_of_ble_eq_true rfl⟩ rfl hl.1 rfl (Nat.le_of_ble_eq_true rfl) ⟨Nat.le_refl _, Nat.le_refl _⟩ dX12_set_32 (fun H locs hw => ?_)
      refine lv_if_ne (tgt := 40) hx hb dX12_set_35 (by decide) (fun c_8 => ?_) (fun c_8 => ?_)
      · have hf := (if_neg c_8).symm.trans hf
        refine lv_iload_n hx hb dX12_set_40 rfl (lv_at hl 1 rfl) ?_
        refine lv_iconst hx hb dX12_set_41 ki_4 ?_
        obtain ⟨j74, ej, hf⟩ := bL_e hf
        have R74 : ∀ (S_1 : pS) (H : Heap) (locs : List Loc) (ls : Array Slot), Wd Z s S_1 H locs → lv_has ls 4 [(0, .ref (za Z 0))] → j74 S_1 = some (r, S2) → W p l e { frames := 5, cells := 0, slots := 0, locals := 103 } s m args below meth c H locs 0 0 Q (F0 m 74 ls []) := by
          intro S_1 H locs ls hw hl hf
          have hf := (congrFun ej S_1).symm.trans hf
          refine lv_aload_n hx hb dX12_set_74 rfl (lv_at hl 0 rfl) ?_
          obtain ⟨S_2, hS_2, hf⟩ := bL_e hf
          refine kVv (rest := []) G hw (wX12_forgets hZ S_1 S_2 hS_2.symm) cw_X12_78 (m_this hZ) KX12 ⟨Nat.le_of_ble_eq_true rfl, Nat.le_of_ble_eq_true rfl⟩ rfl hl.1 rfl (Nat.le_of_ble_eq_true rfl) ⟨Nat.le_refl _, Nat.le_refl _⟩ dX12_set_75 (fun H locs hw => ?_)
          refine lv_iconst hx hb dX12_set_78 ki_1 ?_
          obtain ⟨e1, e2⟩ := Prod.mk.inj (Option.some.inj hf)
          exact hret _ _ _ _ _ dX12_set_79 ((by decide : (1 : Int32) &&& 1 = 1).trans e1) (by rw [← e2]; exact hw)
        clear ej
        refine lv_icmp_gt (tgt := 58) hx hb dX12_set_42 (by decide) (fun c_7 => ?_) (fun c_7 => ?_)
        · have hf := (if_pos c_7).symm.trans hf
          refine lv_aload_n hx hb dX12_set_58 rfl (lv_at hl 0 rfl) ?_
          refine lv_iload_n hx hb dX12_set_59 rfl (lv_at hl 2 rfl) ?_
          refine lv_iload_n hx hb dX12_set_60 rfl (lv_at hl 1 rfl) ?_
          refine lv_iconst hx hb dX12_set_61 ki_5 ?_
          obtain ⟨j70, ej, hf⟩ := bL_e hf
          have R70 : ∀ (t_3 : Int32) (H : Heap) (locs : List Loc) (ls : Array Slot), Wd Z s S H locs → lv_has ls 4 [(0, .ref (za Z 0)), (3, .int a3)] → j70 t_3 = some (r, S2) → W p l e { frames := 5, cells := 0, slots := 0, locals := 103 } s m args below meth c H locs 0 0 Q (F0 m 70 ls [.int t_3, .int a2, .ref (za Z 0)]) := by
            intro t_3 H locs ls hw hl hf
            have hf := (congrFun ej t_3).symm.trans hf
            refine lv_iload_n hx hb dX12_set_70 rfl (lv_at hl 1 rfl) ?_
            obtain ⟨S_4, hS_4, hf⟩ := bB_e hf
            refine kVv (rest := []) G hw (wX12_gives hZ S a2 t_3 a3 S_4 hS_4) cw_X12_83 (m_this hZ) KX12 ⟨Nat.le_of_ble_eq_true rfl, Nat.le_of_ble_eq_true rfl⟩ rfl hl.1 rfl (Nat.le_of_ble_eq_true rfl) ⟨Nat.le_refl _, Nat.le_refl _⟩ dX12_set_71 (fun H locs hw => ?_)
            exact R74 _ _ _ _ hw (lv_sub hl [0] rfl) hf
          clear ej
          refine lv_icmp_ne (tgt := 69) hx hb dX12_set_62 (by decide) (fun c_5 => ?_) (fun c_5 => ?_)
          · have hf := (if_neg c_5).symm.trans hf
            refine lv_iconst hx hb dX12_set_69 ki_1 ?_
            exact R70 _ _ _ _ hw (lv_sub hl [0, 3] rfl) hf
          · have hf := (if_pos c_5).symm.trans hf
            refine lv_iconst hx hb dX12_set_65 ki_0 ?_
            refine lv_goto (tgt := 70) hx hb dX12_set_66 (by decide) ?_
            exact R70 _ _ _ _ hw (lv_sub hl [0, 3] rfl) hf
        · have hf := (if_neg c_7).symm.trans hf
          refine lv_aload_n hx hb dX12_set_45 rfl (lv_at hl 0 rfl) ?_
          refine gF G hw (m_this hZ) KX12 0 (k2 := 1) rfl (by decide) rfl fl_X12_7 dX12_set_46 ?_
          refine lv_bipush hx hb dX12_set_49 kb_60 ?_
          refine lv_iload_n hx hb dX12_set_51 rfl (lv_at hl 1 rfl) ?_
          refine lv_iadd hx hb dX12_set_52 ?_
          refine lv_iload_n hx hb dX12_set_53 rfl (lv_at hl 3 rfl) ?_
          obtain ⟨hg1, hf⟩ := bG_e hf
          obtain ⟨S_6, eS_6, hf⟩ := bL_e hf
          refine sI G hw (m_w hZ) hg1 (j := (60 + a1).toNatClampNeg) rfl eS_6 dX12_set_54 (fun H locs hw => ?_)
          refine lv_goto (tgt := 74) hx hb dX12_set_55 (by decide) ?_
          exact R74 _ _ _ _ hw (lv_sub hl [0] rfl) hf
      · have hf := (if_pos c_8).symm.trans hf
        refine lv_iconst hx hb dX12_set_38 ki_0 ?_
        obtain ⟨e1, e2⟩ := Prod.mk.inj (Option.some.inj hf)
        exact hret _ _ _ _ _ dX12_set_39 ((by decide : (0 : Int32) &&& 1 = 0).trans e1) (by rw [← e2]; exact hw)
    clear ej
    refine lv_icmp_le (tgt := 23) hx hb dX12_set_12 (by decide) (fun c_10 => ?_) (fun c_10 => ?_)
    · have hf := (if_pos c_10).symm.trans hf
      exact R23 _ _ _ hw (lv_sub hl [0, 1, 2, 3] rfl) hf
    · have hf := (if_neg c_10).symm.trans hf
      refine lv_aload_n hx hb dX12_set_15 rfl (lv_at hl 0 rfl) ?_
      refine lv_iload_n hx hb dX12_set_16 rfl (lv_at hl 2 rfl) ?_
      refine kVi (rest := []) G hw (wX12_isThrower hZ S a2 (F12_isThrower S a2) rfl) cw_X12_87 (m_this hZ) KX12 ⟨Nat.le_of_ble_eq_true rfl, Nat.le_of_ble_eq_true rfl⟩ rfl hl.1 rfl (Nat.le_of_ble_eq_true rfl) ⟨Nat.le_refl _, Nat.le_refl _⟩ dX12_set_17 (fun H locs hw => ?_)
      refine lv_if_eq (tgt := 38) hx hb dX12_set_20 (by decide) (fun c_9 => ?_) (fun c_9 => ?_)
      · have hf := (if_pos c_9).symm.trans hf
        refine lv_iconst hx hb dX12_set_38 ki_0 ?_
        obtain ⟨e1, e2⟩ := Prod.mk.inj (Option.some.inj hf)
        exact hret _ _ _ _ _ dX12_set_39 ((by decide : (0 : Int32) &&& 1 = 0).trans e1) (by rw [← e2]; exact hw)
      · have hf := (if_neg c_9).symm.trans hf
        exact R23 _ _ _ hw (lv_sub hl [0, 1, 2, 3] rfl) hf
noncomputable def F12_feed (S : pS) (a1 : Int32) (a2 : Int32) (a3 : Int32) (a4 : Int32) (a5 : Int32) : Option (Int32 × pS) :=
  if ((S 0 16) + 20) ≤ 400 then
    bL (fun (S_1 : pS) =>
      some (S_1 0 16, S_1)) fun g115_18 =>
    bL (u2 fun (l6_2 : Int32) (S_3 : pS) =>
      if 20 ≤ l6_2 then
        some (.inr S_3)
      else
        bL (fun (t_5 : Int32) =>
          bG (vp_in (S_3 0 16) 400) <|
          bL (sU S_3 7 ((S_3 0 16).toNatClampNeg) ((t_5 >>> ((24 - (8 * (l6_2 - l6_2 / 4 * 4))) &&& 31)) &&& 255)) fun S_6 =>
          bL (sU S_6 0 16 ((S_6 0 16) + 1)) fun S_7 =>
          bL (l6_2 + 1) fun l6_8 =>
          some (.inl (l6_8, S_7))) fun j71 =>
        if 4 ≤ l6_2 then
          if 8 ≤ l6_2 then
            if 12 ≤ l6_2 then
              if 16 ≤ l6_2 then
                j71 a5
              else
                j71 a4
            else
              j71 a3
          else
            j71 a2
        else
          j71 a1) fun b18 =>
    bB (bP b18 ((0 : Int32), S)) (u1 g115_18)
  else
    some (((-1) : Int32), S)
set_option maxRecDepth 100000 in
set_option maxHeartbeats 4000000 in
theorem wX12_feed {l : Launch} {Z : pZ}  (hZ : CM Z) (S : pS) (a1 : Int32) (a2 : Int32) (a3 : Int32) (a4 : Int32) (a5 : Int32) (r : Int32) (S2 : pS)  (hf : F12_feed S a1 a2 a3 a4 a5 = some (r, S2)) : CI l Z yX12_feed cX12_feed 8 .int 3 60 [.ref (za Z 0), .int a1, .int a2, .int a3, .int a4, .int a5] S r S2 := by
  unfold F12_feed at hf
  refine eI (own := RX12) (by decide) rfl (Nat.le_of_ble_eq_true rfl) (fun p e s m args below meth c Q ls G hl hw hret => ?_)
  obtain ⟨hx, hb, hml, hown, hts⟩ := G.1
  have hl : lv_has ls 8 [(0, .ref (za Z 0)), (1, .int a1), (2, .int a2), (3, .int a3), (4, .int a4), (5, .int a5)] := hl
  refine lv_aload_n hx hb dX12_feed_0 rfl (lv_at hl 0 rfl) ?_
  refine gI G hw (m_this hZ) KX12 16 (by decide) rfl fl_X12_98 dX12_feed_1 ?_
  refine lv_bipush hx hb dX12_feed_4 kb_20 ?_
  refine lv_iadd hx hb dX12_feed_6 ?_
  refine lv_sipush hx hb dX12_feed_7 ks_400 ?_
  refine lv_icmp_le (tgt := 15) hx hb dX12_feed_10 (by decide) (fun c_14 => ?_) (fun c_14 => ?_)
  · have hf := (if_pos c_14).symm.trans hf
    refine lv_iconst hx hb dX12_feed_15 ki_0 ?_
    refine lv_istore (lv' := [(6, .int 0), (0, .ref (za Z 0)), (1, .int a1), (2, .int a2), (3, .int a3), (4, .int a4), (5, .int a5)]) hx hb dX12_feed_16 hl (by decide) rfl (fun ls hl => ?_)
    obtain ⟨g115_18, ej, hf⟩ := bL_e hf
    have R115_18 : ∀ (S_1 : pS) (H : Heap) (locs : List Loc) (ls : Array Slot), Wd Z s S_1 H locs → lv_has ls 8 [(0, .ref (za Z 0))] → g115_18 S_1 = some (r, S2) → W p l e { frames := 3, cells := 0, slots := 0, locals := 60 } s m args below meth c H locs 0 0 Q (F0 m 115 ls []) := by
      intro S_1 H locs ls hw hl hf
      have hf := (congrFun ej S_1).symm.trans hf
      refine lv_aload_n hx hb dX12_feed_115 rfl (lv_at hl 0 rfl) ?_
      refine gI G hw (m_this hZ) KX12 16 (by decide) rfl fl_X12_98 dX12_feed_116 ?_
      obtain ⟨e1, e2⟩ := Prod.mk.inj (Option.some.inj hf)
      exact hret _ _ _ _ _ dX12_feed_119 e1 (by rw [← e2]; exact hw)
    clear ej
    obtain ⟨b18, eb, hf⟩ := bL_e hf
    have RL18 : ∀ (n : Nat) z, (u1 g115_18) z = some (r, S2) → ∀ (l6_2 : Int32) (S_3 : pS) (H : Heap) (locs : List Loc) (ls : Array Slot), Wd Z s S_3 H locs → lv_has ls 8 [(0, .ref (za Z 0)), (1, .int a1), (2, .int a2), (3, .int a3), (4, .int a4), (5, .int a5), (6, .int l6_2)] → bPn b18 n (l6_2, S_3) = some z → W p l e { frames := 3, cells := 0, slots := 0, locals := 60 } s m args below meth c H locs 0 0 Q (F0 m 18 ls []) := by
      intro n
      induction n with
      | zero =>
        intro z hg l6_2 S_3 H locs ls hw hl hz
        exact bPn_0 hz
      | succ n ih =>
        intro z hg l6_2 S_3 H locs ls hw hl hz
        obtain ⟨q_4, hf, hz⟩ := bPn_e hz
        have hf := u2_e ((congrFun eb _).symm.trans hf)
        refine lv_iload hx hb dX12_feed_18 (lv_at hl 6 rfl) ?_
        refine lv_bipush hx hb dX12_feed_20 kb_20 ?_
        refine lv_icmp_ge (tgt := 115) hx hb dX12_feed_22 (by decide) (fun c_13 => ?_) (fun c_13 => ?_)
        · have hf := (if_pos c_13).symm.trans hf
          obtain rfl := Option.some.inj hf
          obtain rfl := Option.some.inj (hz : some _ = some _)
          exact R115_18 _ _ _ _ hw (lv_sub hl [0] rfl) hg
        · have hf := (if_neg c_13).symm.trans hf
          refine lv_iload hx hb dX12_feed_25 (lv_at hl 6 rfl) ?_
          refine lv_iconst hx hb dX12_feed_27 ki_4 ?_
          obtain ⟨j71, ej, hf⟩ := bL_e hf
          have R71 : ∀ (t_5 : Int32) (H : Heap) (locs : List Loc) (ls : Array Slot), Wd Z s S_3 H locs → lv_has ls 8 [(0, .ref (za Z 0)), (1, .int a1), (2, .int a2), (3, .int a3), (4, .int a4), (5, .int a5), (6, .int l6_2)] → j71 t_5 = some q_4 → W p l e { frames := 3, cells := 0, slots := 0, locals := 60 } s m args below meth c H locs 0 0 Q (F0 m 71 ls [.int t_5]) := by
            intro t_5 H locs ls hw hl hf
            have hf := (congrFun ej t_5).symm.trans hf
            refine lv_istore (lv' := [(7, .int t_5), (0, .ref (za Z 0)), (1, .int a1), (2, .int a2), (3, .int a3), (4, .int a4), (5, .int a5), (6, .int l6_2)]) hx hb dX12_feed_71 hl (by decide) rfl (fun ls hl => ?_)
            refine lv_aload_n hx hb dX12_feed_73 rfl (lv_at hl 1 rfl) ?_
            refine gF G hw (m_this hZ) KX12 8 (k2 := 7) rfl (by decide) rfl fl_X12_28 dX12_feed_74 ?_
            refine lv_aload_n hx hb dX12_feed_77 rfl (lv_at hl 1 rfl) ?_
            refine gI G hw (m_this hZ) KX12 16 (by decide) rfl fl_X12_98 dX12_feed_78 ?_
            refine lv_iload hx hb dX12_feed_81 (lv_at hl 0 rfl) ?_
            refine lv_bipush hx hb dX12_feed_83 kb_24 ?_
            refine lv_bipush hx hb dX12_feed_85 kb_8 ?_
            refine lv_iload hx hb dX12_feed_87 (lv_at hl 7 rfl) ?_
            refine lv_iconst hx hb dX12_feed_89 ki_4 ?_
            refine lv_irem hx hb dX12_feed_90 (by decide) ?_
            refine lv_imul hx hb dX12_feed_91 ?_
            refine lv_isub hx hb dX12_feed_92 ?_
            refine lv_ishr hx hb dX12_feed_93 ?_
            refine lv_sipush hx hb dX12_feed_94 ks_255 ?_
            refine lv_iand hx hb dX12_feed_97 ?_
            obtain ⟨hg1, hf⟩ := bG_e hf
            obtain ⟨S_6, eS_6, hf⟩ := bL_e hf
            refine sI G hw (m_tape hZ) hg1 (j := (S_3 0 16).toNatClampNeg) rfl eS_6 dX12_feed_98 (fun H locs hw => ?_)
            refine lv_aload_n hx hb dX12_feed_99 rfl (lv_at hl 1 rfl) ?_
            refine lv_dup hx hb dX12_feed_100 rfl ?_
            refine gI G hw (m_this hZ) KX12 16 (by decide) rfl fl_X12_98 dX12_feed_101 ?_
            refine lv_iconst hx hb dX12_feed_104 ki_1 ?_
            refine lv_iadd hx hb dX12_feed_105 ?_
            obtain ⟨S_7, eS_7, hf⟩ := bL_e hf
            refine pI G hw (m_this hZ) KX12 16 (by decide) rfl rfl rfl eS_7 fl_X12_98 dX12_feed_106 (fun H locs hw => ?_)
            obtain ⟨l6_8, el6_8, hf⟩ := bL_e hf
            refine lv_iinc (v := l6_8) (lv' := [(6, .int l6_8), (7, .int t_5), (0, .ref (za Z 0)), (1, .int a1), (2, .int a2), (3, .int a3), (4, .int a4), (5, .int a5)]) hx hb dX12_feed_109 hl (k := 7) rfl (by rw [el6_8]; rfl) (by decide) rfl (fun ls hl => ?_)
            refine lv_goto (tgt := 18) hx hb dX12_feed_112 (by decide) ?_
            obtain rfl := Option.some.inj hf
            exact ih _ hg _ _ _ _ _ hw (lv_sub hl [2, 3, 4, 5, 6, 7, 0] rfl) hz
          clear ej
          refine lv_icmp_ge (tgt := 35) hx hb dX12_feed_28 (by decide) (fun c_12 => ?_) (fun c_12 => ?_)
          · have hf := (if_pos c_12).symm.trans hf
            refine lv_iload hx hb dX12_feed_35 (lv_at hl 6 rfl) ?_
            refine lv_bipush hx hb dX12_feed_37 kb_8 ?_
            refine lv_icmp_ge (tgt := 46) hx hb dX12_feed_39 (by decide) (fun c_11 => ?_) (fun c_11 => ?_)
            · have hf := (if_pos c_11).symm.trans hf
              refine lv_iload hx hb dX12_feed_46 (lv_at hl 6 rfl) ?_
              refine lv_bipush hx hb dX12_feed_48 kb_12 ?_
              refine lv_icmp_ge (tgt := 57) hx hb dX12_feed_50 (by decide) (fun c_10 => ?_) (fun c_10 => ?_)
              · have hf := (if_pos c_10).symm.trans hf
                refine lv_iload hx hb dX12_feed_57 (lv_at hl 6 rfl) ?_
                refine lv_bipush hx hb dX12_feed_59 kb_16 ?_
                refine lv_icmp_ge (tgt := 69) hx hb dX12_feed_61 (by decide) (fun c_9 => ?_) (fun c_9 => ?_)
                · have hf := (if_pos c_9).symm.trans hf
                  refine lv_iload hx hb dX12_feed_69 (lv_at hl 5 rfl) ?_
                  exact R71 _ _ _ _ hw (lv_sub hl [0, 1, 2, 3, 4, 5, 6] rfl) hf
                · have hf := (if_neg c_9).symm.trans hf
                  refine lv_iload hx hb dX12_feed_64 (lv_at hl 4 rfl) ?_
                  refine lv_goto (tgt := 71) hx hb dX12_feed_66 (by decide) ?_
                  exact R71 _ _ _ _ hw (lv_sub hl [0, 1, 2, 3, 4, 5, 6] rfl) hf
              · have hf := (if_neg c_10).symm.trans hf
                refine lv_iload_n hx hb dX12_feed_53 rfl (lv_at hl 3 rfl) ?_
                refine lv_goto (tgt := 71) hx hb dX12_feed_54 (by decide) ?_
                exact R71 _ _ _ _ hw (lv_sub hl [0, 1, 2, 3, 4, 5, 6] rfl) hf
            · have hf := (if_neg c_11).symm.trans hf
              refine lv_iload_n hx hb dX12_feed_42 rfl (lv_at hl 2 rfl) ?_
              refine lv_goto (tgt := 71) hx hb dX12_feed_43 (by decide) ?_
              exact R71 _ _ _ _ hw (lv_sub hl [0, 1, 2, 3, 4, 5, 6] rfl) hf
          · have hf := (if_neg c_12).symm.trans hf
            refine lv_iload_n hx hb dX12_feed_31 rfl (lv_at hl 1 rfl) ?_
            refine lv_goto (tgt := 71) hx hb dX12_feed_32 (by decide) ?_
            exact R71 _ _ _ _ hw (lv_sub hl [0, 1, 2, 3, 4, 5, 6] rfl) hf
    clear eb
    obtain ⟨z, hz, hf⟩ := bB_e hf
    obtain ⟨n, hz⟩ := bP_e hz
    exact RL18 n z hf _ _ _ _ _ hw (lv_sub hl [1, 2, 3, 4, 5, 6, 0] rfl) hz
  · have hf := (if_neg c_14).symm.trans hf
    refine lv_iconst hx hb dX12_feed_13 ki_m1 ?_
    obtain ⟨e1, e2⟩ := Prod.mk.inj (Option.some.inj hf)
    exact hret _ _ _ _ _ dX12_feed_14 e1 (by rw [← e2]; exact hw)
noncomputable def F12_end (S : pS) (a1 : Int32) : Int32 × pS :=
  if (F12_isIn a1 0 (S 0 16)) = 0 then
    ((0 : Int32), S)
  else
    bL (sU S 0 16 a1) fun S_1 =>
    ((1 : Int32), S_1)
set_option maxRecDepth 100000 in
set_option maxHeartbeats 4000000 in
theorem wX12_end {l : Launch} {Z : pZ}  (hZ : CM Z) (S : pS) (a1 : Int32) (r : Int32) (S2 : pS)  (hf : F12_end S a1 = (r, S2)) : CI l Z yX12_end cX12_end 2 .boolean 4 82 [.ref (za Z 0), .int a1] S r S2 := by
  unfold F12_end at hf
  refine eZ (own := RX12) (by decide) rfl (Nat.le_of_ble_eq_true rfl) (fun p e s m args below meth c Q ls G hl hw hret => ?_)
  obtain ⟨hx, hb, hml, hown, hts⟩ := G.1
  have hl : lv_has ls 2 [(0, .ref (za Z 0)), (1, .int a1)] := hl
  refine lv_iload_n hx hb dX12_end_0 rfl (lv_at hl 1 rfl) ?_
  refine lv_iconst hx hb dX12_end_1 ki_0 ?_
  refine lv_aload_n hx hb dX12_end_2 rfl (lv_at hl 0 rfl) ?_
  refine gI G hw (m_this hZ) KX12 16 (by decide) rfl fl_X12_98 dX12_end_3 ?_
  refine kSi (rest := []) G hw (wX12_isIn hZ S a1 0 (S 0 16) (F12_isIn a1 0 (S 0 16)) rfl) cw_X12_71 ⟨Nat.le_of_ble_eq_true rfl, Nat.le_of_ble_eq_true rfl⟩ rfl hl.1 rfl (Nat.le_of_ble_eq_true rfl) ⟨Nat.le_refl _, Nat.le_refl _⟩ dX12_end_6 (fun H locs hw => ?_)
  refine lv_if_ne (tgt := 14) hx hb dX12_end_9 (by decide) (fun c_2 => ?_) (fun c_2 => ?_)
  · have hf := (if_neg c_2).symm.trans hf
    refine lv_aload_n hx hb dX12_end_14 rfl (lv_at hl 0 rfl) ?_
    refine lv_iload_n hx hb dX12_end_15 rfl (lv_at hl 1 rfl) ?_
    obtain ⟨S_1, eS_1, hf⟩ := bL_e hf
    refine pI G hw (m_this hZ) KX12 16 (by decide) rfl rfl rfl eS_1 fl_X12_98 dX12_end_16 (fun H locs hw => ?_)
    refine lv_iconst hx hb dX12_end_19 ki_1 ?_
    obtain ⟨e1, e2⟩ := Prod.mk.inj hf
    exact hret _ _ _ _ _ dX12_end_20 ((by decide : (1 : Int32) &&& 1 = 1).trans e1) (by rw [← e2]; exact hw)
  · have hf := (if_pos c_2).symm.trans hf
    refine lv_iconst hx hb dX12_end_12 ki_0 ?_
    obtain ⟨e1, e2⟩ := Prod.mk.inj hf
    exact hret _ _ _ _ _ dX12_end_13 ((by decide : (0 : Int32) &&& 1 = 0).trans e1) (by rw [← e2]; exact hw)
noncomputable def F12_see (S : pS) (a1 : Int32) : Option (Int32) :=
  if (S 0 16) ≤ a1 then
    some ((-1) : Int32)
  else
    bG (vp_in a1 400) <|
    some (S 7 a1.toNatClampNeg)
set_option maxRecDepth 100000 in
set_option maxHeartbeats 4000000 in
theorem wX12_see {l : Launch} {Z : pZ}  (hZ : CM Z) (S : pS) (a1 : Int32) (r : Int32)  (hf : F12_see S a1 = some r) : CI l Z yX12_see cX12_see 2 .int 3 60 [.ref (za Z 0), .int a1] S r S := by
  unfold F12_see at hf
  refine eI (own := RX12) (by decide) rfl (Nat.le_of_ble_eq_true rfl) (fun p e s m args below meth c Q ls G hl hw hret => ?_)
  obtain ⟨hx, hb, hml, hown, hts⟩ := G.1
  have hl : lv_has ls 2 [(0, .ref (za Z 0)), (1, .int a1)] := hl
  refine lv_iload_n hx hb dX12_see_0 rfl (lv_at hl 1 rfl) ?_
  refine lv_aload_n hx hb dX12_see_1 rfl (lv_at hl 0 rfl) ?_
  refine gI G hw (m_this hZ) KX12 16 (by decide) rfl fl_X12_98 dX12_see_2 ?_
  refine lv_icmp_ge (tgt := 17) hx hb dX12_see_5 (by decide) (fun c_1 => ?_) (fun c_1 => ?_)
  · have hf := (if_pos c_1).symm.trans hf
    refine lv_iconst hx hb dX12_see_17 ki_m1 ?_
    exact hret _ _ _ _ _ dX12_see_18 (Option.some.inj hf) hw
  · have hf := (if_neg c_1).symm.trans hf
    refine lv_aload_n hx hb dX12_see_8 rfl (lv_at hl 0 rfl) ?_
    refine gF G hw (m_this hZ) KX12 8 (k2 := 7) rfl (by decide) rfl fl_X12_28 dX12_see_9 ?_
    refine lv_iload_n hx hb dX12_see_12 rfl (lv_at hl 1 rfl) ?_
    obtain ⟨hg1, hf⟩ := bG_e hf
    refine aI G hw (m_tape hZ) hg1 (j := a1.toNatClampNeg) rfl dX12_see_13 ?_
    refine lv_goto (tgt := 18) hx hb dX12_see_14 (by decide) ?_
    exact hret _ _ _ _ _ dX12_see_18 (Option.some.inj hf) hw
noncomputable def F12_isLetter (a0 : Int32) : Int32 :=
  bL (fun (_ : Unit) =>
    (1 : Int32)) fun j22 =>
  if (F12_isIn a0 97 122) = 0 then
    if (F12_isIn a0 65 90) = 0 then
      (0 : Int32)
    else
      j22 ()
  else
    j22 ()
set_option maxRecDepth 100000 in
set_option maxHeartbeats 4000000 in
theorem wX12_isLetter {l : Launch} {Z : pZ}  (hZ : CM Z) (S : pS) (a0 : Int32) (r : Int32)  (hf : F12_isLetter a0 = r) : CI l Z yX12_isLetter cX12_isLetter 1 .boolean 4 82 [.int a0] S r S := by
  unfold F12_isLetter at hf
  refine eZ (own := RX12) (by decide) rfl (Nat.le_of_ble_eq_true rfl) (fun p e s m args below meth c Q ls G hl hw hret => ?_)
  obtain ⟨hx, hb, hml, hown, hts⟩ := G.1
  have hl : lv_has ls 1 [(0, .int a0)] := hl
  refine lv_iload_n hx hb dX12_isLetter_0 rfl (lv_at hl 0 rfl) ?_
  refine lv_bipush hx hb dX12_isLetter_1 kb_97 ?_
  refine lv_bipush hx hb dX12_isLetter_3 kb_122 ?_
  refine kSi (rest := []) G hw (wX12_isIn hZ S a0 97 122 (F12_isIn a0 97 122) rfl) cw_X12_71 ⟨Nat.le_of_ble_eq_true rfl, Nat.le_of_ble_eq_true rfl⟩ rfl hl.1 rfl (Nat.le_of_ble_eq_true rfl) ⟨Nat.le_refl _, Nat.le_refl _⟩ dX12_isLetter_5 (fun H locs hw => ?_)
  obtain ⟨j22, ej, hf⟩ := bL_e hf
  have R22 : ∀ (H : Heap) (locs : List Loc) (ls : Array Slot), Wd Z s S H locs → lv_has ls 1 [] → j22 () = r → W p l e { frames := 4, cells := 0, slots := 0, locals := 82 } s m args below meth c H locs 0 0 Q (F0 m 22 ls []) := by
    intro  H locs ls hw hl hf
    have hf := (congrFun ej ()).symm.trans hf
    refine lv_iconst hx hb dX12_isLetter_22 ki_1 ?_
    refine lv_goto (tgt := 27) hx hb dX12_isLetter_23 (by decide) ?_
    exact hret _ _ _ _ _ dX12_isLetter_27 ((by decide : (1 : Int32) &&& 1 = 1).trans hf) hw
  clear ej
  refine lv_if_ne (tgt := 22) hx hb dX12_isLetter_8 (by decide) (fun c_2 => ?_) (fun c_2 => ?_)
  · have hf := (if_neg c_2).symm.trans hf
    exact R22 _ _ _ hw (lv_sub hl [] rfl) hf
  · have hf := (if_pos c_2).symm.trans hf
    refine lv_iload_n hx hb dX12_isLetter_11 rfl (lv_at hl 0 rfl) ?_
    refine lv_bipush hx hb dX12_isLetter_12 kb_65 ?_
    refine lv_bipush hx hb dX12_isLetter_14 kb_90 ?_
    refine kSi (rest := []) G hw (wX12_isIn hZ S a0 65 90 (F12_isIn a0 65 90) rfl) cw_X12_71 ⟨Nat.le_of_ble_eq_true rfl, Nat.le_of_ble_eq_true rfl⟩ rfl hl.1 rfl (Nat.le_of_ble_eq_true rfl) ⟨Nat.le_refl _, Nat.le_refl _⟩ dX12_isLetter_16 (fun H locs hw => ?_)
    refine lv_if_eq (tgt := 26) hx hb dX12_isLetter_19 (by decide) (fun c_1 => ?_) (fun c_1 => ?_)
    · have hf := (if_pos c_1).symm.trans hf
      refine lv_iconst hx hb dX12_isLetter_26 ki_0 ?_
      exact hret _ _ _ _ _ dX12_isLetter_27 ((by decide : (0 : Int32) &&& 1 = 0).trans hf) hw
    · have hf := (if_neg c_1).symm.trans hf
      exact R22 _ _ _ hw (lv_sub hl [] rfl) hf
noncomputable def F12_isDigit (a0 : Int32) : Int32 :=
  ((F12_isIn a0 48 57) &&& 1)
set_option maxRecDepth 100000 in
set_option maxHeartbeats 4000000 in
theorem wX12_isDigit {l : Launch} {Z : pZ}  (hZ : CM Z) (S : pS) (a0 : Int32) (r : Int32)  (hf : F12_isDigit a0 = r) : CI l Z yX12_isDigit cX12_isDigit 1 .boolean 4 82 [.int a0] S r S := by
  unfold F12_isDigit at hf
  refine eZ (own := RX12) (by decide) rfl (Nat.le_of_ble_eq_true rfl) (fun p e s m args below meth c Q ls G hl hw hret => ?_)
  obtain ⟨hx, hb, hml, hown, hts⟩ := G.1
  have hl : lv_has ls 1 [(0, .int a0)] := hl
  refine lv_iload_n hx hb dX12_isDigit_0 rfl (lv_at hl 0 rfl) ?_
  refine lv_bipush hx hb dX12_isDigit_1 kb_48 ?_
  refine lv_bipush hx hb dX12_isDigit_3 kb_57 ?_
  refine kSi (rest := []) G hw (wX12_isIn hZ S a0 48 57 (F12_isIn a0 48 57) rfl) cw_X12_71 ⟨Nat.le_of_ble_eq_true rfl, Nat.le_of_ble_eq_true rfl⟩ rfl hl.1 rfl (Nat.le_of_ble_eq_true rfl) ⟨Nat.le_refl _, Nat.le_refl _⟩ dX12_isDigit_5 (fun H locs hw => ?_)
  exact hret _ _ _ _ _ dX12_isDigit_8 hf hw
noncomputable def F12_is (S : pS) (a1 : Nat) : Option (Int32) :=
  bL (fun (t_1 : Int32) =>
    bL (fun (l2_2 : Int32) =>
      some (l2_2 &&& 1)) fun g67_24 =>
    bL (u2 fun (l2_3 : Int32) (l3_4 : Int32) =>
      if (strlen a1) ≤ l3_4 then
        some (.inr l2_3)
      else
        if l2_3 = 0 then
          some (.inr l2_3)
        else
          bG (vp_in ((S 0 19) + l3_4) 400) <|
          bG (vp_in l3_4 (litLen.getD a1 0)) <|
          bL (fun (t_6 : Int32) =>
            bL (l3_4 + 1) fun l3_7 =>
            some (.inl (t_6, l3_7))) fun j60 =>
          if (S 7 (((S 0 19) + l3_4).toNatClampNeg)) = (strch a1 l3_4.toNatClampNeg) then
            j60 1
          else
            j60 0) fun b24 =>
    bB (bP b24 (t_1, (0 : Int32))) (u1 g67_24)) fun j21 =>
  if ((S 0 17) - (S 0 19)) = (strlen a1) then
    j21 1
  else
    j21 0
set_option maxRecDepth 100000 in
set_option maxHeartbeats 4000000 in
theorem wX12_is {l : Launch} {Z : pZ}  (hZ : CM Z) (S : pS) (a1 : Nat) (r : Int32) (ha1 : a1 < litN) (hf : F12_is S a1 = some r) : CI l Z yX12_is cX12_is 4 .boolean 7 160 [.ref (za Z 0), .ref (zs Z a1)] S r S := by
  unfold F12_is at hf
  refine eZ (own := RX12) (by decide) rfl (Nat.le_of_ble_eq_true rfl) (fun p e s m args below meth c Q ls G hl hw hret => ?_)
  obtain ⟨hx, hb, hml, hown, hts⟩ := G.1
  have hl : lv_has ls 4 [(0, .ref (za Z 0)), (1, .ref (zs Z a1))] := hl
  refine lv_aload_n hx hb dX12_is_0 rfl (lv_at hl 0 rfl) ?_
  refine gI G hw (m_this hZ) KX12 17 (by decide) rfl fl_X12_101 dX12_is_1 ?_
  refine lv_aload_n hx hb dX12_is_4 rfl (lv_at hl 0 rfl) ?_
  refine gI G hw (m_this hZ) KX12 19 (by decide) rfl fl_X12_104 dX12_is_5 ?_
  refine lv_isub hx hb dX12_is_8 ?_
  refine lv_aload_n hx hb dX12_is_9 rfl (lv_at hl 1 rfl) ?_
  refine xlen (rest := [.int ((S 0 17) - (S 0 19))]) G hw ha1 hl.1 ml_X12_107 ⟨Nat.le_of_ble_eq_true rfl, Nat.le_of_ble_eq_true rfl⟩ (Nat.le_of_ble_eq_true rfl) ⟨Nat.le_refl _, Nat.le_refl _⟩ dX12_is_10 (fun H locs hw => ?_)
  obtain ⟨j21, ej, hf⟩ := bL_e hf
  have R21 : ∀ (t_1 : Int32) (H : Heap) (locs : List Loc) (ls : Array Slot), Wd Z s S H locs → lv_has ls 4 [(0, .ref (za Z 0)), (1, .ref (zs Z a1))] → j21 t_1 = some r → W p l e { frames := 7, cells := 0, slots := 0, locals := 160 } s m args below meth c H locs 0 0 Q (F0 m 21 ls [.int t_1]) := by
    intro t_1 H locs ls hw hl hf
    have hf := (congrFun ej t_1).symm.trans hf
    refine lv_istore_n (lv' := [(2, .int t_1), (0, .ref (za Z 0)), (1, .ref (zs Z a1))]) hx hb dX12_is_21 rfl hl (by decide) rfl (fun ls hl => ?_)
    refine lv_iconst hx hb dX12_is_22 ki_0 ?_
    refine lv_istore_n (lv' := [(3, .int 0), (2, .int t_1), (0, .ref (za Z 0)), (1, .ref (zs Z a1))]) hx hb dX12_is_23 rfl hl (by decide) rfl (fun ls hl => ?_)
    obtain ⟨g67_24, ej, hf⟩ := bL_e hf
    have R67_24 : ∀ (l2_2 : Int32) (H : Heap) (locs : List Loc) (ls : Array Slot), Wd Z s S H locs → lv_has ls 4 [(2, .int l2_2)] → g67_24 l2_2 = some r → W p l e { frames := 7, cells := 0, slots := 0, locals := 160 } s m args below meth c H locs 0 0 Q (F0 m 67 ls []) := by
      intro l2_2 H locs ls hw hl hf
      have hf := (congrFun ej l2_2).symm.trans hf
      refine lv_iload_n hx hb dX12_is_67 rfl (lv_at hl 0 rfl) ?_
      exact hret _ _ _ _ _ dX12_is_68 (Option.some.inj hf) hw
    clear ej
    obtain ⟨b24, eb, hf⟩ := bL_e hf
    have RL24 : ∀ (n : Nat) z, (u1 g67_24) z = some r → ∀ (l2_3 : Int32) (l3_4 : Int32) (H : Heap) (locs : List Loc) (ls : Array Slot), Wd Z s S H locs → lv_has ls 4 [(0, .ref (za Z 0)), (1, .ref (zs Z a1)), (2, .int l2_3), (3, .int l3_4)] → bPn b24 n (l2_3, l3_4) = some z → W p l e { frames := 7, cells := 0, slots := 0, locals := 160 } s m args below meth c H locs 0 0 Q (F0 m 24 ls []) := by
      intro n
      induction n with
      | zero =>
        intro z hg l2_3 l3_4 H locs ls hw hl hz
        exact bPn_0 hz
      | succ n ih =>
        intro z hg l2_3 l3_4 H locs ls hw hl hz
        obtain ⟨q_5, hf, hz⟩ := bPn_e hz
        have hf := u2_e ((congrFun eb _).symm.trans hf)
        refine lv_iload_n hx hb dX12_is_24 rfl (lv_at hl 3 rfl) ?_
        refine lv_aload_n hx hb dX12_is_25 rfl (lv_at hl 1 rfl) ?_
        refine xlen (rest := [.int l3_4]) G hw ha1 hl.1 ml_X12_107 ⟨Nat.le_of_ble_eq_true rfl, Nat.le_of_ble_eq_true rfl⟩ (Nat.le_of_ble_eq_true rfl) ⟨Nat.le_refl _, Nat.le_refl _⟩ dX12_is_26 (fun H locs hw => ?_)
        refine lv_icmp_ge (tgt := 67) hx hb dX12_is_29 (by decide) (fun c_10 => ?_) (fun c_10 => ?_)
        · have hf := (if_pos c_10).symm.trans hf
          obtain rfl := Option.some.inj hf
          obtain rfl := Option.some.inj (hz : some _ = some _)
          exact R67_24 _ _ _ _ hw (lv_sub hl [2] rfl) hg
        · have hf := (if_neg c_10).symm.trans hf
          refine lv_iload_n hx hb dX12_is_32 rfl (lv_at hl 2 rfl) ?_
          refine lv_if_eq (tgt := 67) hx hb dX12_is_33 (by decide) (fun c_9 => ?_) (fun c_9 => ?_)
          · have hf := (if_pos c_9).symm.trans hf
            obtain rfl := Option.some.inj hf
            obtain rfl := Option.some.inj (hz : some _ = some _)
            exact R67_24 _ _ _ _ hw (lv_sub hl [2] rfl) hg
          · have hf := (if_neg c_9).symm.trans hf
            refine lv_aload_n hx hb dX12_is_36 rfl (lv_at hl 0 rfl) ?_
            refine gF G hw (m_this hZ) KX12 8 (k2 := 7) rfl (by decide) rfl fl_X12_28 dX12_is_37 ?_
            refine lv_aload_n hx hb dX12_is_40 rfl (lv_at hl 0 rfl) ?_
            refine gI G hw (m_this hZ) KX12 19 (by decide) rfl fl_X12_104 dX12_is_41 ?_
            refine lv_iload_n hx hb dX12_is_44 rfl (lv_at hl 3 rfl) ?_
            refine lv_iadd hx hb dX12_is_45 ?_
            obtain ⟨hg1, hf⟩ := bG_e hf
            refine aI G hw (m_tape hZ) hg1 (j := ((S 0 19) + l3_4).toNatClampNeg) rfl dX12_is_46 ?_
            refine lv_aload_n hx hb dX12_is_47 rfl (lv_at hl 1 rfl) ?_
            refine lv_iload_n hx hb dX12_is_48 rfl (lv_at hl 3 rfl) ?_
            obtain ⟨hg1, hf⟩ := bG_e hf
            refine xchr (rest := [.int (S 7 (((S 0 19) + l3_4).toNatClampNeg))]) G hw ha1 hg1 hl.1 ml_X12_113 ⟨Nat.le_of_ble_eq_true rfl, Nat.le_of_ble_eq_true rfl⟩ (Nat.le_of_ble_eq_true rfl) ⟨Nat.le_refl _, Nat.le_refl _⟩ dX12_is_49 (fun H locs hw => ?_)
            obtain ⟨j60, ej, hf⟩ := bL_e hf
            have R60 : ∀ (t_6 : Int32) (H : Heap) (locs : List Loc) (ls : Array Slot), Wd Z s S H locs → lv_has ls 4 [(0, .ref (za Z 0)), (1, .ref (zs Z a1)), (3, .int l3_4)] → j60 t_6 = some q_5 → W p l e { frames := 7, cells := 0, slots := 0, locals := 160 } s m args below meth c H locs 0 0 Q (F0 m 60 ls [.int t_6]) := by
              intro t_6 H locs ls hw hl hf
              have hf := (congrFun ej t_6).symm.trans hf
              refine lv_istore_n (lv' := [(2, .int t_6), (0, .ref (za Z 0)), (1, .ref (zs Z a1)), (3, .int l3_4)]) hx hb dX12_is_60 rfl hl (by decide) rfl (fun ls hl => ?_)
              obtain ⟨l3_7, el3_7, hf⟩ := bL_e hf
              refine lv_iinc (v := l3_7) (lv' := [(3, .int l3_7), (2, .int t_6), (0, .ref (za Z 0)), (1, .ref (zs Z a1))]) hx hb dX12_is_61 hl (k := 3) rfl (by rw [el3_7]; rfl) (by decide) rfl (fun ls hl => ?_)
              refine lv_goto (tgt := 24) hx hb dX12_is_64 (by decide) ?_
              obtain rfl := Option.some.inj hf
              exact ih _ hg _ _ _ _ _ hw (lv_sub hl [2, 3, 1, 0] rfl) hz
            clear ej
            refine lv_icmp_ne (tgt := 59) hx hb dX12_is_52 (by decide) (fun c_8 => ?_) (fun c_8 => ?_)
            · have hf := (if_neg c_8).symm.trans hf
              refine lv_iconst hx hb dX12_is_59 ki_0 ?_
              exact R60 _ _ _ _ hw (lv_sub hl [0, 1, 3] rfl) hf
            · have hf := (if_pos c_8).symm.trans hf
              refine lv_iconst hx hb dX12_is_55 ki_1 ?_
              refine lv_goto (tgt := 60) hx hb dX12_is_56 (by decide) ?_
              exact R60 _ _ _ _ hw (lv_sub hl [0, 1, 3] rfl) hf
    clear eb
    obtain ⟨z, hz, hf⟩ := bB_e hf
    obtain ⟨n, hz⟩ := bP_e hz
    exact RL24 n z hf _ _ _ _ _ hw (lv_sub hl [2, 3, 1, 0] rfl) hz
  clear ej
  refine lv_icmp_ne (tgt := 20) hx hb dX12_is_13 (by decide) (fun c_11 => ?_) (fun c_11 => ?_)
  · have hf := (if_neg c_11).symm.trans hf
    refine lv_iconst hx hb dX12_is_20 ki_0 ?_
    exact R21 _ _ _ _ hw (lv_sub hl [0, 1] rfl) hf
  · have hf := (if_pos c_11).symm.trans hf
    refine lv_iconst hx hb dX12_is_16 ki_1 ?_
    refine lv_goto (tgt := 21) hx hb dX12_is_17 (by decide) ?_
    exact R21 _ _ _ _ hw (lv_sub hl [0, 1] rfl) hf
noncomputable def F12_flightWord (S : pS) : Option (Int32) :=
  bB (F12_is S 4) fun r_1 =>
  if r_1 = 0 then
    bB (F12_is S 5) fun r_2 =>
    if r_2 = 0 then
      bB (F12_is S 6) fun r_3 =>
      if r_3 = 0 then
        bB (F12_is S 7) fun r_4 =>
        if r_4 = 0 then
          bB (F12_is S 8) fun r_5 =>
          if r_5 = 0 then
            bB (F12_is S 9) fun r_6 =>
            if r_6 = 0 then
              bB (F12_is S 10) fun r_7 =>
              if r_7 = 0 then
                bB (F12_is S 11) fun r_8 =>
                if r_8 = 0 then
                  bB (F12_is S 12) fun r_9 =>
                  if r_9 = 0 then
                    bB (F12_is S 13) fun r_10 =>
                    if r_10 = 0 then
                      bB (F12_is S 14) fun r_11 =>
                      if r_11 = 0 then
                        bB (F12_is S 15) fun r_12 =>
                        if r_12 = 0 then
                          bB (F12_is S 16) fun r_13 =>
                          if r_13 = 0 then
                            some (1 : Int32)
                          else
                            some (49 : Int32)
                        else
                          some (48 : Int32)
                      else
                        some (47 : Int32)
                    else
                      some (46 : Int32)
                  else
                    some (45 : Int32)
                else
                  some (44 : Int32)
              else
                some (43 : Int32)
            else
              some (42 : Int32)
          else
            some (41 : Int32)
        else
          some (23 : Int32)
      else
        some (22 : Int32)
    else
      some (21 : Int32)
  else
    some (20 : Int32)
set_option maxRecDepth 100000 in
set_option maxHeartbeats 4000000 in
theorem wX12_flightWord {l : Launch} {Z : pZ}  (hZ : CM Z) (S : pS)  (r : Int32)  (hf : F12_flightWord S = some r) : CI l Z yX12_flightWord cX12_flightWord 1 .int 8 183 [.ref (za Z 0)] S r S := by
  unfold F12_flightWord at hf
  refine eI (own := RX12) (by decide) rfl (Nat.le_of_ble_eq_true rfl) (fun p e s m args below meth c Q ls G hl hw hret => ?_)
  obtain ⟨hx, hb, hml, hown, hts⟩ := G.1
  have hl : lv_has ls 1 [(0, .ref (za Z 0))] := hl
  refine lv_aload_n hx hb dX12_flightWord_0 rfl (lv_at hl 0 rfl) ?_
  refine va_ldcS hx hb hown (rS_4 G) dX12_flightWord_1 ?_
  obtain ⟨r_1, hr_1, hf⟩ := bB_e hf
  refine kVi (rest := []) G hw (wX12_is hZ S 4 r_1 (by decide) hr_1) cw_X12_119 (m_this hZ) KX12 ⟨Nat.le_of_ble_eq_true rfl, Nat.le_of_ble_eq_true rfl⟩ rfl hl.1 rfl (Nat.le_of_ble_eq_true rfl) ⟨Nat.le_refl _, Nat.le_refl _⟩ dX12_flightWord_3 (fun H locs hw => ?_)
  refine lv_if_eq (tgt := 12) hx hb dX12_flightWord_6 (by decide) (fun c_26 => ?_) (fun c_26 => ?_)
  · have hf := (if_pos c_26).symm.trans hf
    refine lv_aload_n hx hb dX12_flightWord_12 rfl (lv_at hl 0 rfl) ?_
    refine va_ldcS hx hb hown (rS_5 G) dX12_flightWord_13 ?_
    obtain ⟨r_2, hr_2, hf⟩ := bB_e hf
    refine kVi (rest := []) G hw (wX12_is hZ S 5 r_2 (by decide) hr_2) cw_X12_119 (m_this hZ) KX12 ⟨Nat.le_of_ble_eq_true rfl, Nat.le_of_ble_eq_true rfl⟩ rfl hl.1 rfl (Nat.le_of_ble_eq_true rfl) ⟨Nat.le_refl _, Nat.le_refl _⟩ dX12_flightWord_15 (fun H locs hw => ?_)
    refine lv_if_eq (tgt := 24) hx hb dX12_flightWord_18 (by decide) (fun c_25 => ?_) (fun c_25 => ?_)
    · have hf := (if_pos c_25).symm.trans hf
      refine lv_aload_n hx hb dX12_flightWord_24 rfl (lv_at hl 0 rfl) ?_
      refine va_ldcS hx hb hown (rS_6 G) dX12_flightWord_25 ?_
      obtain ⟨r_3, hr_3, hf⟩ := bB_e hf
      refine kVi (rest := []) G hw (wX12_is hZ S 6 r_3 (by decide) hr_3) cw_X12_119 (m_this hZ) KX12 ⟨Nat.le_of_ble_eq_true rfl, Nat.le_of_ble_eq_true rfl⟩ rfl hl.1 rfl (Nat.le_of_ble_eq_true rfl) ⟨Nat.le_refl _, Nat.le_refl _⟩ dX12_flightWord_27 (fun H locs hw => ?_)
      refine lv_if_eq (tgt := 36) hx hb dX12_flightWord_30 (by decide) (fun c_24 => ?_) (fun c_24 => ?_)
      · have hf := (if_pos c_24).symm.trans hf
        refine lv_aload_n hx hb dX12_flightWord_36 rfl (lv_at hl 0 rfl) ?_
        refine va_ldcS hx hb hown (rS_7 G) dX12_flightWord_37 ?_
        obtain ⟨r_4, hr_4, hf⟩ := bB_e hf
        refine kVi (rest := []) G hw (wX12_is hZ S 7 r_4 (by decide) hr_4) cw_X12_119 (m_this hZ) KX12 ⟨Nat.le_of_ble_eq_true rfl, Nat.le_of_ble_eq_true rfl⟩ rfl hl.1 rfl (Nat.le_of_ble_eq_true rfl) ⟨Nat.le_refl _, Nat.le_refl _⟩ dX12_flightWord_39 (fun H locs hw => ?_)
        refine lv_if_eq (tgt := 48) hx hb dX12_flightWord_42 (by decide) (fun c_23 => ?_) (fun c_23 => ?_)
        · have hf := (if_pos c_23).symm.trans hf
          refine lv_aload_n hx hb dX12_flightWord_48 rfl (lv_at hl 0 rfl) ?_
          refine va_ldcS hx hb hown (rS_8 G) dX12_flightWord_49 ?_
          obtain ⟨r_5, hr_5, hf⟩ := bB_e hf
          refine kVi (rest := []) G hw (wX12_is hZ S 8 r_5 (by decide) hr_5) cw_X12_119 (m_this hZ) KX12 ⟨Nat.le_of_ble_eq_true rfl, Nat.le_of_ble_eq_true rfl⟩ rfl hl.1 rfl (Nat.le_of_ble_eq_true rfl) ⟨Nat.le_refl _, Nat.le_refl _⟩ dX12_flightWord_51 (fun H locs hw => ?_)
          refine lv_if_eq (tgt := 60) hx hb dX12_flightWord_54 (by decide) (fun c_22 => ?_) (fun c_22 => ?_)
          · have hf := (if_pos c_22).symm.trans hf
            refine lv_aload_n hx hb dX12_flightWord_60 rfl (lv_at hl 0 rfl) ?_
            refine va_ldcS hx hb hown (rS_9 G) dX12_flightWord_61 ?_
            obtain ⟨r_6, hr_6, hf⟩ := bB_e hf
            refine kVi (rest := []) G hw (wX12_is hZ S 9 r_6 (by decide) hr_6) cw_X12_119 (m_this hZ) KX12 ⟨Nat.le_of_ble_eq_true rfl, Nat.le_of_ble_eq_true rfl⟩ rfl hl.1 rfl (Nat.le_of_ble_eq_true rfl) ⟨Nat.le_refl _, Nat.le_refl _⟩ dX12_flightWord_63 (fun H locs hw => ?_)
            refine lv_if_eq (tgt := 72) hx hb dX12_flightWord_66 (by decide) (fun c_21 => ?_) (fun c_21 => ?_)
            · have hf := (if_pos c_21).symm.trans hf
              refine lv_aload_n hx hb dX12_flightWord_72 rfl (lv_at hl 0 rfl) ?_
              refine va_ldcS hx hb hown (rS_10 G) dX12_flightWord_73 ?_
              obtain ⟨r_7, hr_7, hf⟩ := bB_e hf
              refine kVi (rest := []) G hw (wX12_is hZ S 10 r_7 (by decide) hr_7) cw_X12_119 (m_this hZ) KX12 ⟨Nat.le_of_ble_eq_true rfl, Nat.le_of_ble_eq_true rfl⟩ rfl hl.1 rfl (Nat.le_of_ble_eq_true rfl) ⟨Nat.le_refl _, Nat.le_refl _⟩ dX12_flightWord_75 (fun H locs hw => ?_)
              refine lv_if_eq (tgt := 84) hx hb dX12_flightWord_78 (by decide) (fun c_20 => ?_) (fun c_20 => ?_)
              · have hf := (if_pos c_20).symm.trans hf
                refine lv_aload_n hx hb dX12_flightWord_84 rfl (lv_at hl 0 rfl) ?_
                refine va_ldcS hx hb hown (rS_11 G) dX12_flightWord_85 ?_
                obtain ⟨r_8, hr_8, hf⟩ := bB_e hf
                refine kVi (rest := []) G hw (wX12_is hZ S 11 r_8 (by decide) hr_8) cw_X12_119 (m_this hZ) KX12 ⟨Nat.le_of_ble_eq_true rfl, Nat.le_of_ble_eq_true rfl⟩ rfl hl.1 rfl (Nat.le_of_ble_eq_true rfl) ⟨Nat.le_refl _, Nat.le_refl _⟩ dX12_flightWord_87 (fun H locs hw => ?_)
                refine lv_if_eq (tgt := 96) hx hb dX12_flightWord_90 (by decide) (fun c_19 => ?_) (fun c_19 => ?_)
                · have hf := (if_pos c_19).symm.trans hf
                  refine lv_aload_n hx hb dX12_flightWord_96 rfl (lv_at hl 0 rfl) ?_
                  refine va_ldcS hx hb hown (rS_12 G) dX12_flightWord_97 ?_
                  obtain ⟨r_9, hr_9, hf⟩ := bB_e hf
                  refine kVi (rest := []) G hw (wX12_is hZ S 12 r_9 (by decide) hr_9) cw_X12_119 (m_this hZ) KX12 ⟨Nat.le_of_ble_eq_true rfl, Nat.le_of_ble_eq_true rfl⟩ rfl hl.1 rfl (Nat.le_of_ble_eq_true rfl) ⟨Nat.le_refl _, Nat.le_refl _⟩ dX12_flightWord_99 (fun H locs hw => ?_)
                  refine lv_if_eq (tgt := 108) hx hb dX12_flightWord_102 (by decide) (fun c_18 => ?_) (fun c_18 => ?_)
                  · have hf := (if_pos c_18).symm.trans hf
                    refine lv_aload_n hx hb dX12_flightWord_108 rfl (lv_at hl 0 rfl) ?_
                    refine va_ldcS hx hb hown (rS_13 G) dX12_flightWord_109 ?_
                    obtain ⟨r_10, hr_10, hf⟩ := bB_e hf
                    refine kVi (rest := []) G hw (wX12_is hZ S 13 r_10 (by decide) hr_10) cw_X12_119 (m_this hZ) KX12 ⟨Nat.le_of_ble_eq_true rfl, Nat.le_of_ble_eq_true rfl⟩ rfl hl.1 rfl (Nat.le_of_ble_eq_true rfl) ⟨Nat.le_refl _, Nat.le_refl _⟩ dX12_flightWord_111 (fun H locs hw => ?_)
                    refine lv_if_eq (tgt := 120) hx hb dX12_flightWord_114 (by decide) (fun c_17 => ?_) (fun c_17 => ?_)
                    · have hf := (if_pos c_17).symm.trans hf
                      refine lv_aload_n hx hb dX12_flightWord_120 rfl (lv_at hl 0 rfl) ?_
                      refine va_ldcS hx hb hown (rS_14 G) dX12_flightWord_121 ?_
                      obtain ⟨r_11, hr_11, hf⟩ := bB_e hf
                      refine kVi (rest := []) G hw (wX12_is hZ S 14 r_11 (by decide) hr_11) cw_X12_119 (m_this hZ) KX12 ⟨Nat.le_of_ble_eq_true rfl, Nat.le_of_ble_eq_true rfl⟩ rfl hl.1 rfl (Nat.le_of_ble_eq_true rfl) ⟨Nat.le_refl _, Nat.le_refl _⟩ dX12_flightWord_123 (fun H locs hw => ?_)
                      refine lv_if_eq (tgt := 132) hx hb dX12_flightWord_126 (by decide) (fun c_16 => ?_) (fun c_16 => ?_)
                      · have hf := (if_pos c_16).symm.trans hf
                        refine lv_aload_n hx hb dX12_flightWord_132 rfl (lv_at hl 0 rfl) ?_
                        refine va_ldcS hx hb hown (rS_15 G) dX12_flightWord_133 ?_
                        obtain ⟨r_12, hr_12, hf⟩ := bB_e hf
                        refine kVi (rest := []) G hw (wX12_is hZ S 15 r_12 (by decide) hr_12) cw_X12_119 (m_this hZ) KX12 ⟨Nat.le_of_ble_eq_true rfl, Nat.le_of_ble_eq_true rfl⟩ rfl hl.1 rfl (Nat.le_of_ble_eq_true rfl) ⟨Nat.le_refl _, Nat.le_refl _⟩ dX12_flightWord_135 (fun H locs hw => ?_)
                        refine lv_if_eq (tgt := 144) hx hb dX12_flightWord_138 (by decide) (fun c_15 => ?_) (fun c_15 => ?_)
                        · have hf := (if_pos c_15).symm.trans hf
                          refine lv_aload_n hx hb dX12_flightWord_144 rfl (lv_at hl 0 rfl) ?_
                          refine va_ldcS hx hb hown (rS_16 G) dX12_flightWord_145 ?_
                          obtain ⟨r_13, hr_13, hf⟩ := bB_e hf
                          refine kVi (rest := []) G hw (wX12_is hZ S 16 r_13 (by decide) hr_13) cw_X12_119 (m_this hZ) KX12 ⟨Nat.le_of_ble_eq_true rfl, Nat.le_of_ble_eq_true rfl⟩ rfl hl.1 rfl (Nat.le_of_ble_eq_true rfl) ⟨Nat.le_refl _, Nat.le_refl _⟩ dX12_flightWord_147 (fun H locs hw => ?_)
                          refine lv_if_eq (tgt := 158) hx hb dX12_flightWord_150 (by decide) (fun c_14 => ?_) (fun c_14 => ?_)
                          · have hf := (if_pos c_14).symm.trans hf
                            refine lv_iconst hx hb dX12_flightWord_158 ki_1 ?_
                            exact hret _ _ _ _ _ dX12_flightWord_159 (Option.some.inj hf) hw
                          · have hf := (if_neg c_14).symm.trans hf
                            refine lv_bipush hx hb dX12_flightWord_153 kb_49 ?_
                            refine lv_goto (tgt := 159) hx hb dX12_flightWord_155 (by decide) ?_
                            exact hret _ _ _ _ _ dX12_flightWord_159 (Option.some.inj hf) hw
                        · have hf := (if_neg c_15).symm.trans hf
                          refine lv_bipush hx hb dX12_flightWord_141 kb_48 ?_
                          exact hret _ _ _ _ _ dX12_flightWord_143 (Option.some.inj hf) hw
                      · have hf := (if_neg c_16).symm.trans hf
                        refine lv_bipush hx hb dX12_flightWord_129 kb_47 ?_
                        exact hret _ _ _ _ _ dX12_flightWord_131 (Option.some.inj hf) hw
                    · have hf := (if_neg c_17).symm.trans hf
                      refine lv_bipush hx hb dX12_flightWord_117 kb_46 ?_
                      exact hret _ _ _ _ _ dX12_flightWord_119 (Option.some.inj hf) hw
                  · have hf := (if_neg c_18).symm.trans hf
                    refine lv_bipush hx hb dX12_flightWord_105 kb_45 ?_
                    exact hret _ _ _ _ _ dX12_flightWord_107 (Option.some.inj hf) hw
                · have hf := (if_neg c_19).symm.trans hf
                  refine lv_bipush hx hb dX12_flightWord_93 kb_44 ?_
                  exact hret _ _ _ _ _ dX12_flightWord_95 (Option.some.inj hf) hw
              · have hf := (if_neg c_20).symm.trans hf
                refine lv_bipush hx hb dX12_flightWord_81 kb_43 ?_
                exact hret _ _ _ _ _ dX12_flightWord_83 (Option.some.inj hf) hw
            · have hf := (if_neg c_21).symm.trans hf
              refine lv_bipush hx hb dX12_flightWord_69 kb_42 ?_
              exact hret _ _ _ _ _ dX12_flightWord_71 (Option.some.inj hf) hw
          · have hf := (if_neg c_22).symm.trans hf
            refine lv_bipush hx hb dX12_flightWord_57 kb_41 ?_
            exact hret _ _ _ _ _ dX12_flightWord_59 (Option.some.inj hf) hw
        · have hf := (if_neg c_23).symm.trans hf
          refine lv_bipush hx hb dX12_flightWord_45 kb_23 ?_
          exact hret _ _ _ _ _ dX12_flightWord_47 (Option.some.inj hf) hw
      · have hf := (if_neg c_24).symm.trans hf
        refine lv_bipush hx hb dX12_flightWord_33 kb_22 ?_
        exact hret _ _ _ _ _ dX12_flightWord_35 (Option.some.inj hf) hw
    · have hf := (if_neg c_25).symm.trans hf
      refine lv_bipush hx hb dX12_flightWord_21 kb_21 ?_
      exact hret _ _ _ _ _ dX12_flightWord_23 (Option.some.inj hf) hw
  · have hf := (if_neg c_26).symm.trans hf
    refine lv_bipush hx hb dX12_flightWord_9 kb_20 ?_
    exact hret _ _ _ _ _ dX12_flightWord_11 (Option.some.inj hf) hw
noncomputable def F12_armWord (S : pS) : Option (Int32) :=
  bB (F12_is S 17) fun r_1 =>
  if r_1 = 0 then
    bB (F12_is S 18) fun r_2 =>
    if r_2 = 0 then
      bB (F12_is S 19) fun r_3 =>
      if r_3 = 0 then
        bB (F12_is S 20) fun r_4 =>
        if r_4 = 0 then
          bB (F12_is S 21) fun r_5 =>
          if r_5 = 0 then
            bB (F12_is S 22) fun r_6 =>
            if r_6 = 0 then
              bB (F12_is S 23) fun r_7 =>
              if r_7 = 0 then
                bB (F12_is S 24) fun r_8 =>
                if r_8 = 0 then
                  bB (F12_is S 25) fun r_9 =>
                  if r_9 = 0 then
                    bB (F12_is S 26) fun r_10 =>
                    if r_10 = 0 then
                      bB (F12_is S 27) fun r_11 =>
                      if r_11 = 0 then
                        some (1 : Int32)
                      else
                        some (57 : Int32)
                    else
                      some (56 : Int32)
                  else
                    some (55 : Int32)
                else
                  some (54 : Int32)
              else
                some (53 : Int32)
            else
              some (52 : Int32)
          else
            some (51 : Int32)
        else
          some (50 : Int32)
      else
        some (26 : Int32)
    else
      some (25 : Int32)
  else
    some (24 : Int32)
set_option maxRecDepth 100000 in
set_option maxHeartbeats 4000000 in
theorem wX12_armWord {l : Launch} {Z : pZ}  (hZ : CM Z) (S : pS)  (r : Int32)  (hf : F12_armWord S = some r) : CI l Z yX12_armWord cX12_armWord 1 .int 8 183 [.ref (za Z 0)] S r S := by
  unfold F12_armWord at hf
  refine eI (own := RX12) (by decide) rfl (Nat.le_of_ble_eq_true rfl) (fun p e s m args below meth c Q ls G hl hw hret => ?_)
  obtain ⟨hx, hb, hml, hown, hts⟩ := G.1
  have hl : lv_has ls 1 [(0, .ref (za Z 0))] := hl
  refine lv_aload_n hx hb dX12_armWord_0 rfl (lv_at hl 0 rfl) ?_
  refine va_ldcS hx hb hown (rS_17 G) dX12_armWord_1 ?_
  obtain ⟨r_1, hr_1, hf⟩ := bB_e hf
  refine kVi (rest := []) G hw (wX12_is hZ S 17 r_1 (by decide) hr_1) cw_X12_119 (m_this hZ) KX12 ⟨Nat.le_of_ble_eq_true rfl, Nat.le_of_ble_eq_true rfl⟩ rfl hl.1 rfl (Nat.le_of_ble_eq_true rfl) ⟨Nat.le_refl _, Nat.le_refl _⟩ dX12_armWord_3 (fun H locs hw => ?_)
  refine lv_if_eq (tgt := 12) hx hb dX12_armWord_6 (by decide) (fun c_22 => ?_) (fun c_22 => ?_)
  · have hf := (if_pos c_22).symm.trans hf
    refine lv_aload_n hx hb dX12_armWord_12 rfl (lv_at hl 0 rfl) ?_
    refine va_ldcS hx hb hown (rS_18 G) dX12_armWord_13 ?_
    obtain ⟨r_2, hr_2, hf⟩ := bB_e hf
    refine kVi (rest := []) G hw (wX12_is hZ S 18 r_2 (by decide) hr_2) cw_X12_119 (m_this hZ) KX12 ⟨Nat.le_of_ble_eq_true rfl, Nat.le_of_ble_eq_true rfl⟩ rfl hl.1 rfl (Nat.le_of_ble_eq_true rfl) ⟨Nat.le_refl _, Nat.le_refl _⟩ dX12_armWord_15 (fun H locs hw => ?_)
    refine lv_if_eq (tgt := 24) hx hb dX12_armWord_18 (by decide) (fun c_21 => ?_) (fun c_21 => ?_)
    · have hf := (if_pos c_21).symm.trans hf
      refine lv_aload_n hx hb dX12_armWord_24 rfl (lv_at hl 0 rfl) ?_
      refine va_ldcS hx hb hown (rS_19 G) dX12_armWord_25 ?_
      obtain ⟨r_3, hr_3, hf⟩ := bB_e hf
      refine kVi (rest := []) G hw (wX12_is hZ S 19 r_3 (by decide) hr_3) cw_X12_119 (m_this hZ) KX12 ⟨Nat.le_of_ble_eq_true rfl, Nat.le_of_ble_eq_true rfl⟩ rfl hl.1 rfl (Nat.le_of_ble_eq_true rfl) ⟨Nat.le_refl _, Nat.le_refl _⟩ dX12_armWord_27 (fun H locs hw => ?_)
      refine lv_if_eq (tgt := 36) hx hb dX12_armWord_30 (by decide) (fun c_20 => ?_) (fun c_20 => ?_)
      · have hf := (if_pos c_20).symm.trans hf
        refine lv_aload_n hx hb dX12_armWord_36 rfl (lv_at hl 0 rfl) ?_
        refine va_ldcS hx hb hown (rS_20 G) dX12_armWord_37 ?_
        obtain ⟨r_4, hr_4, hf⟩ := bB_e hf
        refine kVi (rest := []) G hw (wX12_is hZ S 20 r_4 (by decide) hr_4) cw_X12_119 (m_this hZ) KX12 ⟨Nat.le_of_ble_eq_true rfl, Nat.le_of_ble_eq_true rfl⟩ rfl hl.1 rfl (Nat.le_of_ble_eq_true rfl) ⟨Nat.le_refl _, Nat.le_refl _⟩ dX12_armWord_39 (fun H locs hw => ?_)
        refine lv_if_eq (tgt := 48) hx hb dX12_armWord_42 (by decide) (fun c_19 => ?_) (fun c_19 => ?_)
        · have hf := (if_pos c_19).symm.trans hf
          refine lv_aload_n hx hb dX12_armWord_48 rfl (lv_at hl 0 rfl) ?_
          refine va_ldcS hx hb hown (rS_21 G) dX12_armWord_49 ?_
          obtain ⟨r_5, hr_5, hf⟩ := bB_e hf
          refine kVi (rest := []) G hw (wX12_is hZ S 21 r_5 (by decide) hr_5) cw_X12_119 (m_this hZ) KX12 ⟨Nat.le_of_ble_eq_true rfl, Nat.le_of_ble_eq_true rfl⟩ rfl hl.1 rfl (Nat.le_of_ble_eq_true rfl) ⟨Nat.le_refl _, Nat.le_refl _⟩ dX12_armWord_51 (fun H locs hw => ?_)
          refine lv_if_eq (tgt := 60) hx hb dX12_armWord_54 (by decide) (fun c_18 => ?_) (fun c_18 => ?_)
          · have hf := (if_pos c_18).symm.trans hf
            refine lv_aload_n hx hb dX12_armWord_60 rfl (lv_at hl 0 rfl) ?_
            refine va_ldcS hx hb hown (rS_22 G) dX12_armWord_61 ?_
            obtain ⟨r_6, hr_6, hf⟩ := bB_e hf
            refine kVi (rest := []) G hw (wX12_is hZ S 22 r_6 (by decide) hr_6) cw_X12_119 (m_this hZ) KX12 ⟨Nat.le_of_ble_eq_true rfl, Nat.le_of_ble_eq_true rfl⟩ rfl hl.1 rfl (Nat.le_of_ble_eq_true rfl) ⟨Nat.le_refl _, Nat.le_refl _⟩ dX12_armWord_63 (fun H locs hw => ?_)
            refine lv_if_eq (tgt := 72) hx hb dX12_armWord_66 (by decide) (fun c_17 => ?_) (fun c_17 => ?_)
            · have hf := (if_pos c_17).symm.trans hf
              refine lv_aload_n hx hb dX12_armWord_72 rfl (lv_at hl 0 rfl) ?_
              refine va_ldcS hx hb hown (rS_23 G) dX12_armWord_73 ?_
              obtain ⟨r_7, hr_7, hf⟩ := bB_e hf
              refine kVi (rest := []) G hw (wX12_is hZ S 23 r_7 (by decide) hr_7) cw_X12_119 (m_this hZ) KX12 ⟨Nat.le_of_ble_eq_true rfl, Nat.le_of_ble_eq_true rfl⟩ rfl hl.1 rfl (Nat.le_of_ble_eq_true rfl) ⟨Nat.le_refl _, Nat.le_refl _⟩ dX12_armWord_75 (fun H locs hw => ?_)
              refine lv_if_eq (tgt := 84) hx hb dX12_armWord_78 (by decide) (fun c_16 => ?_) (fun c_16 => ?_)
              · have hf := (if_pos c_16).symm.trans hf
                refine lv_aload_n hx hb dX12_armWord_84 rfl (lv_at hl 0 rfl) ?_
                refine va_ldcS hx hb hown (rS_24 G) dX12_armWord_85 ?_
                obtain ⟨r_8, hr_8, hf⟩ := bB_e hf
                refine kVi (rest := []) G hw (wX12_is hZ S 24 r_8 (by decide) hr_8) cw_X12_119 (m_this hZ) KX12 ⟨Nat.le_of_ble_eq_true rfl, Nat.le_of_ble_eq_true rfl⟩ rfl hl.1 rfl (Nat.le_of_ble_eq_true rfl) ⟨Nat.le_refl _, Nat.le_refl _⟩ dX12_armWord_87 (fun H locs hw => ?_)
                refine lv_if_eq (tgt := 96) hx hb dX12_armWord_90 (by decide) (fun c_15 => ?_) (fun c_15 => ?_)
                · have hf := (if_pos c_15).symm.trans hf
                  refine lv_aload_n hx hb dX12_armWord_96 rfl (lv_at hl 0 rfl) ?_
                  refine va_ldcS hx hb hown (rS_25 G) dX12_armWord_97 ?_
                  obtain ⟨r_9, hr_9, hf⟩ := bB_e hf
                  refine kVi (rest := []) G hw (wX12_is hZ S 25 r_9 (by decide) hr_9) cw_X12_119 (m_this hZ) KX12 ⟨Nat.le_of_ble_eq_true rfl, Nat.le_of_ble_eq_true rfl⟩ rfl hl.1 rfl (Nat.le_of_ble_eq_true rfl) ⟨Nat.le_refl _, Nat.le_refl _⟩ dX12_armWord_99 (fun H locs hw => ?_)
                  refine lv_if_eq (tgt := 108) hx hb dX12_armWord_102 (by decide) (fun c_14 => ?_) (fun c_14 => ?_)
                  · have hf := (if_pos c_14).symm.trans hf
                    refine lv_aload_n hx hb dX12_armWord_108 rfl (lv_at hl 0 rfl) ?_
                    refine va_ldcS hx hb hown (rS_26 G) dX12_armWord_109 ?_
                    obtain ⟨r_10, hr_10, hf⟩ := bB_e hf
                    refine kVi (rest := []) G hw (wX12_is hZ S 26 r_10 (by decide) hr_10) cw_X12_119 (m_this hZ) KX12 ⟨Nat.le_of_ble_eq_true rfl, Nat.le_of_ble_eq_true rfl⟩ rfl hl.1 rfl (Nat.le_of_ble_eq_true rfl) ⟨Nat.le_refl _, Nat.le_refl _⟩ dX12_armWord_111 (fun H locs hw => ?_)
                    refine lv_if_eq (tgt := 120) hx hb dX12_armWord_114 (by decide) (fun c_13 => ?_) (fun c_13 => ?_)
                    · have hf := (if_pos c_13).symm.trans hf
                      refine lv_aload_n hx hb dX12_armWord_120 rfl (lv_at hl 0 rfl) ?_
                      refine va_ldcS hx hb hown (rS_27 G) dX12_armWord_121 ?_
                      obtain ⟨r_11, hr_11, hf⟩ := bB_e hf
                      refine kVi (rest := []) G hw (wX12_is hZ S 27 r_11 (by decide) hr_11) cw_X12_119 (m_this hZ) KX12 ⟨Nat.le_of_ble_eq_true rfl, Nat.le_of_ble_eq_true rfl⟩ rfl hl.1 rfl (Nat.le_of_ble_eq_true rfl) ⟨Nat.le_refl _, Nat.le_refl _⟩ dX12_armWord_123 (fun H locs hw => ?_)
                      refine lv_if_eq (tgt := 134) hx hb dX12_armWord_126 (by decide) (fun c_12 => ?_) (fun c_12 => ?_)
                      · have hf := (if_pos c_12).symm.trans hf
                        refine lv_iconst hx hb dX12_armWord_134 ki_1 ?_
                        exact hret _ _ _ _ _ dX12_armWord_135 (Option.some.inj hf) hw
                      · have hf := (if_neg c_12).symm.trans hf
                        refine lv_bipush hx hb dX12_armWord_129 kb_57 ?_
                        refine lv_goto (tgt := 135) hx hb dX12_armWord_131 (by decide) ?_
                        exact hret _ _ _ _ _ dX12_armWord_135 (Option.some.inj hf) hw
                    · have hf := (if_neg c_13).symm.trans hf
                      refine lv_bipush hx hb dX12_armWord_117 kb_56 ?_
                      exact hret _ _ _ _ _ dX12_armWord_119 (Option.some.inj hf) hw
                  · have hf := (if_neg c_14).symm.trans hf
                    refine lv_bipush hx hb dX12_armWord_105 kb_55 ?_
                    exact hret _ _ _ _ _ dX12_armWord_107 (Option.some.inj hf) hw
                · have hf := (if_neg c_15).symm.trans hf
                  refine lv_bipush hx hb dX12_armWord_93 kb_54 ?_
                  exact hret _ _ _ _ _ dX12_armWord_95 (Option.some.inj hf) hw
              · have hf := (if_neg c_16).symm.trans hf
                refine lv_bipush hx hb dX12_armWord_81 kb_53 ?_
                exact hret _ _ _ _ _ dX12_armWord_83 (Option.some.inj hf) hw
            · have hf := (if_neg c_17).symm.trans hf
              refine lv_bipush hx hb dX12_armWord_69 kb_52 ?_
              exact hret _ _ _ _ _ dX12_armWord_71 (Option.some.inj hf) hw
          · have hf := (if_neg c_18).symm.trans hf
            refine lv_bipush hx hb dX12_armWord_57 kb_51 ?_
            exact hret _ _ _ _ _ dX12_armWord_59 (Option.some.inj hf) hw
        · have hf := (if_neg c_19).symm.trans hf
          refine lv_bipush hx hb dX12_armWord_45 kb_50 ?_
          exact hret _ _ _ _ _ dX12_armWord_47 (Option.some.inj hf) hw
      · have hf := (if_neg c_20).symm.trans hf
        refine lv_bipush hx hb dX12_armWord_33 kb_26 ?_
        exact hret _ _ _ _ _ dX12_armWord_35 (Option.some.inj hf) hw
    · have hf := (if_neg c_21).symm.trans hf
      refine lv_bipush hx hb dX12_armWord_21 kb_25 ?_
      exact hret _ _ _ _ _ dX12_armWord_23 (Option.some.inj hf) hw
  · have hf := (if_neg c_22).symm.trans hf
    refine lv_bipush hx hb dX12_armWord_9 kb_24 ?_
    exact hret _ _ _ _ _ dX12_armWord_11 (Option.some.inj hf) hw

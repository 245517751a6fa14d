theorem and63 (x : Int32) : (x &&& 63).toInt = (x.toUInt32.toNat % 64 : Nat) := by
  have h : (x &&& 63).toUInt32.toNat = x.toUInt32.toNat % 64 := by
    have : (63 : Nat) = 2 ^ 6 - 1 := rfl
    rw [show (x &&& 63).toUInt32 = x.toUInt32 &&& 63 from rfl, UInt32.toNat_and]
    exact Nat.and_two_pow_sub_one_eq_mod x.toUInt32.toNat 6
  rw [← h]
  have hlt : (x &&& 63).toUInt32.toNat < 64 := by rw [h]; exact Nat.mod_lt _ (by decide)
  rw [← Int32.toInt_toBitVec]
  rw [BitVec.toInt_eq_toNat_of_lt (by show 2 * (x &&& 63).toUInt32.toNat < 2 ^ 32; omega)]
  rfl
section LC
variable {p : Program} {l : Launch} {e : Env} {s : State} {m : MethodId} {below : List Frame} {meth : Method} {c : Code} {H : Heap} {locs : List Loc} {cells slots : Nat} {Q : State → Prop} {b L i : Nat} {xs : Nat → Int32} {ls : Array Slot} {Z0 Bc Bm : pZ} {Sc Sm : pS}
set_option maxRecDepth 100000 in
set_option maxHeartbeats 4000000 in
theorem lc_chance (hAO : va_AO RX8 s) (hAI : AOI s) (G : Cx p s m #[Value.ref b] c RL cL_law 4 Z0) (hA : pA Z0 s.heap.size = A0 s) (hX : va_X b L xs s s.heap) (hbl : b < s.heap.size) (hi : i + 8 ≤ L) (hL : L ≤ 4096) (hI : LI Z0 s Bc Bm Sc Sm H locs cells slots) (hl : lv_has ls 4 [(0, .ref b), (1, .ref (za Bc 0)), (2, .ref (za Bm 0)), (3, .int (nI i))]) (K : Kont p l e s m below meth c b i Z0 Q) : W p l e room_1 s m #[Value.ref b] below meth c H locs cells slots Q (F0 m 997 ls []) := by
  obtain ⟨hx, hb, hml, hown, hts⟩ := id G.1
  have hT := hI.two
  refine lv_aload_n hx hb dL_law_997 rfl (lv_at hl 1 rfl) ?_
  refine ga hx hb hX hbl hT.2.2 hi hL hl 1 (by decide) (by decide) dL_law_998 dL_law_999 dL_law_1000 dL_law_1001 dL_law_1002 ?_
  refine ga hx hb hX hbl hT.2.2 hi hL hl 2 (by decide) (by decide) dL_law_1003 dL_law_1004 dL_law_1005 dL_law_1006 dL_law_1007 ?_
  refine ga hx hb hX hbl hT.2.2 hi hL hl 3 (by decide) (by decide) dL_law_1008 dL_law_1009 dL_law_1010 dL_law_1011 dL_law_1012 ?_
  refine ga hx hb hX hbl hT.2.2 hi hL hl 4 (by decide) (by decide) dL_law_1013 dL_law_1014 dL_law_1015 dL_law_1016 dL_law_1017 ?_
  refine ga hx hb hX hbl hT.2.2 hi hL hl 5 (by decide) (by decide) dL_law_1018 dL_law_1019 dL_law_1020 dL_law_1021 dL_law_1022 ?_
  refine gb hx hb hX hbl hT.2.2 hi hL hl 6 (by decide) (by decide) dL_law_1023 dL_law_1024 dL_law_1025 dL_law_1027 dL_law_1028 ?_
  refine ch_C G hA hAO hAI hI hl (xs (i + 1)) (xs (i + 2)) (xs (i + 3)) (xs (i + 4)) (xs (i + 5)) (xs (i + 6)) (fun Bc2 r S2 S3 H locs cells slots hT hd e2 hLI hz hroom => ?_)
  refine lv_aload_n hx hb dL_law_1032 rfl (lv_at hl 2 rfl) ?_
  refine ga hx hb hX hbl hT.2.2 hi hL hl 1 (by decide) (by decide) dL_law_1033 dL_law_1034 dL_law_1035 dL_law_1036 dL_law_1037 ?_
  refine ga hx hb hX hbl hT.2.2 hi hL hl 2 (by decide) (by decide) dL_law_1038 dL_law_1039 dL_law_1040 dL_law_1041 dL_law_1042 ?_
  refine ga hx hb hX hbl hT.2.2 hi hL hl 3 (by decide) (by decide) dL_law_1043 dL_law_1044 dL_law_1045 dL_law_1046 dL_law_1047 ?_
  refine ga hx hb hX hbl hT.2.2 hi hL hl 4 (by decide) (by decide) dL_law_1048 dL_law_1049 dL_law_1050 dL_law_1051 dL_law_1052 ?_
  refine ga hx hb hX hbl hT.2.2 hi hL hl 5 (by decide) (by decide) dL_law_1053 dL_law_1054 dL_law_1055 dL_law_1056 dL_law_1057 ?_
  refine gb hx hb hX hbl hT.2.2 hi hL hl 6 (by decide) (by decide) dL_law_1058 dL_law_1059 dL_law_1060 dL_law_1062 dL_law_1063 ?_
  refine kVi (Z := wX Bm (cel Bc2 S2)) (rest := [.int r]) (cxT G hA hI.2.1 hT.am) (hT.m hd) (wX12_chance hI.hM Sm (xs (i + 1)) (xs (i + 2)) (xs (i + 3)) (xs (i + 4)) (xs (i + 5)) (xs (i + 6)) r S3 e2) cwL_115 (m_this hI.hM) KX12 ⟨Nat.le_of_ble_eq_true rfl, Nat.le_of_ble_eq_true rfl⟩ rfl hl.1 rfl (Nat.le_of_ble_eq_true rfl) hroom dL_law_1064 (fun H locs hw => ?_)
  have hT := hT.m' hd hw
  exact lv_icmp_eq (tgt := 1671) hx hb dL_law_1067 (by decide) (fun _ => K _ _ _ _ _ _ _ _ _ (hLI _ _ hT) (by rw [hz]; exact hl)) (fun q => absurd rfl q)
set_option maxRecDepth 100000 in
set_option maxHeartbeats 4000000 in
theorem lc_train (hAO : va_AO RX8 s) (hAI : AOI s) (G : Cx p s m #[Value.ref b] c RL cL_law 4 Z0) (hA : pA Z0 s.heap.size = A0 s) (hX : va_X b L xs s s.heap) (hbl : b < s.heap.size) (hi : i + 8 ≤ L) (hL : L ≤ 4096) (hI : LI Z0 s Bc Bm Sc Sm H locs cells slots) (hl : lv_has ls 4 [(0, .ref b), (1, .ref (za Bc 0)), (2, .ref (za Bm 0)), (3, .int (nI i))]) (K : Kont p l e s m below meth c b i Z0 Q) : W p l e room_1 s m #[Value.ref b] below meth c H locs cells slots Q (F0 m 1288 ls []) := by
  obtain ⟨hx, hb, hml, hown, hts⟩ := id G.1
  have hT := hI.two
  refine lv_aload_n hx hb dL_law_1288 rfl (lv_at hl 1 rfl) ?_
  refine ga hx hb hX hbl hT.2.2 hi hL hl 1 (by decide) (by decide) dL_law_1289 dL_law_1290 dL_law_1291 dL_law_1292 dL_law_1293 ?_
  refine ga hx hb hX hbl hT.2.2 hi hL hl 2 (by decide) (by decide) dL_law_1294 dL_law_1295 dL_law_1296 dL_law_1297 dL_law_1298 ?_
  refine ga hx hb hX hbl hT.2.2 hi hL hl 3 (by decide) (by decide) dL_law_1299 dL_law_1300 dL_law_1301 dL_law_1302 dL_law_1303 ?_
  refine ga hx hb hX hbl hT.2.2 hi hL hl 4 (by decide) (by decide) dL_law_1304 dL_law_1305 dL_law_1306 dL_law_1307 dL_law_1308 ?_
  refine tr_C G hA hAO hAI hI hl (xs (i + 1)) (xs (i + 2)) (xs (i + 3)) (xs (i + 4)) (fun Bc2 r S2 S3 H locs cells slots hT hd e2 hLI hz hroom => ?_)
  refine lv_aload_n hx hb dL_law_1312 rfl (lv_at hl 2 rfl) ?_
  refine ga hx hb hX hbl hT.2.2 hi hL hl 1 (by decide) (by decide) dL_law_1313 dL_law_1314 dL_law_1315 dL_law_1316 dL_law_1317 ?_
  refine ga hx hb hX hbl hT.2.2 hi hL hl 2 (by decide) (by decide) dL_law_1318 dL_law_1319 dL_law_1320 dL_law_1321 dL_law_1322 ?_
  refine ga hx hb hX hbl hT.2.2 hi hL hl 3 (by decide) (by decide) dL_law_1323 dL_law_1324 dL_law_1325 dL_law_1326 dL_law_1327 ?_
  refine ga hx hb hX hbl hT.2.2 hi hL hl 4 (by decide) (by decide) dL_law_1328 dL_law_1329 dL_law_1330 dL_law_1331 dL_law_1332 ?_
  refine kVi (Z := wX Bm (cel Bc2 S2)) (rest := [.int r]) (cxT G hA hI.2.1 hT.am) (hT.m hd) (wX12_train hI.hM Sm (xs (i + 1)) (xs (i + 2)) (xs (i + 3)) (xs (i + 4)) r S3 e2) cwL_140 (m_this hI.hM) KX12 ⟨Nat.le_of_ble_eq_true rfl, Nat.le_of_ble_eq_true rfl⟩ rfl hl.1 rfl (Nat.le_of_ble_eq_true rfl) hroom dL_law_1333 (fun H locs hw => ?_)
  have hT := hT.m' hd hw
  exact lv_icmp_eq (tgt := 1671) hx hb dL_law_1336 (by decide) (fun _ => K _ _ _ _ _ _ _ _ _ (hLI _ _ hT) (by rw [hz]; exact hl)) (fun q => absurd rfl q)
set_option maxRecDepth 100000 in
set_option maxHeartbeats 4000000 in
theorem lc_image (hAO : va_AO RX8 s) (hAI : AOI s) (G : Cx p s m #[Value.ref b] c RL cL_law 4 Z0) (hA : pA Z0 s.heap.size = A0 s) (hX : va_X b L xs s s.heap) (hbl : b < s.heap.size) (hi : i + 8 ≤ L) (hL : L ≤ 4096) (hI : LI Z0 s Bc Bm Sc Sm H locs cells slots) (hl : lv_has ls 4 [(0, .ref b), (1, .ref (za Bc 0)), (2, .ref (za Bm 0)), (3, .int (nI i))]) (K : Kont p l e s m below meth c b i Z0 Q) : W p l e room_1 s m #[Value.ref b] below meth c H locs cells slots Q (F0 m 1609 ls []) := by
  obtain ⟨hx, hb, hml, hown, hts⟩ := id G.1
  have hT := hI.two
  refine lv_aload_n hx hb dL_law_1609 rfl (lv_at hl 1 rfl) ?_
  refine ga hx hb hX hbl hT.2.2 hi hL hl 1 (by decide) (by decide) dL_law_1610 dL_law_1611 dL_law_1612 dL_law_1613 dL_law_1614 ?_
  refine lv_if_eq (tgt := 1622) hx hb dL_law_1615 (by decide) (fun c0 => ?_) (fun c0 => ?_)
  · refine lv_iconst hx hb dL_law_1622 ki_0 ?_
    refine im_C G hA hAO hAI hI hl 0 (fun Bc2 r S2 S3 H locs cells slots hT hd e2 hLI hz hroom => ?_)
    refine lv_aload_n hx hb dL_law_1626 rfl (lv_at hl 2 rfl) ?_
    refine ga hx hb hX hbl hT.2.2 hi hL hl 1 (by decide) (by decide) dL_law_1627 dL_law_1628 dL_law_1629 dL_law_1630 dL_law_1631 ?_
    refine lv_if_eq (tgt := 1639) hx hb dL_law_1632 (by decide) (fun _ => ?_) (fun q => absurd c0 q)
    refine lv_iconst hx hb dL_law_1639 ki_0 ?_
    refine kVi (Z := wX Bm (cel Bc2 S2)) (rest := [.int r]) (cxT G hA hI.2.1 hT.am) (hT.m hd) (wX12_image hI.hM Sm 0 r S3 e2) cwL_182 (m_this hI.hM) KX12 ⟨Nat.le_of_ble_eq_true rfl, Nat.le_of_ble_eq_true rfl⟩ rfl hl.1 rfl (Nat.le_of_ble_eq_true rfl) hroom dL_law_1640 (fun H locs hw => ?_)
    have hT := hT.m' hd hw
    exact lv_icmp_eq (tgt := 1671) hx hb dL_law_1643 (by decide) (fun _ => K _ _ _ _ _ _ _ _ _ (hLI _ _ hT) (by rw [hz]; exact hl)) (fun q => absurd rfl q)
  · refine lv_iconst hx hb dL_law_1618 ki_1 ?_
    refine lv_goto (tgt := 1623) hx hb dL_law_1619 (by decide) ?_
    refine im_C G hA hAO hAI hI hl 1 (fun Bc2 r S2 S3 H locs cells slots hT hd e2 hLI hz hroom => ?_)
    refine lv_aload_n hx hb dL_law_1626 rfl (lv_at hl 2 rfl) ?_
    refine ga hx hb hX hbl hT.2.2 hi hL hl 1 (by decide) (by decide) dL_law_1627 dL_law_1628 dL_law_1629 dL_law_1630 dL_law_1631 ?_
    refine lv_if_eq (tgt := 1639) hx hb dL_law_1632 (by decide) (fun q => absurd q c0) (fun _ => ?_)
    refine lv_iconst hx hb dL_law_1635 ki_1 ?_
    refine lv_goto (tgt := 1640) hx hb dL_law_1636 (by decide) ?_
    refine kVi (Z := wX Bm (cel Bc2 S2)) (rest := [.int r]) (cxT G hA hI.2.1 hT.am) (hT.m hd) (wX12_image hI.hM Sm 1 r S3 e2) cwL_182 (m_this hI.hM) KX12 ⟨Nat.le_of_ble_eq_true rfl, Nat.le_of_ble_eq_true rfl⟩ rfl hl.1 rfl (Nat.le_of_ble_eq_true rfl) hroom dL_law_1640 (fun H locs hw => ?_)
    have hT := hT.m' hd hw
    exact lv_icmp_eq (tgt := 1671) hx hb dL_law_1643 (by decide) (fun _ => K _ _ _ _ _ _ _ _ _ (hLI _ _ hT) (by rw [hz]; exact hl)) (fun q => absurd rfl q)
set_option maxRecDepth 100000 in
set_option maxHeartbeats 4000000 in
theorem lc_all (hAO : va_AO RX8 s) (hAI : AOI s) (G : Cx p s m #[Value.ref b] c RL cL_law 4 Z0) (hA : pA Z0 s.heap.size = A0 s) (hX : va_X b L xs s s.heap) (hbl : b < s.heap.size) (hi : i + 8 ≤ L) (hL : L ≤ 4096) (hI : LI Z0 s Bc Bm Sc Sm H locs cells slots) (hl : lv_has ls 4 [(0, .ref b), (1, .ref (za Bc 0)), (2, .ref (za Bm 0)), (3, .int (nI i))]) (K : Kont p l e s m below meth c b i Z0 Q) (x : Int32) : W p l e room_1 s m #[Value.ref b] below meth c H locs cells slots Q (F0 m 33 ls [.int (x &&& 63)]) := by
  obtain ⟨hx, hb, hml, hown, hts⟩ := id G.1
  have h0 : ¬ (x &&& 63).toInt < 0 := by rw [and63]; omega
  by_cases h1 : 39 < (x &&& 63).toInt
  · exact lv_tableOut (tgt := 1671) hx hb dL_law_33 (Or.inr h1) (by decide) (K _ _ _ _ _ _ _ _ _ hI hl)
  · obtain ⟨t, ht, e⟩ : ∃ t : Nat, t < 40 ∧ (x &&& 63).toInt = t := ⟨(x &&& 63).toInt.toNat, by omega, by omega⟩
    match t, ht with
    | 0, _ => exact lv_tableIn (off := 175) (tgt := 208) hx hb dL_law_33 h0 h1 (by rw [e]; rfl) (by decide) (lc_state G hA hX hbl hi hL hI hl K)
    | 1, _ => exact lv_tableIn (off := 198) (tgt := 231) hx hb dL_law_33 h0 h1 (by rw [e]; rfl) (by decide) (lc_spear G hA hX hbl hi hL hI hl K)
    | 2, _ => exact lv_tableIn (off := 231) (tgt := 264) hx hb dL_law_33 h0 h1 (by rw [e]; rfl) (by decide) (lc_thrower G hA hX hbl hi hL hI hl K)
    | 3, _ => exact lv_tableIn (off := 254) (tgt := 287) hx hb dL_law_33 h0 h1 (by rw [e]; rfl) (by decide) (lc_set G hA hX hbl hi hL hI hl K)
    | 4, _ => exact lv_tableIn (off := 297) (tgt := 330) hx hb dL_law_33 h0 h1 (by rw [e]; rfl) (by decide) (lc_feed G hA hX hbl hi hL hI hl K)
    | 5, _ => exact lv_tableIn (off := 360) (tgt := 393) hx hb dL_law_33 h0 h1 (by rw [e]; rfl) (by decide) (lc_end G hA hX hbl hi hL hI hl K)
    | 6, _ => exact lv_tableIn (off := 383) (tgt := 416) hx hb dL_law_33 h0 h1 (by rw [e]; rfl) (by decide) (lc_text G hA hX hbl hi hL hI hl K)
    | 7, _ => exact lv_tableIn (off := 416) (tgt := 449) hx hb dL_law_33 h0 h1 (by rw [e]; rfl) (by decide) (lc_fault G hA hX hbl hi hL hI hl K)
    | 8, _ => exact lv_tableIn (off := 439) (tgt := 472) hx hb dL_law_33 h0 h1 (by rw [e]; rfl) (by decide) (lc_throwIt G hA hX hbl hi hL hI hl K)
    | 9, _ => exact lv_tableIn (off := 492) (tgt := 525) hx hb dL_law_33 h0 h1 (by rw [e]; rfl) (by decide) (lc_pass G hA hX hbl hi hL hI hl K)
    | 10, _ => exact lv_tableIn (off := 505) (tgt := 538) hx hb dL_law_33 h0 h1 (by rw [e]; rfl) (by decide) (lc_turnsGo G hA hX hbl hi hL hI hl K)
    | 11, _ => exact lv_tableIn (off := 528) (tgt := 561) hx hb dL_law_33 h0 h1 (by rw [e]; rfl) (by decide) (lc_meet G hA hX hbl hi hL hI hl K)
    | 12, _ => exact lv_tableIn (off := 539) (tgt := 572) hx hb dL_law_33 h0 h1 (by rw [e]; rfl) (by decide) (lc_days G hA hX hbl hi hL hI hl K)
    | 13, _ => exact lv_tableIn (off := 562) (tgt := 595) hx hb dL_law_33 h0 h1 (by rw [e]; rfl) (by decide) (lc_of G hA hX hbl hi hL hI hl K)
    | 14, _ => exact lv_tableIn (off := 595) (tgt := 628) hx hb dL_law_33 h0 h1 (by rw [e]; rfl) (by decide) (lc_at G hA hX hbl hi hL hI hl K)
    | 15, _ => exact lv_tableIn (off := 628) (tgt := 661) hx hb dL_law_33 h0 h1 (by rw [e]; rfl) (by decide) (lc_book G hA hX hbl hi hL hI hl K)
    | 16, _ => exact lv_tableIn (off := 661) (tgt := 694) hx hb dL_law_33 h0 h1 (by rw [e]; rfl) (by decide) (lc_fly G hA hX hbl hi hL hI hl K)
    | 17, _ => exact lv_tableIn (off := 748) (tgt := 781) hx hb dL_law_33 h0 h1 (by rw [e]; rfl) (by decide) (lc_angle G hA hX hbl hi hL hI hl K)
    | 18, _ => exact lv_tableIn (off := 801) (tgt := 834) hx hb dL_law_33 h0 h1 (by rw [e]; rfl) (by decide) (lc_right G hA hX hbl hi hL hI hl K)
    | 19, _ => exact lv_tableIn (off := 834) (tgt := 867) hx hb dL_law_33 h0 h1 (by rw [e]; rfl) (by decide) (lc_winds G hA hX hbl hi hL hI hl K)
    | 20, _ => exact lv_tableIn (off := 898) (tgt := 931) hx hb dL_law_33 h0 h1 (by rw [e]; rfl) (by decide) (lc_still G hA hX hbl hi hL hI hl K)
    | 21, _ => exact lv_tableIn (off := 921) (tgt := 954) hx hb dL_law_33 h0 h1 (by rw [e]; rfl) (by decide) (lc_holds G hA hX hbl hi hL hI hl K)
    | 22, _ => exact lv_tableIn (off := 964) (tgt := 997) hx hb dL_law_33 h0 h1 (by rw [e]; rfl) (by decide) (lc_chance hAO hAI G hA hX hbl hi hL hI hl K)
    | 23, _ => exact lv_tableIn (off := 1039) (tgt := 1072) hx hb dL_law_33 h0 h1 (by rw [e]; rfl) (by decide) (lc_gust G hA hX hbl hi hL hI hl K)
    | 24, _ => exact lv_tableIn (off := 1062) (tgt := 1095) hx hb dL_law_33 h0 h1 (by rw [e]; rfl) (by decide) (lc_waitFor G hA hX hbl hi hL hI hl K)
    | 25, _ => exact lv_tableIn (off := 1115) (tgt := 1148) hx hb dL_law_33 h0 h1 (by rw [e]; rfl) (by decide) (lc_leastForce G hA hX hbl hi hL hI hl K)
    | 26, _ => exact lv_tableIn (off := 1168) (tgt := 1201) hx hb dL_law_33 h0 h1 (by rw [e]; rfl) (by decide) (lc_better G hA hX hbl hi hL hI hl K)
    | 27, _ => exact lv_tableIn (off := 1222) (tgt := 1255) hx hb dL_law_33 h0 h1 (by rw [e]; rfl) (by decide) (lc_span G hA hX hbl hi hL hI hl K)
    | 28, _ => exact lv_tableIn (off := 1255) (tgt := 1288) hx hb dL_law_33 h0 h1 (by rw [e]; rfl) (by decide) (lc_train hAO hAI G hA hX hbl hi hL hI hl K)
    | 29, _ => exact lv_tableIn (off := 1308) (tgt := 1341) hx hb dL_law_33 h0 h1 (by rw [e]; rfl) (by decide) (lc_after G hA hX hbl hi hL hI hl K)
    | 30, _ => exact lv_tableIn (off := 1341) (tgt := 1374) hx hb dL_law_33 h0 h1 (by rw [e]; rfl) (by decide) (lc_would G hA hX hbl hi hL hI hl K)
    | 31, _ => exact lv_tableIn (off := 1364) (tgt := 1397) hx hb dL_law_33 h0 h1 (by rw [e]; rfl) (by decide) (lc_verdict G hA hX hbl hi hL hI hl K)
    | 32, _ => exact lv_tableIn (off := 1388) (tgt := 1421) hx hb dL_law_33 h0 h1 (by rw [e]; rfl) (by decide) (lc_path G hA hX hbl hi hL hI hl K)
    | 33, _ => exact lv_tableIn (off := 1431) (tgt := 1464) hx hb dL_law_33 h0 h1 (by rw [e]; rfl) (by decide) (lc_place G hA hX hbl hi hL hI hl K)
    | 34, _ => exact lv_tableIn (off := 1454) (tgt := 1487) hx hb dL_law_33 h0 h1 (by rw [e]; rfl) (by decide) (lc_record G hA hX hbl hi hL hI hl K)
    | 35, _ => exact lv_tableIn (off := 1477) (tgt := 1510) hx hb dL_law_33 h0 h1 (by rw [e]; rfl) (by decide) (lc_needed G hA hX hbl hi hL hI hl K)
    | 36, _ => exact lv_tableIn (off := 1530) (tgt := 1563) hx hb dL_law_33 h0 h1 (by rw [e]; rfl) (by decide) (lc_rests G hA hX hbl hi hL hI hl K)
    | 37, _ => exact lv_tableIn (off := 1563) (tgt := 1596) hx hb dL_law_33 h0 h1 (by rw [e]; rfl) (by decide) (lc_undo G hA hX hbl hi hL hI hl K)
    | 38, _ => exact lv_tableIn (off := 1576) (tgt := 1609) hx hb dL_law_33 h0 h1 (by rw [e]; rfl) (by decide) (lc_image hAO hAI G hA hX hbl hi hL hI hl K)
    | 39, _ => exact lv_tableIn (off := 1615) (tgt := 1648) hx hb dL_law_33 h0 h1 (by rw [e]; rfl) (by decide) (lc_look G hA hX hbl hi hL hI hl K)
    | t + 40, ht => exact absurd ht (by omega)
end LC

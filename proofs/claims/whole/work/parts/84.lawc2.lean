section LC
variable {p : Program} {l : Launch} {e : Env} {s : State} {m : MethodId} {below : List Frame} {meth : Method} {c : Code} {H : Heap} {locs : List Loc} {cells slots : Nat} {Q : State → Prop} {b L i : Nat} {xs : Nat → Int32} {ls : Array Slot} {Z0 Bc Bm : pZ} {Sc Sm : pS}
set_option maxRecDepth 100000 in
set_option maxHeartbeats 4000000 in
theorem lc_winds (G : Cx p s m #[Value.ref b] c RL cL_law 4 Z0) (hA : pA Z0 s.heap.size = A0 s) (hX : va_X b L xs s s.heap) (hbl : b < s.heap.size) (hi : i + 8 ≤ L) (hL : L ≤ 4096) (hI : LI Z0 s Bc Bm Sc Sm H locs cells slots) (hl : lv_has ls 4 [(0, .ref b), (1, .ref (za Bc 0)), (2, .ref (za Bm 0)), (3, .int (nI i))]) (K : Kont p l e s m below meth c b i Z0 Q) : W p l e room_1 s m #[Value.ref b] below meth c H locs cells slots Q (F0 m 867 ls []) := by
  obtain ⟨hx, hb, hml, hown, hts⟩ := id G.1
  have hT := hI.two
  obtain ⟨⟨r, S2⟩, ⟨r', S3⟩, e1, e2, er, eR⟩ := M_winds hI.rel (xs (i + 1)) (xs (i + 2)) (xs (i + 3)) (xs (i + 4)) (xs (i + 5))
  have er : r = r' := er
  have eR : (Rel (Sc 0)) S2 S3 := eR
  subst er
  refine lv_aload_n hx hb dL_law_867 rfl (lv_at hl 1 rfl) ?_
  refine ga hx hb hX hbl hT.2.2 hi hL hl 1 (by decide) (by decide) dL_law_868 dL_law_869 dL_law_870 dL_law_871 dL_law_872 ?_
  refine ga hx hb hX hbl hT.2.2 hi hL hl 2 (by decide) (by decide) dL_law_873 dL_law_874 dL_law_875 dL_law_876 dL_law_877 ?_
  refine ga hx hb hX hbl hT.2.2 hi hL hl 3 (by decide) (by decide) dL_law_878 dL_law_879 dL_law_880 dL_law_881 dL_law_882 ?_
  refine ga hx hb hX hbl hT.2.2 hi hL hl 4 (by decide) (by decide) dL_law_883 dL_law_884 dL_law_885 dL_law_886 dL_law_887 ?_
  refine ga hx hb hX hbl hT.2.2 hi hL hl 5 (by decide) (by decide) dL_law_888 dL_law_889 dL_law_890 dL_law_891 dL_law_892 ?_
  refine kVl (Z := wX Bc (cel Bm Sm)) (rest := []) (hI.gc G hA hT) hT.c (wX11_winds hI.hC Sc (xs (i + 1)) (xs (i + 2)) (xs (i + 3)) (xs (i + 4)) (xs (i + 5)) r S2 hI.h0 e1) cwL_97 hI.h0 KX11 ⟨Nat.le_of_ble_eq_true rfl, Nat.le_of_ble_eq_true rfl⟩ rfl hl.1 rfl (Nat.le_of_ble_eq_true rfl) hI.room dL_law_893 (fun H locs hw => ?_)
  have hT := hT.c' hw
  refine lv_aload_n hx hb dL_law_896 rfl (lv_at hl 2 rfl) ?_
  refine ga hx hb hX hbl hT.2.2 hi hL hl 1 (by decide) (by decide) dL_law_897 dL_law_898 dL_law_899 dL_law_900 dL_law_901 ?_
  refine ga hx hb hX hbl hT.2.2 hi hL hl 2 (by decide) (by decide) dL_law_902 dL_law_903 dL_law_904 dL_law_905 dL_law_906 ?_
  refine ga hx hb hX hbl hT.2.2 hi hL hl 3 (by decide) (by decide) dL_law_907 dL_law_908 dL_law_909 dL_law_910 dL_law_911 ?_
  refine ga hx hb hX hbl hT.2.2 hi hL hl 4 (by decide) (by decide) dL_law_912 dL_law_913 dL_law_914 dL_law_915 dL_law_916 ?_
  refine ga hx hb hX hbl hT.2.2 hi hL hl 5 (by decide) (by decide) dL_law_917 dL_law_918 dL_law_919 dL_law_920 dL_law_921 ?_
  refine kVl (Z := wX Bm (cel Bc S2)) (rest := [.long r]) (hI.gm G hA hT) (hT.m hI.dd) (wX12_winds hI.hM Sm (xs (i + 1)) (xs (i + 2)) (xs (i + 3)) (xs (i + 4)) (xs (i + 5)) r S3 e2) cwL_101 (m_this hI.hM) KX12 ⟨Nat.le_of_ble_eq_true rfl, Nat.le_of_ble_eq_true rfl⟩ rfl hl.1 rfl (Nat.le_of_ble_eq_true rfl) hI.room dL_law_922 (fun H locs hw => ?_)
  have hT := hT.m' hI.dd hw
  refine W.lcmp hx hb dL_law_925 ?_
  exact lv_if_eq (tgt := 1671) hx hb dL_law_926 (by decide) (fun _ => K _ _ _ _ _ _ _ _ _ (hI.next hT eR) hl) (fun q => absurd (lcmp_r r) q)
set_option maxRecDepth 100000 in
set_option maxHeartbeats 4000000 in
theorem lc_still (G : Cx p s m #[Value.ref b] c RL cL_law 4 Z0) (hA : pA Z0 s.heap.size = A0 s) (hX : va_X b L xs s s.heap) (hbl : b < s.heap.size) (hi : i + 8 ≤ L) (hL : L ≤ 4096) (hI : LI Z0 s Bc Bm Sc Sm H locs cells slots) (hl : lv_has ls 4 [(0, .ref b), (1, .ref (za Bc 0)), (2, .ref (za Bm 0)), (3, .int (nI i))]) (K : Kont p l e s m below meth c b i Z0 Q) : W p l e room_1 s m #[Value.ref b] below meth c H locs cells slots Q (F0 m 931 ls []) := by
  obtain ⟨hx, hb, hml, hown, hts⟩ := id G.1
  have hT := hI.two
  obtain ⟨⟨r, S2⟩, ⟨r', S3⟩, e1, e2, er, eR⟩ := M_still hI.rel (xs (i + 1))
  have er : r = r' := er
  have eR : (Rel (Sc 0)) S2 S3 := eR
  subst er
  refine lv_aload_n hx hb dL_law_931 rfl (lv_at hl 1 rfl) ?_
  refine ga hx hb hX hbl hT.2.2 hi hL hl 1 (by decide) (by decide) dL_law_932 dL_law_933 dL_law_934 dL_law_935 dL_law_936 ?_
  refine kVi (Z := wX Bc (cel Bm Sm)) (rest := []) (hI.gc G hA hT) hT.c (wX11_still hI.hC Sc (xs (i + 1)) r S2 hI.h0 e1) cwL_102 hI.h0 KX11 ⟨Nat.le_of_ble_eq_true rfl, Nat.le_of_ble_eq_true rfl⟩ rfl hl.1 rfl (Nat.le_of_ble_eq_true rfl) hI.room dL_law_937 (fun H locs hw => ?_)
  have hT := hT.c' hw
  refine lv_aload_n hx hb dL_law_940 rfl (lv_at hl 2 rfl) ?_
  refine ga hx hb hX hbl hT.2.2 hi hL hl 1 (by decide) (by decide) dL_law_941 dL_law_942 dL_law_943 dL_law_944 dL_law_945 ?_
  refine kVi (Z := wX Bm (cel Bc S2)) (rest := [.int r]) (hI.gm G hA hT) (hT.m hI.dd) (wX12_still hI.hM Sm (xs (i + 1)) r S3 e2) cwL_105 (m_this hI.hM) KX12 ⟨Nat.le_of_ble_eq_true rfl, Nat.le_of_ble_eq_true rfl⟩ rfl hl.1 rfl (Nat.le_of_ble_eq_true rfl) hI.room dL_law_946 (fun H locs hw => ?_)
  have hT := hT.m' hI.dd hw
  exact lv_icmp_eq (tgt := 1671) hx hb dL_law_949 (by decide) (fun _ => K _ _ _ _ _ _ _ _ _ (hI.next hT eR) hl) (fun q => absurd rfl q)
set_option maxRecDepth 100000 in
set_option maxHeartbeats 4000000 in
theorem lc_holds (G : Cx p s m #[Value.ref b] c RL cL_law 4 Z0) (hA : pA Z0 s.heap.size = A0 s) (hX : va_X b L xs s s.heap) (hbl : b < s.heap.size) (hi : i + 8 ≤ L) (hL : L ≤ 4096) (hI : LI Z0 s Bc Bm Sc Sm H locs cells slots) (hl : lv_has ls 4 [(0, .ref b), (1, .ref (za Bc 0)), (2, .ref (za Bm 0)), (3, .int (nI i))]) (K : Kont p l e s m below meth c b i Z0 Q) : W p l e room_1 s m #[Value.ref b] below meth c H locs cells slots Q (F0 m 954 ls []) := by
  obtain ⟨hx, hb, hml, hown, hts⟩ := id G.1
  have hT := hI.two
  obtain ⟨⟨r, S2⟩, ⟨r', S3⟩, e1, e2, er, eR⟩ := M_holds hI.rel (xs (i + 1)) (xs (i + 2)) (xs (i + 3))
  have er : r = r' := er
  have eR : (Rel (Sc 0)) S2 S3 := eR
  subst er
  refine lv_aload_n hx hb dL_law_954 rfl (lv_at hl 1 rfl) ?_
  refine ga hx hb hX hbl hT.2.2 hi hL hl 1 (by decide) (by decide) dL_law_955 dL_law_956 dL_law_957 dL_law_958 dL_law_959 ?_
  refine ga hx hb hX hbl hT.2.2 hi hL hl 2 (by decide) (by decide) dL_law_960 dL_law_961 dL_law_962 dL_law_963 dL_law_964 ?_
  refine ga hx hb hX hbl hT.2.2 hi hL hl 3 (by decide) (by decide) dL_law_965 dL_law_966 dL_law_967 dL_law_968 dL_law_969 ?_
  refine kVi (Z := wX Bc (cel Bm Sm)) (rest := []) (hI.gc G hA hT) hT.c (wX11_holds hI.hC Sc (xs (i + 1)) (xs (i + 2)) (xs (i + 3)) r S2 hI.h0 e1) cwL_106 hI.h0 KX11 ⟨Nat.le_of_ble_eq_true rfl, Nat.le_of_ble_eq_true rfl⟩ rfl hl.1 rfl (Nat.le_of_ble_eq_true rfl) hI.room dL_law_970 (fun H locs hw => ?_)
  have hT := hT.c' hw
  refine lv_aload_n hx hb dL_law_973 rfl (lv_at hl 2 rfl) ?_
  refine ga hx hb hX hbl hT.2.2 hi hL hl 1 (by decide) (by decide) dL_law_974 dL_law_975 dL_law_976 dL_law_977 dL_law_978 ?_
  refine ga hx hb hX hbl hT.2.2 hi hL hl 2 (by decide) (by decide) dL_law_979 dL_law_980 dL_law_981 dL_law_982 dL_law_983 ?_
  refine ga hx hb hX hbl hT.2.2 hi hL hl 3 (by decide) (by decide) dL_law_984 dL_law_985 dL_law_986 dL_law_987 dL_law_988 ?_
  refine kVi (Z := wX Bm (cel Bc S2)) (rest := [.int r]) (hI.gm G hA hT) (hT.m hI.dd) (wX12_holds hI.hM Sm (xs (i + 1)) (xs (i + 2)) (xs (i + 3)) r S3 e2) cwL_110 (m_this hI.hM) KX12 ⟨Nat.le_of_ble_eq_true rfl, Nat.le_of_ble_eq_true rfl⟩ rfl hl.1 rfl (Nat.le_of_ble_eq_true rfl) hI.room dL_law_989 (fun H locs hw => ?_)
  have hT := hT.m' hI.dd hw
  exact lv_icmp_eq (tgt := 1671) hx hb dL_law_992 (by decide) (fun _ => K _ _ _ _ _ _ _ _ _ (hI.next hT eR) hl) (fun q => absurd rfl q)
set_option maxRecDepth 100000 in
set_option maxHeartbeats 4000000 in
theorem lc_gust (G : Cx p s m #[Value.ref b] c RL cL_law 4 Z0) (hA : pA Z0 s.heap.size = A0 s) (hX : va_X b L xs s s.heap) (hbl : b < s.heap.size) (hi : i + 8 ≤ L) (hL : L ≤ 4096) (hI : LI Z0 s Bc Bm Sc Sm H locs cells slots) (hl : lv_has ls 4 [(0, .ref b), (1, .ref (za Bc 0)), (2, .ref (za Bm 0)), (3, .int (nI i))]) (K : Kont p l e s m below meth c b i Z0 Q) : W p l e room_1 s m #[Value.ref b] below meth c H locs cells slots Q (F0 m 1072 ls []) := by
  obtain ⟨hx, hb, hml, hown, hts⟩ := id G.1
  have hT := hI.two
  obtain ⟨⟨r, S2⟩, ⟨r', S3⟩, e1, e2, er, eR⟩ := M_gust hI.rel (xs (i + 1))
  have er : r = r' := er
  have eR : (Rel (Sc 0)) S2 S3 := eR
  subst er
  refine lv_aload_n hx hb dL_law_1072 rfl (lv_at hl 1 rfl) ?_
  refine ga hx hb hX hbl hT.2.2 hi hL hl 1 (by decide) (by decide) dL_law_1073 dL_law_1074 dL_law_1075 dL_law_1076 dL_law_1077 ?_
  refine kVi (Z := wX Bc (cel Bm Sm)) (rest := []) (hI.gc G hA hT) hT.c (wX11_gust hI.hC Sc (xs (i + 1)) r S2 hI.h0 e1) cwL_116 hI.h0 KX11 ⟨Nat.le_of_ble_eq_true rfl, Nat.le_of_ble_eq_true rfl⟩ rfl hl.1 rfl (Nat.le_of_ble_eq_true rfl) hI.room dL_law_1078 (fun H locs hw => ?_)
  have hT := hT.c' hw
  refine lv_aload_n hx hb dL_law_1081 rfl (lv_at hl 2 rfl) ?_
  refine ga hx hb hX hbl hT.2.2 hi hL hl 1 (by decide) (by decide) dL_law_1082 dL_law_1083 dL_law_1084 dL_law_1085 dL_law_1086 ?_
  refine kVi (Z := wX Bm (cel Bc S2)) (rest := [.int r]) (hI.gm G hA hT) (hT.m hI.dd) (wX12_gust hI.hM Sm (xs (i + 1)) r S3 e2) cwL_119 (m_this hI.hM) KX12 ⟨Nat.le_of_ble_eq_true rfl, Nat.le_of_ble_eq_true rfl⟩ rfl hl.1 rfl (Nat.le_of_ble_eq_true rfl) hI.room dL_law_1087 (fun H locs hw => ?_)
  have hT := hT.m' hI.dd hw
  exact lv_icmp_eq (tgt := 1671) hx hb dL_law_1090 (by decide) (fun _ => K _ _ _ _ _ _ _ _ _ (hI.next hT eR) hl) (fun q => absurd rfl q)
set_option maxRecDepth 100000 in
set_option maxHeartbeats 4000000 in
theorem lc_waitFor (G : Cx p s m #[Value.ref b] c RL cL_law 4 Z0) (hA : pA Z0 s.heap.size = A0 s) (hX : va_X b L xs s s.heap) (hbl : b < s.heap.size) (hi : i + 8 ≤ L) (hL : L ≤ 4096) (hI : LI Z0 s Bc Bm Sc Sm H locs cells slots) (hl : lv_has ls 4 [(0, .ref b), (1, .ref (za Bc 0)), (2, .ref (za Bm 0)), (3, .int (nI i))]) (K : Kont p l e s m below meth c b i Z0 Q) : W p l e room_1 s m #[Value.ref b] below meth c H locs cells slots Q (F0 m 1095 ls []) := by
  obtain ⟨hx, hb, hml, hown, hts⟩ := id G.1
  have hT := hI.two
  obtain ⟨⟨r, S2⟩, ⟨r', S3⟩, e1, e2, er, eR⟩ := M_waitFor hI.rel (xs (i + 1)) (xs (i + 2)) (xs (i + 3)) (xs (i + 4))
  have er : r = r' := er
  have eR : (Rel (Sc 0)) S2 S3 := eR
  subst er
  refine lv_aload_n hx hb dL_law_1095 rfl (lv_at hl 1 rfl) ?_
  refine ga hx hb hX hbl hT.2.2 hi hL hl 1 (by decide) (by decide) dL_law_1096 dL_law_1097 dL_law_1098 dL_law_1099 dL_law_1100 ?_
  refine ga hx hb hX hbl hT.2.2 hi hL hl 2 (by decide) (by decide) dL_law_1101 dL_law_1102 dL_law_1103 dL_law_1104 dL_law_1105 ?_
  refine ga hx hb hX hbl hT.2.2 hi hL hl 3 (by decide) (by decide) dL_law_1106 dL_law_1107 dL_law_1108 dL_law_1109 dL_law_1110 ?_
  refine ga hx hb hX hbl hT.2.2 hi hL hl 4 (by decide) (by decide) dL_law_1111 dL_law_1112 dL_law_1113 dL_law_1114 dL_law_1115 ?_
  refine kVi (Z := wX Bc (cel Bm Sm)) (rest := []) (hI.gc G hA hT) hT.c (wX11_waitFor hI.hC Sc (xs (i + 1)) (xs (i + 2)) (xs (i + 3)) (xs (i + 4)) r S2 hI.h0 e1) cwL_120 hI.h0 KX11 ⟨Nat.le_of_ble_eq_true rfl, Nat.le_of_ble_eq_true rfl⟩ rfl hl.1 rfl (Nat.le_of_ble_eq_true rfl) hI.room dL_law_1116 (fun H locs hw => ?_)
  have hT := hT.c' hw
  refine lv_aload_n hx hb dL_law_1119 rfl (lv_at hl 2 rfl) ?_
  refine ga hx hb hX hbl hT.2.2 hi hL hl 1 (by decide) (by decide) dL_law_1120 dL_law_1121 dL_law_1122 dL_law_1123 dL_law_1124 ?_
  refine ga hx hb hX hbl hT.2.2 hi hL hl 2 (by decide) (by decide) dL_law_1125 dL_law_1126 dL_law_1127 dL_law_1128 dL_law_1129 ?_
  refine ga hx hb hX hbl hT.2.2 hi hL hl 3 (by decide) (by decide) dL_law_1130 dL_law_1131 dL_law_1132 dL_law_1133 dL_law_1134 ?_
  refine ga hx hb hX hbl hT.2.2 hi hL hl 4 (by decide) (by decide) dL_law_1135 dL_law_1136 dL_law_1137 dL_law_1138 dL_law_1139 ?_
  refine kVi (Z := wX Bm (cel Bc S2)) (rest := [.int r]) (hI.gm G hA hT) (hT.m hI.dd) (wX12_waitFor hI.hM Sm (xs (i + 1)) (xs (i + 2)) (xs (i + 3)) (xs (i + 4)) r S3 e2) cwL_123 (m_this hI.hM) KX12 ⟨Nat.le_of_ble_eq_true rfl, Nat.le_of_ble_eq_true rfl⟩ rfl hl.1 rfl (Nat.le_of_ble_eq_true rfl) hI.room dL_law_1140 (fun H locs hw => ?_)
  have hT := hT.m' hI.dd hw
  exact lv_icmp_eq (tgt := 1671) hx hb dL_law_1143 (by decide) (fun _ => K _ _ _ _ _ _ _ _ _ (hI.next hT eR) hl) (fun q => absurd rfl q)
set_option maxRecDepth 100000 in
set_option maxHeartbeats 4000000 in
theorem lc_leastForce (G : Cx p s m #[Value.ref b] c RL cL_law 4 Z0) (hA : pA Z0 s.heap.size = A0 s) (hX : va_X b L xs s s.heap) (hbl : b < s.heap.size) (hi : i + 8 ≤ L) (hL : L ≤ 4096) (hI : LI Z0 s Bc Bm Sc Sm H locs cells slots) (hl : lv_has ls 4 [(0, .ref b), (1, .ref (za Bc 0)), (2, .ref (za Bm 0)), (3, .int (nI i))]) (K : Kont p l e s m below meth c b i Z0 Q) : W p l e room_1 s m #[Value.ref b] below meth c H locs cells slots Q (F0 m 1148 ls []) := by
  obtain ⟨hx, hb, hml, hown, hts⟩ := id G.1
  have hT := hI.two
  obtain ⟨⟨r, S2⟩, ⟨r', S3⟩, e1, e2, er, eR⟩ := M_leastForce hI.rel (xs (i + 1)) (xs (i + 2)) (xs (i + 3)) (xs (i + 4))
  have er : r = r' := er
  have eR : (Rel (Sc 0)) S2 S3 := eR
  subst er
  refine lv_aload_n hx hb dL_law_1148 rfl (lv_at hl 1 rfl) ?_
  refine ga hx hb hX hbl hT.2.2 hi hL hl 1 (by decide) (by decide) dL_law_1149 dL_law_1150 dL_law_1151 dL_law_1152 dL_law_1153 ?_
  refine ga hx hb hX hbl hT.2.2 hi hL hl 2 (by decide) (by decide) dL_law_1154 dL_law_1155 dL_law_1156 dL_law_1157 dL_law_1158 ?_
  refine ga hx hb hX hbl hT.2.2 hi hL hl 3 (by decide) (by decide) dL_law_1159 dL_law_1160 dL_law_1161 dL_law_1162 dL_law_1163 ?_
  refine ga hx hb hX hbl hT.2.2 hi hL hl 4 (by decide) (by decide) dL_law_1164 dL_law_1165 dL_law_1166 dL_law_1167 dL_law_1168 ?_
  refine kVi (Z := wX Bc (cel Bm Sm)) (rest := []) (hI.gc G hA hT) hT.c (wX11_leastForce hI.hC Sc (xs (i + 1)) (xs (i + 2)) (xs (i + 3)) (xs (i + 4)) r S2 hI.h0 e1) cwL_124 hI.h0 KX11 ⟨Nat.le_of_ble_eq_true rfl, Nat.le_of_ble_eq_true rfl⟩ rfl hl.1 rfl (Nat.le_of_ble_eq_true rfl) hI.room dL_law_1169 (fun H locs hw => ?_)
  have hT := hT.c' hw
  refine lv_aload_n hx hb dL_law_1172 rfl (lv_at hl 2 rfl) ?_
  refine ga hx hb hX hbl hT.2.2 hi hL hl 1 (by decide) (by decide) dL_law_1173 dL_law_1174 dL_law_1175 dL_law_1176 dL_law_1177 ?_
  refine ga hx hb hX hbl hT.2.2 hi hL hl 2 (by decide) (by decide) dL_law_1178 dL_law_1179 dL_law_1180 dL_law_1181 dL_law_1182 ?_
  refine ga hx hb hX hbl hT.2.2 hi hL hl 3 (by decide) (by decide) dL_law_1183 dL_law_1184 dL_law_1185 dL_law_1186 dL_law_1187 ?_
  refine ga hx hb hX hbl hT.2.2 hi hL hl 4 (by decide) (by decide) dL_law_1188 dL_law_1189 dL_law_1190 dL_law_1191 dL_law_1192 ?_
  refine kVi (Z := wX Bm (cel Bc S2)) (rest := [.int r]) (hI.gm G hA hT) (hT.m hI.dd) (wX12_leastForce hI.hM Sm (xs (i + 1)) (xs (i + 2)) (xs (i + 3)) (xs (i + 4)) r S3 e2) cwL_127 (m_this hI.hM) KX12 ⟨Nat.le_of_ble_eq_true rfl, Nat.le_of_ble_eq_true rfl⟩ rfl hl.1 rfl (Nat.le_of_ble_eq_true rfl) hI.room dL_law_1193 (fun H locs hw => ?_)
  have hT := hT.m' hI.dd hw
  exact lv_icmp_eq (tgt := 1671) hx hb dL_law_1196 (by decide) (fun _ => K _ _ _ _ _ _ _ _ _ (hI.next hT eR) hl) (fun q => absurd rfl q)
set_option maxRecDepth 100000 in
set_option maxHeartbeats 4000000 in
theorem lc_better (G : Cx p s m #[Value.ref b] c RL cL_law 4 Z0) (hA : pA Z0 s.heap.size = A0 s) (hX : va_X b L xs s s.heap) (hbl : b < s.heap.size) (hi : i + 8 ≤ L) (hL : L ≤ 4096) (hI : LI Z0 s Bc Bm Sc Sm H locs cells slots) (hl : lv_has ls 4 [(0, .ref b), (1, .ref (za Bc 0)), (2, .ref (za Bm 0)), (3, .int (nI i))]) (K : Kont p l e s m below meth c b i Z0 Q) : W p l e room_1 s m #[Value.ref b] below meth c H locs cells slots Q (F0 m 1201 ls []) := by
  obtain ⟨hx, hb, hml, hown, hts⟩ := id G.1
  have hT := hI.two
  obtain ⟨⟨r, S2⟩, ⟨r', S3⟩, e1, e2, er, eR⟩ := M_better hI.rel (xs (i + 1)) (xs (i + 2)) (xs (i + 3)) (xs (i + 4))
  have er : r = r' := er
  have eR : (Rel (Sc 0)) S2 S3 := eR
  subst er
  refine lv_aload_n hx hb dL_law_1201 rfl (lv_at hl 1 rfl) ?_
  refine ga hx hb hX hbl hT.2.2 hi hL hl 1 (by decide) (by decide) dL_law_1202 dL_law_1203 dL_law_1204 dL_law_1205 dL_law_1206 ?_
  refine ga hx hb hX hbl hT.2.2 hi hL hl 2 (by decide) (by decide) dL_law_1207 dL_law_1208 dL_law_1209 dL_law_1210 dL_law_1211 ?_
  refine ga hx hb hX hbl hT.2.2 hi hL hl 3 (by decide) (by decide) dL_law_1212 dL_law_1213 dL_law_1214 dL_law_1215 dL_law_1216 ?_
  refine ga hx hb hX hbl hT.2.2 hi hL hl 4 (by decide) (by decide) dL_law_1217 dL_law_1218 dL_law_1219 dL_law_1220 dL_law_1221 ?_
  refine kVl (Z := wX Bc (cel Bm Sm)) (rest := []) (hI.gc G hA hT) hT.c (wX11_better hI.hC Sc (xs (i + 1)) (xs (i + 2)) (xs (i + 3)) (xs (i + 4)) r S2 hI.h0 e1) cwL_128 hI.h0 KX11 ⟨Nat.le_of_ble_eq_true rfl, Nat.le_of_ble_eq_true rfl⟩ rfl hl.1 rfl (Nat.le_of_ble_eq_true rfl) hI.room dL_law_1222 (fun H locs hw => ?_)
  have hT := hT.c' hw
  refine lv_aload_n hx hb dL_law_1225 rfl (lv_at hl 2 rfl) ?_
  refine ga hx hb hX hbl hT.2.2 hi hL hl 1 (by decide) (by decide) dL_law_1226 dL_law_1227 dL_law_1228 dL_law_1229 dL_law_1230 ?_
  refine ga hx hb hX hbl hT.2.2 hi hL hl 2 (by decide) (by decide) dL_law_1231 dL_law_1232 dL_law_1233 dL_law_1234 dL_law_1235 ?_
  refine ga hx hb hX hbl hT.2.2 hi hL hl 3 (by decide) (by decide) dL_law_1236 dL_law_1237 dL_law_1238 dL_law_1239 dL_law_1240 ?_
  refine ga hx hb hX hbl hT.2.2 hi hL hl 4 (by decide) (by decide) dL_law_1241 dL_law_1242 dL_law_1243 dL_law_1244 dL_law_1245 ?_
  refine kVl (Z := wX Bm (cel Bc S2)) (rest := [.long r]) (hI.gm G hA hT) (hT.m hI.dd) (wX12_better hI.hM Sm (xs (i + 1)) (xs (i + 2)) (xs (i + 3)) (xs (i + 4)) r S3 e2) cwL_132 (m_this hI.hM) KX12 ⟨Nat.le_of_ble_eq_true rfl, Nat.le_of_ble_eq_true rfl⟩ rfl hl.1 rfl (Nat.le_of_ble_eq_true rfl) hI.room dL_law_1246 (fun H locs hw => ?_)
  have hT := hT.m' hI.dd hw
  refine W.lcmp hx hb dL_law_1249 ?_
  exact lv_if_eq (tgt := 1671) hx hb dL_law_1250 (by decide) (fun _ => K _ _ _ _ _ _ _ _ _ (hI.next hT eR) hl) (fun q => absurd (lcmp_r r) q)
set_option maxRecDepth 100000 in
set_option maxHeartbeats 4000000 in
theorem lc_span (G : Cx p s m #[Value.ref b] c RL cL_law 4 Z0) (hA : pA Z0 s.heap.size = A0 s) (hX : va_X b L xs s s.heap) (hbl : b < s.heap.size) (hi : i + 8 ≤ L) (hL : L ≤ 4096) (hI : LI Z0 s Bc Bm Sc Sm H locs cells slots) (hl : lv_has ls 4 [(0, .ref b), (1, .ref (za Bc 0)), (2, .ref (za Bm 0)), (3, .int (nI i))]) (K : Kont p l e s m below meth c b i Z0 Q) : W p l e room_1 s m #[Value.ref b] below meth c H locs cells slots Q (F0 m 1255 ls []) := by
  obtain ⟨hx, hb, hml, hown, hts⟩ := id G.1
  have hT := hI.two
  obtain ⟨⟨r, S2⟩, ⟨r', S3⟩, e1, e2, er, eR⟩ := M_span hI.rel (xs (i + 1)) (xs (i + 2))
  have er : r = r' := er
  have eR : (Rel (Sc 0)) S2 S3 := eR
  subst er
  refine lv_aload_n hx hb dL_law_1255 rfl (lv_at hl 1 rfl) ?_
  refine ga hx hb hX hbl hT.2.2 hi hL hl 1 (by decide) (by decide) dL_law_1256 dL_law_1257 dL_law_1258 dL_law_1259 dL_law_1260 ?_
  refine ga hx hb hX hbl hT.2.2 hi hL hl 2 (by decide) (by decide) dL_law_1261 dL_law_1262 dL_law_1263 dL_law_1264 dL_law_1265 ?_
  refine kVi (Z := wX Bc (cel Bm Sm)) (rest := []) (hI.gc G hA hT) hT.c (wX11_span hI.hC Sc (xs (i + 1)) (xs (i + 2)) r S2 hI.h0 e1) cwL_133 hI.h0 KX11 ⟨Nat.le_of_ble_eq_true rfl, Nat.le_of_ble_eq_true rfl⟩ rfl hl.1 rfl (Nat.le_of_ble_eq_true rfl) hI.room dL_law_1266 (fun H locs hw => ?_)
  have hT := hT.c' hw
  refine lv_aload_n hx hb dL_law_1269 rfl (lv_at hl 2 rfl) ?_
  refine ga hx hb hX hbl hT.2.2 hi hL hl 1 (by decide) (by decide) dL_law_1270 dL_law_1271 dL_law_1272 dL_law_1273 dL_law_1274 ?_
  refine ga hx hb hX hbl hT.2.2 hi hL hl 2 (by decide) (by decide) dL_law_1275 dL_law_1276 dL_law_1277 dL_law_1278 dL_law_1279 ?_
  refine kVi (Z := wX Bm (cel Bc S2)) (rest := [.int r]) (hI.gm G hA hT) (hT.m hI.dd) (wX12_span hI.hM Sm (xs (i + 1)) (xs (i + 2)) r S3 e2) cwL_136 (m_this hI.hM) KX12 ⟨Nat.le_of_ble_eq_true rfl, Nat.le_of_ble_eq_true rfl⟩ rfl hl.1 rfl (Nat.le_of_ble_eq_true rfl) hI.room dL_law_1280 (fun H locs hw => ?_)
  have hT := hT.m' hI.dd hw
  exact lv_icmp_eq (tgt := 1671) hx hb dL_law_1283 (by decide) (fun _ => K _ _ _ _ _ _ _ _ _ (hI.next hT eR) hl) (fun q => absurd rfl q)
set_option maxRecDepth 100000 in
set_option maxHeartbeats 4000000 in
theorem lc_after (G : Cx p s m #[Value.ref b] c RL cL_law 4 Z0) (hA : pA Z0 s.heap.size = A0 s) (hX : va_X b L xs s s.heap) (hbl : b < s.heap.size) (hi : i + 8 ≤ L) (hL : L ≤ 4096) (hI : LI Z0 s Bc Bm Sc Sm H locs cells slots) (hl : lv_has ls 4 [(0, .ref b), (1, .ref (za Bc 0)), (2, .ref (za Bm 0)), (3, .int (nI i))]) (K : Kont p l e s m below meth c b i Z0 Q) : W p l e room_1 s m #[Value.ref b] below meth c H locs cells slots Q (F0 m 1341 ls []) := by
  obtain ⟨hx, hb, hml, hown, hts⟩ := id G.1
  have hT := hI.two
  obtain ⟨r, r', e1, e2, er⟩ := M_after hI.rel (xs (i + 1)) (xs (i + 2))
  have er : r = r' := er
  subst er
  refine lv_aload_n hx hb dL_law_1341 rfl (lv_at hl 1 rfl) ?_
  refine ga hx hb hX hbl hT.2.2 hi hL hl 1 (by decide) (by decide) dL_law_1342 dL_law_1343 dL_law_1344 dL_law_1345 dL_law_1346 ?_
  refine ga hx hb hX hbl hT.2.2 hi hL hl 2 (by decide) (by decide) dL_law_1347 dL_law_1348 dL_law_1349 dL_law_1350 dL_law_1351 ?_
  refine kVi (Z := wX Bc (cel Bm Sm)) (rest := []) (hI.gc G hA hT) hT.c (wX11_after hI.hC Sc (xs (i + 1)) (xs (i + 2)) r hI.h0 e1) cwL_141 hI.h0 KX11 ⟨Nat.le_of_ble_eq_true rfl, Nat.le_of_ble_eq_true rfl⟩ rfl hl.1 rfl (Nat.le_of_ble_eq_true rfl) hI.room dL_law_1352 (fun H locs hw => ?_)
  have hT := hT.c' hw
  refine lv_aload_n hx hb dL_law_1355 rfl (lv_at hl 2 rfl) ?_
  refine ga hx hb hX hbl hT.2.2 hi hL hl 1 (by decide) (by decide) dL_law_1356 dL_law_1357 dL_law_1358 dL_law_1359 dL_law_1360 ?_
  refine ga hx hb hX hbl hT.2.2 hi hL hl 2 (by decide) (by decide) dL_law_1361 dL_law_1362 dL_law_1363 dL_law_1364 dL_law_1365 ?_
  refine kVi (Z := wX Bm (cel Bc Sc)) (rest := [.int r]) (hI.gm G hA hT) (hT.m hI.dd) (wX12_after hI.hM Sm (xs (i + 1)) (xs (i + 2)) r e2) cwL_144 (m_this hI.hM) KX12 ⟨Nat.le_of_ble_eq_true rfl, Nat.le_of_ble_eq_true rfl⟩ rfl hl.1 rfl (Nat.le_of_ble_eq_true rfl) hI.room dL_law_1366 (fun H locs hw => ?_)
  have hT := hT.m' hI.dd hw
  exact lv_icmp_eq (tgt := 1671) hx hb dL_law_1369 (by decide) (fun _ => K _ _ _ _ _ _ _ _ _ (hI.same hT) hl) (fun q => absurd rfl q)
set_option maxRecDepth 100000 in
set_option maxHeartbeats 4000000 in
theorem lc_would (G : Cx p s m #[Value.ref b] c RL cL_law 4 Z0) (hA : pA Z0 s.heap.size = A0 s) (hX : va_X b L xs s s.heap) (hbl : b < s.heap.size) (hi : i + 8 ≤ L) (hL : L ≤ 4096) (hI : LI Z0 s Bc Bm Sc Sm H locs cells slots) (hl : lv_has ls 4 [(0, .ref b), (1, .ref (za Bc 0)), (2, .ref (za Bm 0)), (3, .int (nI i))]) (K : Kont p l e s m below meth c b i Z0 Q) : W p l e room_1 s m #[Value.ref b] below meth c H locs cells slots Q (F0 m 1374 ls []) := by
  obtain ⟨hx, hb, hml, hown, hts⟩ := id G.1
  have hT := hI.two
  obtain ⟨⟨r, S2⟩, ⟨r', S3⟩, e1, e2, er, eR⟩ := M_would hI.rel (xs (i + 1))
  have er : r = r' := er
  have eR : (Rel (Sc 0)) S2 S3 := eR
  subst er
  refine lv_aload_n hx hb dL_law_1374 rfl (lv_at hl 1 rfl) ?_
  refine ga hx hb hX hbl hT.2.2 hi hL hl 1 (by decide) (by decide) dL_law_1375 dL_law_1376 dL_law_1377 dL_law_1378 dL_law_1379 ?_
  refine kVi (Z := wX Bc (cel Bm Sm)) (rest := []) (hI.gc G hA hT) hT.c (wX11_would hI.hC Sc (xs (i + 1)) r S2 hI.h0 e1) cwL_145 hI.h0 KX11 ⟨Nat.le_of_ble_eq_true rfl, Nat.le_of_ble_eq_true rfl⟩ rfl hl.1 rfl (Nat.le_of_ble_eq_true rfl) hI.room dL_law_1380 (fun H locs hw => ?_)
  have hT := hT.c' hw
  refine lv_aload_n hx hb dL_law_1383 rfl (lv_at hl 2 rfl) ?_
  refine ga hx hb hX hbl hT.2.2 hi hL hl 1 (by decide) (by decide) dL_law_1384 dL_law_1385 dL_law_1386 dL_law_1387 dL_law_1388 ?_
  refine kVi (Z := wX Bm (cel Bc S2)) (rest := [.int r]) (hI.gm G hA hT) (hT.m hI.dd) (wX12_would hI.hM Sm (xs (i + 1)) r S3 e2) cwL_148 (m_this hI.hM) KX12 ⟨Nat.le_of_ble_eq_true rfl, Nat.le_of_ble_eq_true rfl⟩ rfl hl.1 rfl (Nat.le_of_ble_eq_true rfl) hI.room dL_law_1389 (fun H locs hw => ?_)
  have hT := hT.m' hI.dd hw
  exact lv_icmp_eq (tgt := 1671) hx hb dL_law_1392 (by decide) (fun _ => K _ _ _ _ _ _ _ _ _ (hI.next hT eR) hl) (fun q => absurd rfl q)
set_option maxRecDepth 100000 in
set_option maxHeartbeats 4000000 in
theorem lc_verdict (G : Cx p s m #[Value.ref b] c RL cL_law 4 Z0) (hA : pA Z0 s.heap.size = A0 s) (hX : va_X b L xs s s.heap) (hbl : b < s.heap.size) (hi : i + 8 ≤ L) (hL : L ≤ 4096) (hI : LI Z0 s Bc Bm Sc Sm H locs cells slots) (hl : lv_has ls 4 [(0, .ref b), (1, .ref (za Bc 0)), (2, .ref (za Bm 0)), (3, .int (nI i))]) (K : Kont p l e s m below meth c b i Z0 Q) : W p l e room_1 s m #[Value.ref b] below meth c H locs cells slots Q (F0 m 1397 ls []) := by
  obtain ⟨hx, hb, hml, hown, hts⟩ := id G.1
  have hT := hI.two
  obtain ⟨r, e1⟩ : ∃ r, F11_verdict Sc (xs (i + 1)) = r := ⟨_, rfl⟩
  have e2 : F12_verdict Sm (xs (i + 1)) = r := (M_verdict Sc Sm (xs (i + 1))).symm.trans e1
  refine lv_aload_n hx hb dL_law_1397 rfl (lv_at hl 1 rfl) ?_
  refine ga hx hb hX hbl hT.2.2 hi hL hl 1 (by decide) (by decide) dL_law_1398 dL_law_1399 dL_law_1400 dL_law_1401 dL_law_1402 ?_
  refine kVl (Z := wX Bc (cel Bm Sm)) (rest := []) (hI.gc G hA hT) hT.c (wX11_verdict hI.hC Sc (xs (i + 1)) r hI.h0 e1) cwL_149 hI.h0 KX11 ⟨Nat.le_of_ble_eq_true rfl, Nat.le_of_ble_eq_true rfl⟩ rfl hl.1 rfl (Nat.le_of_ble_eq_true rfl) hI.room dL_law_1403 (fun H locs hw => ?_)
  have hT := hT.c' hw
  refine lv_aload_n hx hb dL_law_1406 rfl (lv_at hl 2 rfl) ?_
  refine ga hx hb hX hbl hT.2.2 hi hL hl 1 (by decide) (by decide) dL_law_1407 dL_law_1408 dL_law_1409 dL_law_1410 dL_law_1411 ?_
  refine kVl (Z := wX Bm (cel Bc Sc)) (rest := [.long r]) (hI.gm G hA hT) (hT.m hI.dd) (wX12_verdict hI.hM Sm (xs (i + 1)) r e2) cwL_153 (m_this hI.hM) KX12 ⟨Nat.le_of_ble_eq_true rfl, Nat.le_of_ble_eq_true rfl⟩ rfl hl.1 rfl (Nat.le_of_ble_eq_true rfl) hI.room dL_law_1412 (fun H locs hw => ?_)
  have hT := hT.m' hI.dd hw
  refine W.lcmp hx hb dL_law_1415 ?_
  exact lv_if_eq (tgt := 1671) hx hb dL_law_1416 (by decide) (fun _ => K _ _ _ _ _ _ _ _ _ (hI.same hT) hl) (fun q => absurd (lcmp_r r) q)
set_option maxRecDepth 100000 in
set_option maxHeartbeats 4000000 in
theorem lc_path (G : Cx p s m #[Value.ref b] c RL cL_law 4 Z0) (hA : pA Z0 s.heap.size = A0 s) (hX : va_X b L xs s s.heap) (hbl : b < s.heap.size) (hi : i + 8 ≤ L) (hL : L ≤ 4096) (hI : LI Z0 s Bc Bm Sc Sm H locs cells slots) (hl : lv_has ls 4 [(0, .ref b), (1, .ref (za Bc 0)), (2, .ref (za Bm 0)), (3, .int (nI i))]) (K : Kont p l e s m below meth c b i Z0 Q) : W p l e room_1 s m #[Value.ref b] below meth c H locs cells slots Q (F0 m 1421 ls []) := by
  obtain ⟨hx, hb, hml, hown, hts⟩ := id G.1
  have hT := hI.two
  obtain ⟨⟨r, S2⟩, ⟨r', S3⟩, e1, e2, er, eR⟩ := M_path hI.rel (xs (i + 1)) (xs (i + 2)) (xs (i + 3))
  have er : r = r' := er
  have eR : (Rel (Sc 0)) S2 S3 := eR
  subst er
  refine lv_aload_n hx hb dL_law_1421 rfl (lv_at hl 1 rfl) ?_
  refine ga hx hb hX hbl hT.2.2 hi hL hl 1 (by decide) (by decide) dL_law_1422 dL_law_1423 dL_law_1424 dL_law_1425 dL_law_1426 ?_
  refine ga hx hb hX hbl hT.2.2 hi hL hl 2 (by decide) (by decide) dL_law_1427 dL_law_1428 dL_law_1429 dL_law_1430 dL_law_1431 ?_
  refine ga hx hb hX hbl hT.2.2 hi hL hl 3 (by decide) (by decide) dL_law_1432 dL_law_1433 dL_law_1434 dL_law_1435 dL_law_1436 ?_
  refine kVi (Z := wX Bc (cel Bm Sm)) (rest := []) (hI.gc G hA hT) hT.c (wX11_path hI.hC Sc (xs (i + 1)) (xs (i + 2)) (xs (i + 3)) r S2 hI.h0 e1) cwL_154 hI.h0 KX11 ⟨Nat.le_of_ble_eq_true rfl, Nat.le_of_ble_eq_true rfl⟩ rfl hl.1 rfl (Nat.le_of_ble_eq_true rfl) hI.room dL_law_1437 (fun H locs hw => ?_)
  have hT := hT.c' hw
  refine lv_aload_n hx hb dL_law_1440 rfl (lv_at hl 2 rfl) ?_
  refine ga hx hb hX hbl hT.2.2 hi hL hl 1 (by decide) (by decide) dL_law_1441 dL_law_1442 dL_law_1443 dL_law_1444 dL_law_1445 ?_
  refine ga hx hb hX hbl hT.2.2 hi hL hl 2 (by decide) (by decide) dL_law_1446 dL_law_1447 dL_law_1448 dL_law_1449 dL_law_1450 ?_
  refine ga hx hb hX hbl hT.2.2 hi hL hl 3 (by decide) (by decide) dL_law_1451 dL_law_1452 dL_law_1453 dL_law_1454 dL_law_1455 ?_
  refine kVi (Z := wX Bm (cel Bc S2)) (rest := [.int r]) (hI.gm G hA hT) (hT.m hI.dd) (wX12_path hI.hM Sm (xs (i + 1)) (xs (i + 2)) (xs (i + 3)) r S3 e2) cwL_157 (m_this hI.hM) KX12 ⟨Nat.le_of_ble_eq_true rfl, Nat.le_of_ble_eq_true rfl⟩ rfl hl.1 rfl (Nat.le_of_ble_eq_true rfl) hI.room dL_law_1456 (fun H locs hw => ?_)
  have hT := hT.m' hI.dd hw
  exact lv_icmp_eq (tgt := 1671) hx hb dL_law_1459 (by decide) (fun _ => K _ _ _ _ _ _ _ _ _ (hI.next hT eR) hl) (fun q => absurd rfl q)
set_option maxRecDepth 100000 in
set_option maxHeartbeats 4000000 in
theorem lc_place (G : Cx p s m #[Value.ref b] c RL cL_law 4 Z0) (hA : pA Z0 s.heap.size = A0 s) (hX : va_X b L xs s s.heap) (hbl : b < s.heap.size) (hi : i + 8 ≤ L) (hL : L ≤ 4096) (hI : LI Z0 s Bc Bm Sc Sm H locs cells slots) (hl : lv_has ls 4 [(0, .ref b), (1, .ref (za Bc 0)), (2, .ref (za Bm 0)), (3, .int (nI i))]) (K : Kont p l e s m below meth c b i Z0 Q) : W p l e room_1 s m #[Value.ref b] below meth c H locs cells slots Q (F0 m 1464 ls []) := by
  obtain ⟨hx, hb, hml, hown, hts⟩ := id G.1
  have hT := hI.two
  obtain ⟨r, r', e1, e2, er⟩ := M_place hI.rel (xs (i + 1))
  have er : r = r' := er
  subst er
  refine lv_aload_n hx hb dL_law_1464 rfl (lv_at hl 1 rfl) ?_
  refine ga hx hb hX hbl hT.2.2 hi hL hl 1 (by decide) (by decide) dL_law_1465 dL_law_1466 dL_law_1467 dL_law_1468 dL_law_1469 ?_
  refine kVi (Z := wX Bc (cel Bm Sm)) (rest := []) (hI.gc G hA hT) hT.c (wX11_place hI.hC Sc (xs (i + 1)) r hI.h0 e1) cwL_158 hI.h0 KX11 ⟨Nat.le_of_ble_eq_true rfl, Nat.le_of_ble_eq_true rfl⟩ rfl hl.1 rfl (Nat.le_of_ble_eq_true rfl) hI.room dL_law_1470 (fun H locs hw => ?_)
  have hT := hT.c' hw
  refine lv_aload_n hx hb dL_law_1473 rfl (lv_at hl 2 rfl) ?_
  refine ga hx hb hX hbl hT.2.2 hi hL hl 1 (by decide) (by decide) dL_law_1474 dL_law_1475 dL_law_1476 dL_law_1477 dL_law_1478 ?_
  refine kVi (Z := wX Bm (cel Bc Sc)) (rest := [.int r]) (hI.gm G hA hT) (hT.m hI.dd) (wX12_place hI.hM Sm (xs (i + 1)) r e2) cwL_161 (m_this hI.hM) KX12 ⟨Nat.le_of_ble_eq_true rfl, Nat.le_of_ble_eq_true rfl⟩ rfl hl.1 rfl (Nat.le_of_ble_eq_true rfl) hI.room dL_law_1479 (fun H locs hw => ?_)
  have hT := hT.m' hI.dd hw
  exact lv_icmp_eq (tgt := 1671) hx hb dL_law_1482 (by decide) (fun _ => K _ _ _ _ _ _ _ _ _ (hI.same hT) hl) (fun q => absurd rfl q)
set_option maxRecDepth 100000 in
set_option maxHeartbeats 4000000 in
theorem lc_record (G : Cx p s m #[Value.ref b] c RL cL_law 4 Z0) (hA : pA Z0 s.heap.size = A0 s) (hX : va_X b L xs s s.heap) (hbl : b < s.heap.size) (hi : i + 8 ≤ L) (hL : L ≤ 4096) (hI : LI Z0 s Bc Bm Sc Sm H locs cells slots) (hl : lv_has ls 4 [(0, .ref b), (1, .ref (za Bc 0)), (2, .ref (za Bm 0)), (3, .int (nI i))]) (K : Kont p l e s m below meth c b i Z0 Q) : W p l e room_1 s m #[Value.ref b] below meth c H locs cells slots Q (F0 m 1487 ls []) := by
  obtain ⟨hx, hb, hml, hown, hts⟩ := id G.1
  have hT := hI.two
  obtain ⟨r, r', e1, e2, er⟩ := M_record hI.rel (xs (i + 1))
  have er : r = r' := er
  subst er
  refine lv_aload_n hx hb dL_law_1487 rfl (lv_at hl 1 rfl) ?_
  refine ga hx hb hX hbl hT.2.2 hi hL hl 1 (by decide) (by decide) dL_law_1488 dL_law_1489 dL_law_1490 dL_law_1491 dL_law_1492 ?_
  refine kVi (Z := wX Bc (cel Bm Sm)) (rest := []) (hI.gc G hA hT) hT.c (wX11_record hI.hC Sc (xs (i + 1)) r hI.h0 e1) cwL_162 hI.h0 KX11 ⟨Nat.le_of_ble_eq_true rfl, Nat.le_of_ble_eq_true rfl⟩ rfl hl.1 rfl (Nat.le_of_ble_eq_true rfl) hI.room dL_law_1493 (fun H locs hw => ?_)
  have hT := hT.c' hw
  refine lv_aload_n hx hb dL_law_1496 rfl (lv_at hl 2 rfl) ?_
  refine ga hx hb hX hbl hT.2.2 hi hL hl 1 (by decide) (by decide) dL_law_1497 dL_law_1498 dL_law_1499 dL_law_1500 dL_law_1501 ?_
  refine kVi (Z := wX Bm (cel Bc Sc)) (rest := [.int r]) (hI.gm G hA hT) (hT.m hI.dd) (wX12_record hI.hM Sm (xs (i + 1)) r e2) cwL_165 (m_this hI.hM) KX12 ⟨Nat.le_of_ble_eq_true rfl, Nat.le_of_ble_eq_true rfl⟩ rfl hl.1 rfl (Nat.le_of_ble_eq_true rfl) hI.room dL_law_1502 (fun H locs hw => ?_)
  have hT := hT.m' hI.dd hw
  exact lv_icmp_eq (tgt := 1671) hx hb dL_law_1505 (by decide) (fun _ => K _ _ _ _ _ _ _ _ _ (hI.same hT) hl) (fun q => absurd rfl q)
set_option maxRecDepth 100000 in
set_option maxHeartbeats 4000000 in
theorem lc_needed (G : Cx p s m #[Value.ref b] c RL cL_law 4 Z0) (hA : pA Z0 s.heap.size = A0 s) (hX : va_X b L xs s s.heap) (hbl : b < s.heap.size) (hi : i + 8 ≤ L) (hL : L ≤ 4096) (hI : LI Z0 s Bc Bm Sc Sm H locs cells slots) (hl : lv_has ls 4 [(0, .ref b), (1, .ref (za Bc 0)), (2, .ref (za Bm 0)), (3, .int (nI i))]) (K : Kont p l e s m below meth c b i Z0 Q) : W p l e room_1 s m #[Value.ref b] below meth c H locs cells slots Q (F0 m 1510 ls []) := by
  obtain ⟨hx, hb, hml, hown, hts⟩ := id G.1
  have hT := hI.two
  obtain ⟨⟨r, S2⟩, ⟨r', S3⟩, e1, e2, er, eR⟩ := M_needed hI.rel (xs (i + 1)) (xs (i + 2)) (xs (i + 3)) (xs (i + 4))
  have er : r = r' := er
  have eR : (Rel (Sc 0)) S2 S3 := eR
  subst er
  refine lv_aload_n hx hb dL_law_1510 rfl (lv_at hl 1 rfl) ?_
  refine ga hx hb hX hbl hT.2.2 hi hL hl 1 (by decide) (by decide) dL_law_1511 dL_law_1512 dL_law_1513 dL_law_1514 dL_law_1515 ?_
  refine ga hx hb hX hbl hT.2.2 hi hL hl 2 (by decide) (by decide) dL_law_1516 dL_law_1517 dL_law_1518 dL_law_1519 dL_law_1520 ?_
  refine ga hx hb hX hbl hT.2.2 hi hL hl 3 (by decide) (by decide) dL_law_1521 dL_law_1522 dL_law_1523 dL_law_1524 dL_law_1525 ?_
  refine ga hx hb hX hbl hT.2.2 hi hL hl 4 (by decide) (by decide) dL_law_1526 dL_law_1527 dL_law_1528 dL_law_1529 dL_law_1530 ?_
  refine kVi (Z := wX Bc (cel Bm Sm)) (rest := []) (hI.gc G hA hT) hT.c (wX11_needed hI.hC Sc (xs (i + 1)) (xs (i + 2)) (xs (i + 3)) (xs (i + 4)) r S2 hI.h0 e1) cwL_166 hI.h0 KX11 ⟨Nat.le_of_ble_eq_true rfl, Nat.le_of_ble_eq_true rfl⟩ rfl hl.1 rfl (Nat.le_of_ble_eq_true rfl) hI.room dL_law_1531 (fun H locs hw => ?_)
  have hT := hT.c' hw
  refine lv_aload_n hx hb dL_law_1534 rfl (lv_at hl 2 rfl) ?_
  refine ga hx hb hX hbl hT.2.2 hi hL hl 1 (by decide) (by decide) dL_law_1535 dL_law_1536 dL_law_1537 dL_law_1538 dL_law_1539 ?_
  refine ga hx hb hX hbl hT.2.2 hi hL hl 2 (by decide) (by decide) dL_law_1540 dL_law_1541 dL_law_1542 dL_law_1543 dL_law_1544 ?_
  refine ga hx hb hX hbl hT.2.2 hi hL hl 3 (by decide) (by decide) dL_law_1545 dL_law_1546 dL_law_1547 dL_law_1548 dL_law_1549 ?_
  refine ga hx hb hX hbl hT.2.2 hi hL hl 4 (by decide) (by decide) dL_law_1550 dL_law_1551 dL_law_1552 dL_law_1553 dL_law_1554 ?_
  refine kVi (Z := wX Bm (cel Bc S2)) (rest := [.int r]) (hI.gm G hA hT) (hT.m hI.dd) (wX12_needed hI.hM Sm (xs (i + 1)) (xs (i + 2)) (xs (i + 3)) (xs (i + 4)) r S3 e2) cwL_169 (m_this hI.hM) KX12 ⟨Nat.le_of_ble_eq_true rfl, Nat.le_of_ble_eq_true rfl⟩ rfl hl.1 rfl (Nat.le_of_ble_eq_true rfl) hI.room dL_law_1555 (fun H locs hw => ?_)
  have hT := hT.m' hI.dd hw
  exact lv_icmp_eq (tgt := 1671) hx hb dL_law_1558 (by decide) (fun _ => K _ _ _ _ _ _ _ _ _ (hI.next hT eR) hl) (fun q => absurd rfl q)
set_option maxRecDepth 100000 in
set_option maxHeartbeats 4000000 in
theorem lc_rests (G : Cx p s m #[Value.ref b] c RL cL_law 4 Z0) (hA : pA Z0 s.heap.size = A0 s) (hX : va_X b L xs s s.heap) (hbl : b < s.heap.size) (hi : i + 8 ≤ L) (hL : L ≤ 4096) (hI : LI Z0 s Bc Bm Sc Sm H locs cells slots) (hl : lv_has ls 4 [(0, .ref b), (1, .ref (za Bc 0)), (2, .ref (za Bm 0)), (3, .int (nI i))]) (K : Kont p l e s m below meth c b i Z0 Q) : W p l e room_1 s m #[Value.ref b] below meth c H locs cells slots Q (F0 m 1563 ls []) := by
  obtain ⟨hx, hb, hml, hown, hts⟩ := id G.1
  have hT := hI.two
  obtain ⟨⟨r, S2⟩, ⟨r', S3⟩, e1, e2, er, eR⟩ := M_rests hI.rel (xs (i + 1)) (xs (i + 2))
  have er : r = r' := er
  have eR : (Rel (Sc 0)) S2 S3 := eR
  subst er
  refine lv_aload_n hx hb dL_law_1563 rfl (lv_at hl 1 rfl) ?_
  refine ga hx hb hX hbl hT.2.2 hi hL hl 1 (by decide) (by decide) dL_law_1564 dL_law_1565 dL_law_1566 dL_law_1567 dL_law_1568 ?_
  refine ga hx hb hX hbl hT.2.2 hi hL hl 2 (by decide) (by decide) dL_law_1569 dL_law_1570 dL_law_1571 dL_law_1572 dL_law_1573 ?_
  refine kVi (Z := wX Bc (cel Bm Sm)) (rest := []) (hI.gc G hA hT) hT.c (wX11_rests hI.hC Sc (xs (i + 1)) (xs (i + 2)) r S2 hI.h0 e1) cwL_170 hI.h0 KX11 ⟨Nat.le_of_ble_eq_true rfl, Nat.le_of_ble_eq_true rfl⟩ rfl hl.1 rfl (Nat.le_of_ble_eq_true rfl) hI.room dL_law_1574 (fun H locs hw => ?_)
  have hT := hT.c' hw
  refine lv_aload_n hx hb dL_law_1577 rfl (lv_at hl 2 rfl) ?_
  refine ga hx hb hX hbl hT.2.2 hi hL hl 1 (by decide) (by decide) dL_law_1578 dL_law_1579 dL_law_1580 dL_law_1581 dL_law_1582 ?_
  refine ga hx hb hX hbl hT.2.2 hi hL hl 2 (by decide) (by decide) dL_law_1583 dL_law_1584 dL_law_1585 dL_law_1586 dL_law_1587 ?_
  refine kVi (Z := wX Bm (cel Bc S2)) (rest := [.int r]) (hI.gm G hA hT) (hT.m hI.dd) (wX12_rests hI.hM Sm (xs (i + 1)) (xs (i + 2)) r S3 e2) cwL_173 (m_this hI.hM) KX12 ⟨Nat.le_of_ble_eq_true rfl, Nat.le_of_ble_eq_true rfl⟩ rfl hl.1 rfl (Nat.le_of_ble_eq_true rfl) hI.room dL_law_1588 (fun H locs hw => ?_)
  have hT := hT.m' hI.dd hw
  exact lv_icmp_eq (tgt := 1671) hx hb dL_law_1591 (by decide) (fun _ => K _ _ _ _ _ _ _ _ _ (hI.next hT eR) hl) (fun q => absurd rfl q)
set_option maxRecDepth 100000 in
set_option maxHeartbeats 4000000 in
theorem lc_undo (G : Cx p s m #[Value.ref b] c RL cL_law 4 Z0) (hA : pA Z0 s.heap.size = A0 s) (hX : va_X b L xs s s.heap) (hbl : b < s.heap.size) (hi : i + 8 ≤ L) (hL : L ≤ 4096) (hI : LI Z0 s Bc Bm Sc Sm H locs cells slots) (hl : lv_has ls 4 [(0, .ref b), (1, .ref (za Bc 0)), (2, .ref (za Bm 0)), (3, .int (nI i))]) (K : Kont p l e s m below meth c b i Z0 Q) : W p l e room_1 s m #[Value.ref b] below meth c H locs cells slots Q (F0 m 1596 ls []) := by
  obtain ⟨hx, hb, hml, hown, hts⟩ := id G.1
  have hT := hI.two
  obtain ⟨⟨r, S2⟩, ⟨r', S3⟩, e1, e2, er, eR⟩ := M_undo hI.rel
  have er : r = r' := er
  have eR : (Rel (Sc 0)) S2 S3 := eR
  subst er
  refine lv_aload_n hx hb dL_law_1596 rfl (lv_at hl 1 rfl) ?_
  refine kVi (Z := wX Bc (cel Bm Sm)) (rest := []) (hI.gc G hA hT) hT.c (wX11_undo hI.hC Sc r S2 hI.h0 e1) cwL_174 hI.h0 KX11 ⟨Nat.le_of_ble_eq_true rfl, Nat.le_of_ble_eq_true rfl⟩ rfl hl.1 rfl (Nat.le_of_ble_eq_true rfl) hI.room dL_law_1597 (fun H locs hw => ?_)
  have hT := hT.c' hw
  refine lv_aload_n hx hb dL_law_1600 rfl (lv_at hl 2 rfl) ?_
  refine kVi (Z := wX Bm (cel Bc S2)) (rest := [.int r]) (hI.gm G hA hT) (hT.m hI.dd) (wX12_undo hI.hM Sm r S3 e2) cwL_177 (m_this hI.hM) KX12 ⟨Nat.le_of_ble_eq_true rfl, Nat.le_of_ble_eq_true rfl⟩ rfl hl.1 rfl (Nat.le_of_ble_eq_true rfl) hI.room dL_law_1601 (fun H locs hw => ?_)
  have hT := hT.m' hI.dd hw
  exact lv_icmp_eq (tgt := 1671) hx hb dL_law_1604 (by decide) (fun _ => K _ _ _ _ _ _ _ _ _ (hI.next hT eR) hl) (fun q => absurd rfl q)
set_option maxRecDepth 100000 in
set_option maxHeartbeats 4000000 in
theorem lc_look (G : Cx p s m #[Value.ref b] c RL cL_law 4 Z0) (hA : pA Z0 s.heap.size = A0 s) (hX : va_X b L xs s s.heap) (hbl : b < s.heap.size) (hi : i + 8 ≤ L) (hL : L ≤ 4096) (hI : LI Z0 s Bc Bm Sc Sm H locs cells slots) (hl : lv_has ls 4 [(0, .ref b), (1, .ref (za Bc 0)), (2, .ref (za Bm 0)), (3, .int (nI i))]) (K : Kont p l e s m below meth c b i Z0 Q) : W p l e room_1 s m #[Value.ref b] below meth c H locs cells slots Q (F0 m 1648 ls []) := by
  obtain ⟨hx, hb, hml, hown, hts⟩ := id G.1
  have hT := hI.two
  obtain ⟨r, r', e1, e2, er⟩ := M_look hI.rel (xs (i + 1))
  have er : r = r' := er
  subst er
  refine lv_aload_n hx hb dL_law_1648 rfl (lv_at hl 1 rfl) ?_
  refine ga hx hb hX hbl hT.2.2 hi hL hl 1 (by decide) (by decide) dL_law_1649 dL_law_1650 dL_law_1651 dL_law_1652 dL_law_1653 ?_
  refine kVi (Z := wX Bc (cel Bm Sm)) (rest := []) (hI.gc G hA hT) hT.c (wX11_look hI.hC Sc (xs (i + 1)) r hI.h0 e1) cwL_183 hI.h0 KX11 ⟨Nat.le_of_ble_eq_true rfl, Nat.le_of_ble_eq_true rfl⟩ rfl hl.1 rfl (Nat.le_of_ble_eq_true rfl) hI.room dL_law_1654 (fun H locs hw => ?_)
  have hT := hT.c' hw
  refine lv_aload_n hx hb dL_law_1657 rfl (lv_at hl 2 rfl) ?_
  refine ga hx hb hX hbl hT.2.2 hi hL hl 1 (by decide) (by decide) dL_law_1658 dL_law_1659 dL_law_1660 dL_law_1661 dL_law_1662 ?_
  refine kVi (Z := wX Bm (cel Bc Sc)) (rest := [.int r]) (hI.gm G hA hT) (hT.m hI.dd) (wX12_look hI.hM Sm (xs (i + 1)) r e2) cwL_186 (m_this hI.hM) KX12 ⟨Nat.le_of_ble_eq_true rfl, Nat.le_of_ble_eq_true rfl⟩ rfl hl.1 rfl (Nat.le_of_ble_eq_true rfl) hI.room dL_law_1663 (fun H locs hw => ?_)
  have hT := hT.m' hI.dd hw
  exact lv_icmp_eq (tgt := 1671) hx hb dL_law_1666 (by decide) (fun _ => K _ _ _ _ _ _ _ _ _ (hI.same hT) hl) (fun q => absurd rfl q)
end LC

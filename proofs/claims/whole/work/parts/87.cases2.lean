theorem C_chance {S T : pS} (hT : T 1 = S 1) {a1 a2 a3 a4 a5 a6 : Int32} (h1 : ∃ r, F10_one S 1 a1 = some r) : (F11_chance S a1 a2 a3 a4 a5 a6 = some (-1, S) ∧ F11_chance T a1 a2 a3 a4 a5 a6 = some (-1, T)) ∨ ∃ o, F10_one S 1 a1 = some (some o) ∧ ¬ F11_within a3 0 6 = 0 ∧ ¬ F11_canThrow S 0 a4 a5 = 0 ∧ ¬ F11_within a6 0 1 = 0 := by
  obtain ⟨r, h1⟩ := h1
  have h2 : F10_one T 1 a1 = some r := by rw [one_row hT]; exact h1
  unfold F11_chance
  rw [h1, h2, bB_s, bB_s, cth_row hT]
  cases r with
  | none => exact Or.inl ⟨rfl, rfl⟩
  | some o =>
    rw [bO_1, bO_1]
    by_cases q1 : F11_within a3 0 6 = 0
    · rw [if_pos q1, if_pos q1]; exact Or.inl ⟨rfl, rfl⟩
    rw [if_neg q1, if_neg q1]
    by_cases q2 : F11_canThrow S 0 a4 a5 = 0
    · rw [if_pos q2, if_pos q2]; exact Or.inl ⟨rfl, rfl⟩
    rw [if_neg q2, if_neg q2]
    by_cases q3 : F11_within a6 0 1 = 0
    · rw [if_pos q3, if_pos q3]; exact Or.inl ⟨rfl, rfl⟩
    exact Or.inr ⟨o, rfl, q1, q2, q3⟩
theorem C_train {S T : pS} (hT : T 1 = S 1) {a1 a2 a3 a4 : Int32} (h1 : ∃ r, F10_one S 1 a1 = some r) : (F11_train S a1 a2 a3 a4 = some (-1, S) ∧ F11_train T a1 a2 a3 a4 = some (-1, T)) ∨ ∃ o, F10_one S 1 a1 = some (some o) ∧ ¬ F11_within a2 1 12 = 0 ∧ ¬ F11_within a3 0 1000 = 0 ∧ ¬ F11_within a4 0 1 = 0 := by
  obtain ⟨r, h1⟩ := h1
  have h2 : F10_one T 1 a1 = some r := by rw [one_row hT]; exact h1
  unfold F11_train
  rw [h1, h2, bB_s, bB_s]
  cases r with
  | none => exact Or.inl ⟨rfl, rfl⟩
  | some o =>
    rw [bO_1, bO_1]
    by_cases q1 : F11_within a2 1 12 = 0
    · rw [if_pos q1, if_pos q1]; exact Or.inl ⟨rfl, rfl⟩
    rw [if_neg q1, if_neg q1]
    by_cases q2 : F11_within a3 0 1000 = 0
    · rw [if_pos q2, if_pos q2]; exact Or.inl ⟨rfl, rfl⟩
    rw [if_neg q2, if_neg q2]
    by_cases q3 : F11_within a4 0 1 = 0
    · rw [if_pos q3, if_pos q3]; exact Or.inl ⟨rfl, rfl⟩
    exact Or.inr ⟨o, rfl, q1, q2, q3⟩
section LE
variable {p : Program} {l : Launch} {e : Env} {s : State} {m : MethodId} {below : List Frame} {meth : Method} {c : Code} {H : Heap} {locs : List Loc} {cells slots : Nat} {Q : State → Prop} {b L i : Nat} {xs : Nat → Int32} {ls : Array Slot} {Z0 Bc Bm : pZ} {Sc Sm : pS} {rest : List Value}
theorem is15 (hI : LI Z0 s Bc Bm Sc Sm H locs cells slots) {X : va_W} : isA (wX Bc X) K_Law 15 := ⟨by show zk Bc 15 = K_Law; rw [show zk Bc = kdC from hI.2.2.1.1]; rfl, (hI.2.2.2.2.1 15).mpr (Or.inl (by decide))⟩
set_option maxRecDepth 100000 in
set_option maxHeartbeats 4000000 in
theorem ch_C (G : Cx p s m #[Value.ref b] c RL cL_law 4 Z0) (hA : pA Z0 s.heap.size = A0 s) (hAO : va_AO RX8 s) (hAI : AOI s) (hI : LI Z0 s Bc Bm Sc Sm H locs cells slots) {u v w : Value} (hl : lv_has ls 4 [(0, .ref b), (1, u), (2, v), (3, w)]) (a1 a2 a3 a4 a5 a6 : Int32) (kk : AfterC p l e s m below meth c b Z0 Bc Bm Sm ls Q (F12_chance Sm a1 a2 a3 a4 a5 a6) 1032) : W p l e room_1 s m #[Value.ref b] below meth c H locs cells slots Q (F0 m 1029 ls [.int a6, .int a5, .int a4, .int a3, .int a2, .int a1, .ref (za Bc 0)]) := by
  by_cases h6 : Sc 0 6 = 119
  · obtain ⟨⟨r, S2⟩, ⟨r', S3⟩, e1, e2, er, eR⟩ := M_chance hI.rel h6 a1 a2 a3 a4 a5 a6
    have er : r = r' := er
    have eR : (Rel (Sc 0)) S2 S3 := eR
    subst er
    have h119 : isA (wX Bc (cel Bm Sm)) K_Chances 119 := ⟨by show zk Bc 119 = K_Chances; rw [show zk Bc = kdC from hI.2.2.1.1]; rfl, (hI.2.2.2.2.1 119).mpr (Or.inr (Or.inr (Or.inl ⟨by decide, by decide, h6⟩)))⟩
    refine kVi (Z := wX Bc (cel Bm Sm)) (rest := []) (hI.gc G hA hI.two) hI.two.c (wX11_chance hI.hC Sc a1 a2 a3 a4 a5 a6 r S2 hI.h0 h119 (is15 hI) e1) cwL_111 hI.h0 KX11 ⟨Nat.le_of_ble_eq_true rfl, Nat.le_of_ble_eq_true rfl⟩ rfl hl.1 rfl (Nat.le_of_ble_eq_true rfl) hI.room dL_law_1029 (fun H locs hw => ?_)
    exact kk Bc r S2 S3 _ _ _ _ (hI.two.c' hw) hI.dd e2 (fun H2 locs2 hT => hI.next hT eR) rfl hI.room
  · have hAR := Rel_A hI.rel
    have s06 : Sc 0 6 = 0 := hAR.1.resolve_right h6
    generalize eT : sU (sx Sc 119 12 rChances) 0 6 119 = T
    have tk : ∀ k, k ≠ 0 → ¬ (119 ≤ k ∧ k < 119 + 12) → T k = Sc k := fun k k1 k2 => by rw [← eT, sU_ne k1, sx_out k2]
    have t0 : ∀ j, j ≠ 6 → T 0 j = Sc 0 j := fun j hj => by rw [← eT, sU_n (fun q => hj q.2), sx_out (by decide)]
    have t6 : T 0 6 = 119 := by rw [← eT, sU_s]
    have hRT : (Rel (T 0)) T Sm := Rel_sw hI.rel (fun k k1 k2 => tk k k1 (by omega)) (t0 5 (by decide)) (by
      unfold AllR at hAR ⊢
      rw [t6, t0 7 (by decide), tk 131 (by decide) (by decide)]
      exact ⟨Or.inr rfl, hAR.2.1, fun _ _ _ => rfl⟩)
    obtain ⟨⟨r, S2⟩, ⟨r', S3⟩, e1, e2, er, eR⟩ := M_chance hRT t6 a1 a2 a3 a4 a5 a6
    have er : r = r' := er
    have eR : (Rel (T 0)) S2 S3 := eR
    subst er
    obtain ⟨nt, hnt, h15⟩ := Rel_nt hI.rel
    have hT1 : T 1 = Sc 1 := tk 1 (by decide) (by decide)
    rcases C_chance (a1 := a1) (a2 := a2) (a3 := a3) (a4 := a4) (a5 := a5) (a6 := a6) hT1 (one_any h15 hnt a1) with ⟨q1, q2⟩ | ⟨o, q1, q2, q3, q4⟩
    · rw [q2] at e1
      obtain ⟨f1, f2⟩ := Prod.mk.inj (Option.some.inj e1)
      subst f1
      subst f2
      have eR2 : (Rel (Sc 0)) Sc S3 := Rel_sw eR (fun k k1 k2 => (tk k k1 (by omega)).symm) (t0 5 (by decide)).symm hAR
      refine kVi (Z := wX Bc (cel Bm Sm)) (rest := []) (hI.gc G hA hI.two) hI.two.c (wX11_chance0 hI.hC Sc a1 a2 a3 a4 a5 a6 (-1) Sc hI.h0 (is15 hI) (by rw [s06]; rfl) q1) cwL_111 hI.h0 KX11 ⟨Nat.le_of_ble_eq_true rfl, Nat.le_of_ble_eq_true rfl⟩ rfl hl.1 rfl (Nat.le_of_ble_eq_true rfl) hI.room dL_law_1029 (fun H locs hw => ?_)
      exact kk Bc (-1) Sc S3 _ _ _ _ (hI.two.c' hw) hI.dd e2 (fun H2 locs2 hT => hI.next hT eR2) rfl hI.room
    · have hblk : ∀ k, 119 ≤ k → k < 119 + 12 → k ∉ zL Bc := fun k k1 k2 hk => by
        have q := (hI.2.2.2.2.1 k).mp hk
        unfold inZ at q
        rcases q with q | q | q | q
        · omega
        · omega
        · exact h6 q.2.2
        · omega
      have hm := LI_hm (k0 := 119) (n := 12) (X := cel Bm Sm) hI (fun q => absurd q (hblk 119 (by decide) (by decide))) (Or.inr (by decide)) (Or.inl s06) (Or.inr (by decide))
      have hg : ∀ j, 5 ≤ j → j < 8 → S2 0 j = T 0 j := (Rel_A eR).2.2
      have g5 : S2 0 5 = Sc 0 5 := by rw [hg 5 (by decide) (by decide), t0 5 (by decide)]
      have g6 : S2 0 6 = 119 := by rw [hg 6 (by decide) (by decide), t6]
      have g7 : S2 0 7 = Sc 0 7 := by rw [hg 7 (by decide) (by decide), t0 7 (by decide)]
      have hc := hI.2.2.2.2.2.2.2.2
      unfold rm5 at hc
      rw [s06, if_neg (show ¬ (0 : Int32) = 119 by decide), if_neg (show ¬ (0 : Int32) = 119 by decide)] at hc
      have hcs : cells + 12 ≤ 85930 ∧ slots + 7035 ≤ 8844460 := ⟨by omega, by omega⟩
      have q1' : F10_one T 1 a1 = F10_one Sc 1 a1 := one_row hT1 _
      have q3' : F11_canThrow T 0 a4 a5 = F11_canThrow Sc 0 a4 a5 := cth_row hT1 _ _ _
      subst eT
      refine kVn (Z := wX Bc (cel Bm Sm)) (rest := []) (hI.gc G hA hI.two) hAO hAI hI.two.c (wX11_chanceN hI.hC Sc a1 a2 a3 a4 a5 a6 r S2 o hI.h0 (is15 hI) (fun k hk q => hblk k q.1 q.2 hk) hm (by rw [s06]; rfl) q1 q1' q2 (by rw [q3']; exact q3) q3' q4 e1) cwL_111 hI.h0 KX11 ⟨Nat.le_of_ble_eq_true rfl, Nat.le_of_ble_eq_true rfl⟩ rfl hl.1 rfl (Nat.le_of_ble_eq_true rfl) hcs dL_law_1029 (fun H1 locs1 q b' h1 h2 h3 => ?_)
      have hac := hI.two.ac
      rw [hac] at h2 h3
      have hT2 : Two (zx Bc 119 12 q b') Bm s S2 Sm H1 locs1 := ⟨h1, h2, h3⟩
      refine kk (zx Bc 119 12 q b') r S2 S3 H1 locs1 (cells + 12) (slots + 7035) hT2 hI.dd e2 (fun H2 locs2 hT => ?_) (zx_out (by decide)) hcs
      refine LI_made hI (by decide +kernel) (fun k => ?_) hT (Rel_self eR) ?_ ?_
      · unfold inZ
        rw [g5, g6, g7, s06]
        constructor
        · rintro ((q | q | q | q) | q)
          · exact Or.inl q
          · exact Or.inr (Or.inl q)
          · exact absurd q.2.2 (by decide)
          · exact Or.inr (Or.inr (Or.inr q))
          · exact Or.inr (Or.inr (Or.inl ⟨q.1, q.2, rfl⟩))
        · rintro (q | q | q | q)
          · exact Or.inl (Or.inl q)
          · exact Or.inl (Or.inr (Or.inl q))
          · exact Or.inr ⟨q.1, q.2.1⟩
          · exact Or.inl (Or.inr (Or.inr (Or.inr q)))
      · unfold rm5
        rw [g5, g6, g7, if_pos (rfl : (119 : Int32) = 119)]
        omega
      · unfold rm5
        rw [g5, g6, g7, if_pos (rfl : (119 : Int32) = 119)]
        omega
set_option maxRecDepth 100000 in
set_option maxHeartbeats 4000000 in
theorem tr_C (G : Cx p s m #[Value.ref b] c RL cL_law 4 Z0) (hA : pA Z0 s.heap.size = A0 s) (hAO : va_AO RX8 s) (hAI : AOI s) (hI : LI Z0 s Bc Bm Sc Sm H locs cells slots) {u v w : Value} (hl : lv_has ls 4 [(0, .ref b), (1, u), (2, v), (3, w)]) (a1 a2 a3 a4 : Int32) (kk : AfterC p l e s m below meth c b Z0 Bc Bm Sm ls Q (F12_train Sm a1 a2 a3 a4) 1312) : W p l e room_1 s m #[Value.ref b] below meth c H locs cells slots Q (F0 m 1309 ls [.int a4, .int a3, .int a2, .int a1, .ref (za Bc 0)]) := by
  by_cases h7 : Sc 0 7 = 131
  · obtain ⟨⟨r, S2⟩, ⟨r', S3⟩, e1, e2, er, eR⟩ := M_train hI.rel h7 a1 a2 a3 a4
    have er : r = r' := er
    have eR : (Rel (Sc 0)) S2 S3 := eR
    subst er
    have hin : ∀ k, 131 ≤ k → k < 135 → k ∈ zL Bc := fun k k1 k2 => (hI.2.2.2.2.1 k).mpr (Or.inr (Or.inr (Or.inr ⟨k1, k2, h7⟩)))
    have h131 : isA (wX Bc (cel Bm Sm)) K_Training 131 := ⟨by show zk Bc 131 = K_Training; rw [show zk Bc = kdC from hI.2.2.1.1]; rfl, hin 131 (by decide) (by decide)⟩
    have h132 : isA (wX Bc (cel Bm Sm)) K_J6300 132 := ⟨by show zk Bc 132 = K_J6300; rw [show zk Bc = kdC from hI.2.2.1.1]; rfl, hin 132 (by decide) (by decide)⟩
    have h133 : isA (wX Bc (cel Bm Sm)) K_J6300 133 := ⟨by show zk Bc 133 = K_J6300; rw [show zk Bc = kdC from hI.2.2.1.1]; rfl, hin 133 (by decide) (by decide)⟩
    refine kVi (Z := wX Bc (cel Bm Sm)) (rest := []) (hI.gc G hA hI.two) hI.two.c (wX11_train hI.hC Sc a1 a2 a3 a4 r S2 hI.h0 h131 h132 h133 e1) cwL_137 hI.h0 KX11 ⟨Nat.le_of_ble_eq_true rfl, Nat.le_of_ble_eq_true rfl⟩ rfl hl.1 rfl (Nat.le_of_ble_eq_true rfl) hI.room dL_law_1309 (fun H locs hw => ?_)
    exact kk Bc r S2 S3 _ _ _ _ (hI.two.c' hw) hI.dd e2 (fun H2 locs2 hT => hI.next hT eR) rfl hI.room
  · have hblk : ∀ k, 131 ≤ k → k < 131 + 4 → k ∉ zL Bc := fun k k1 k2 hk => by
      have q := (hI.2.2.2.2.1 k).mp hk
      unfold inZ at q
      rcases q with q | q | q | q
      · omega
      · omega
      · omega
      · exact h7 q.2.2
    have s07' : Sc 0 7 = 0 := by
      rcases (Rel_A hI.rel).2.1 with q | q
      · exact q
      · exact absurd q.1 h7
    obtain ⟨S', hI', hsame, h119⟩ := LI_fix (k0 := 131) (n := 4) hI hblk (by decide)
    have s07 : S' 0 7 = 0 := by rw [hsame 0 (by decide)]; exact s07'
    clear hI
    have hAR := Rel_A hI'.rel
    generalize eT : sU (sx S' 131 4 rTraining) 0 7 131 = T
    have tk : ∀ k, k ≠ 0 → ¬ (131 ≤ k ∧ k < 131 + 4) → T k = S' k := fun k k1 k2 => by rw [← eT, sU_ne k1, sx_out k2]
    have t0 : ∀ j, j ≠ 7 → T 0 j = S' 0 j := fun j hj => by rw [← eT, sU_n (fun q => hj q.2), sx_out (by decide)]
    have t7 : T 0 7 = 131 := by rw [← eT, sU_s]
    have t131 : T 131 2 = 132 ∧ T 131 3 = 133 := by
      rw [← eT]
      exact ⟨rfl, rfl⟩
    have hRT : (Rel (T 0)) T Sm := Rel_sw hI'.rel (fun k k1 k2 => tk k k1 (by omega)) (t0 5 (by decide)) (by
      unfold AllR at hAR ⊢
      rw [t7, t0 6 (by decide)]
      exact ⟨hAR.1, Or.inr ⟨rfl, Or.inl t131⟩, fun _ _ _ => rfl⟩)
    obtain ⟨⟨r, S2⟩, ⟨r', S3⟩, e1, e2, er, eR⟩ := M_train hRT t7 a1 a2 a3 a4
    have er : r = r' := er
    have eR : (Rel (T 0)) S2 S3 := eR
    subst er
    obtain ⟨nt, hnt, h15⟩ := Rel_nt hI'.rel
    have hT1 : T 1 = S' 1 := tk 1 (by decide) (by decide)
    rcases C_train (a1 := a1) (a2 := a2) (a3 := a3) (a4 := a4) hT1 (one_any h15 hnt a1) with ⟨q1, q2⟩ | ⟨o, q1, q2, q3, q4⟩
    · rw [q2] at e1
      obtain ⟨f1, f2⟩ := Prod.mk.inj (Option.some.inj e1)
      subst f1
      subst f2
      have eR2 : (Rel (S' 0)) S' S3 := Rel_sw eR (fun k k1 k2 => (tk k k1 (by omega)).symm) (t0 5 (by decide)).symm hAR
      refine kVi (Z := wX Bc (cel Bm Sm)) (rest := []) (hI'.gc G hA hI'.two) hI'.two.c (wX11_train0 hI'.hC S' a1 a2 a3 a4 (-1) S' hI'.h0 (by rw [s07]; rfl) q1) cwL_137 hI'.h0 KX11 ⟨Nat.le_of_ble_eq_true rfl, Nat.le_of_ble_eq_true rfl⟩ rfl hl.1 rfl (Nat.le_of_ble_eq_true rfl) hI'.room dL_law_1309 (fun H locs hw => ?_)
      exact kk Bc (-1) S' S3 _ _ _ _ (hI'.two.c' hw) hI'.dd e2 (fun H2 locs2 hT => hI'.next hT eR2) rfl hI'.room
    · have hm := LI_hm (k0 := 131) (n := 4) (X := cel Bm Sm) hI' (fun _ => h119) (Or.inr (by decide)) (Or.inr (by decide)) (Or.inl s07)
      have hg : ∀ j, 5 ≤ j → j < 8 → S2 0 j = T 0 j := (Rel_A eR).2.2
      have g5 : S2 0 5 = S' 0 5 := by rw [hg 5 (by decide) (by decide), t0 5 (by decide)]
      have g6 : S2 0 6 = S' 0 6 := by rw [hg 6 (by decide) (by decide), t0 6 (by decide)]
      have g7 : S2 0 7 = 131 := by rw [hg 7 (by decide) (by decide), t7]
      have hc := hI'.2.2.2.2.2.2.2.2
      unfold rm5 at hc
      rw [s07, if_neg (show ¬ (0 : Int32) = 131 by decide), if_neg (show ¬ (0 : Int32) = 131 by decide)] at hc
      have hcs : cells + 4 ≤ 85930 ∧ slots + 12609 ≤ 8844460 := ⟨by omega, by omega⟩
      have q1' : F10_one T 1 a1 = F10_one S' 1 a1 := one_row hT1 _
      subst eT
      refine kVn (Z := wX Bc (cel Bm Sm)) (rest := []) (hI'.gc G hA hI'.two) hAO hAI hI'.two.c (wX11_trainN hI'.hC S' a1 a2 a3 a4 r S2 o hI'.h0 (fun k hk q => hblk k q.1 q.2 hk) hm (by rw [s07]; rfl) q1 q1' q2 q3 q4 e1) cwL_137 hI'.h0 KX11 ⟨Nat.le_of_ble_eq_true rfl, Nat.le_of_ble_eq_true rfl⟩ rfl hl.1 rfl (Nat.le_of_ble_eq_true rfl) hcs dL_law_1309 (fun H1 locs1 q b' h1 h2 h3 => ?_)
      have hac := hI'.two.ac
      rw [hac] at h2 h3
      have hT2 : Two (zx Bc 131 4 q b') Bm s S2 Sm H1 locs1 := ⟨h1, h2, h3⟩
      refine kk (zx Bc 131 4 q b') r S2 S3 H1 locs1 (cells + 4) (slots + 12609) hT2 hI'.dd e2 (fun H2 locs2 hT => ?_) (zx_out (by decide)) hcs
      refine LI_made hI' (by decide +kernel) (fun k => ?_) hT (Rel_self eR) ?_ ?_
      · unfold inZ
        rw [g5, g6, g7, s07]
        constructor
        · rintro ((q | q | q | q) | q)
          · exact Or.inl q
          · exact Or.inr (Or.inl q)
          · exact Or.inr (Or.inr (Or.inl q))
          · exact absurd q.2.2 (by decide)
          · exact Or.inr (Or.inr (Or.inr ⟨q.1, q.2, rfl⟩))
        · rintro (q | q | q | q)
          · exact Or.inl (Or.inl q)
          · exact Or.inl (Or.inr (Or.inl q))
          · exact Or.inl (Or.inr (Or.inr (Or.inl q)))
          · exact Or.inr ⟨q.1, q.2.1⟩
      · unfold rm5
        rw [g5, g6, g7, if_pos (rfl : (131 : Int32) = 131)]
        omega
      · unfold rm5
        rw [g5, g6, g7, if_pos (rfl : (131 : Int32) = 131)]
        omega
end LE

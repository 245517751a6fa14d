section LD
variable {p : Program} {l : Launch} {e : Env} {s : State} {m : MethodId} {below : List Frame} {meth : Method} {c : Code} {H : Heap} {locs : List Loc} {cells slots : Nat} {Q : State → Prop} {b L i : Nat} {xs : Nat → Int32} {ls : Array Slot} {Z0 Bc Bm : pZ} {Sc Sm : pS} {rest : List Value}
/-- behind the class' call, ahead of the reference's -/
def AfterC (p : Program) (l : Launch) (e : Env) (s : State) (m : MethodId) (below : List Frame) (meth : Method) (c : Code) (b : Nat) (Z0 Bc Bm : pZ) (Sm : pS) (ls : Array Slot) (Q : State → Prop) (f : Option (Int32 × pS)) (pc : Nat) : Prop := ∀ (Bc' : pZ) (r : Int32) (S2 S3 : pS) (H : Heap) (locs : List Loc) (cells slots : Nat), Two Bc' Bm s S2 Sm H locs → zD Bm = zD Bc' → f = some (r, S3) → (∀ (H2 : Heap) (locs2 : List Loc), Two Bc' Bm s S2 S3 H2 locs2 → LI Z0 s Bc' Bm S2 S3 H2 locs2 cells slots) → za Bc' 0 = za Bc 0 → (cells + 0 ≤ room_1.cells ∧ slots + 0 ≤ room_1.slots) → W p l e room_1 s m #[Value.ref b] below meth c H locs cells slots Q (F0 m pc ls [.int r])
set_option maxRecDepth 100000 in
set_option maxHeartbeats 4000000 in
theorem im_C (G : Cx p s m #[Value.ref b] c RL cL_law 4 Z0) (hA : pA Z0 s.heap.size = A0 s) (hAO : va_AO RX8 s) (hAI : AOI s) (hI : LI Z0 s Bc Bm Sc Sm H locs cells slots) {u v w : Value} (hl : lv_has ls 4 [(0, .ref b), (1, u), (2, v), (3, w)]) (a1 : Int32) (kk : AfterC p l e s m below meth c b Z0 Bc Bm Sm ls Q (F12_image Sm a1) 1626) : W p l e room_1 s m #[Value.ref b] below meth c H locs cells slots Q (F0 m 1623 ls [.int a1, .ref (za Bc 0)]) := by
  by_cases h5 : Sc 0 5 = 75
  · obtain ⟨⟨r, S2⟩, ⟨r', S3⟩, e1, e2, er, eR⟩ := M_imageK (a1 := a1) hI.rel h5
    have er : r = r' := er
    have eR : (Rel (Sc 0)) S2 S3 := eR
    subst er
    have h75 : isA (wX Bc (cel Bm Sm)) K_World 75 := ⟨by show zk Bc 75 = K_World; rw [show zk Bc = kdC from hI.2.2.1.1]; rfl, (hI.2.2.2.2.1 75).mpr (Or.inr (Or.inl ⟨by decide, by decide, h5⟩))⟩
    refine kVi (Z := wX Bc (cel Bm Sm)) (rest := []) (hI.gc G hA hI.two) hI.two.c (wX11_image hI.hC Sc a1 r S2 hI.h0 h75 e1) cwL_178 hI.h0 KX11 ⟨Nat.le_of_ble_eq_true rfl, Nat.le_of_ble_eq_true rfl⟩ rfl hl.1 rfl (Nat.le_of_ble_eq_true rfl) hI.room dL_law_1623 (fun H locs hw => ?_)
    exact kk Bc r S2 S3 _ _ _ _ (hI.two.c' hw) hI.dd e2 (fun H2 locs2 hT => hI.next hT eR) rfl hI.room
  · have h5' : Sc 0 5 = 0 := (M_image0 hI.rel h5).1
    by_cases ha : a1 = 0
    · subst ha
      refine kVi (Z := wX Bc (cel Bm Sm)) (rest := []) (hI.gc G hA hI.two) hI.two.c (wX11_image0 hI.hC Sc hI.h0 (by rw [h5']; rfl)) cwL_178 hI.h0 KX11 ⟨Nat.le_of_ble_eq_true rfl, Nat.le_of_ble_eq_true rfl⟩ rfl hl.1 rfl (Nat.le_of_ble_eq_true rfl) hI.room dL_law_1623 (fun H locs hw => ?_)
      exact kk Bc 0 Sc Sm _ _ _ _ (hI.two.c' hw) hI.dd (M_image0 hI.rel h5).2 (fun H2 locs2 hT => hI.same hT) rfl hI.room
    · have hblk : ∀ k, 75 ≤ k → k < 75 + 44 → k ∉ zL Bc := fun k k1 k2 hk => by
        have q := (hI.2.2.2.2.1 k).mp hk
        unfold inZ at q
        rcases q with q | q | q | q
        · omega
        · exact h5 q.2.2
        · omega
        · omega
      obtain ⟨S', hI', hsame, h119⟩ := LI_fix (k0 := 75) (n := 44) hI hblk (by decide)
      have s05 : S' 0 5 = 0 := by rw [hsame 0 (by decide)]; exact h5'
      have hm := LI_hm (k0 := 75) (n := 44) (X := cel Bm Sm) hI' (fun _ => h119) (Or.inl s05) (Or.inr (by decide)) (Or.inr (by decide))
      have hR' := hI'.rel
      obtain ⟨ns, nt, nl, ng, rd, tn, nu, la, np, h1, h2, h3, h4, h5q, h6, h7⟩ := hR'
      generalize eT : sU (sx S' 75 44 rWorld) 0 5 75 = T
      have tk : ∀ k, k ≠ 0 → ¬ (75 ≤ k ∧ k < 75 + 44) → T k = S' k := fun k k1 k2 => by rw [← eT, sU_ne k1, sx_out k2]
      have t0 : ∀ j, j ≠ 5 → T 0 j = S' 0 j := fun j hj => by rw [← eT, sU_n (fun q => hj q.2), sx_out (by decide)]
      have t5 : T 0 5 = 75 := by rw [← eT, sU_s]
      obtain ⟨⟨r, S2⟩, ⟨r', S3⟩, e1, e2, er, eR⟩ := M_imageT (gG := T 0) (Sc := T) (Sm := Sm) (a1 := a1) (RW_fr h1 (fun k b1 b2 _ _ _ => tk k (by omega) (by omega)) rfl) (by
        unfold PastR at h2 ⊢
        rw [tk 65 (by decide) (by decide)]
        obtain ⟨a1, a2, a3, a4, a5, a6⟩ := h2
        refine ⟨a1, a2, a3, a4, a5, fun j hj => ?_⟩
        rw [tk (67 + (la + 8 - j) % 8) (by omega) (by omega)]
        exact a6 j hj) (by
        unfold TapeR at h3 ⊢
        rw [tk 46 (by decide) (by decide), tk 47 (by decide) (by decide)]
        exact h3) (by
        unfold FaultR at h4 ⊢
        rw [tk 45 (by decide) (by decide)]
        exact h4) h6 (by
        unfold AllR at h7 ⊢
        rw [t0 6 (by decide), t0 7 (by decide), tk 131 (by decide) (by decide)]
        exact ⟨h7.1, h7.2.1, fun _ _ _ => rfl⟩) t5 ha
      have er : r = r' := er
      have eR : (Rel (T 0)) S2 S3 := eR
      subst er
      have hg : ∀ j, 5 ≤ j → j < 8 → S2 0 j = T 0 j := (Rel_A eR).2.2
      have g5 : S2 0 5 = 75 := by rw [hg 5 (by decide) (by decide), t5]
      have g6 : S2 0 6 = S' 0 6 := by rw [hg 6 (by decide) (by decide), t0 6 (by decide)]
      have g7 : S2 0 7 = S' 0 7 := by rw [hg 7 (by decide) (by decide), t0 7 (by decide)]
      have hc := hI'.2.2.2.2.2.2.2.2
      unfold rm5 at hc
      rw [s05, if_neg (show ¬ (0 : Int32) = 75 by decide), if_neg (show ¬ (0 : Int32) = 75 by decide)] at hc
      have hcs : cells + 44 ≤ 85930 ∧ slots + 3050 ≤ 8844460 := ⟨by omega, by omega⟩
      subst eT
      refine kVn (Z := wX Bc (cel Bm Sm)) (rest := []) (hI'.gc G hA hI'.two) hAO hAI hI'.two.c (wX11_imageN hI'.hC S' a1 r S2 hI'.h0 (fun k hk q => hblk k q.1 q.2 hk) hm ha (by rw [s05]; rfl) e1) cwL_178 hI'.h0 KX11 ⟨Nat.le_of_ble_eq_true rfl, Nat.le_of_ble_eq_true rfl⟩ rfl hl.1 rfl (Nat.le_of_ble_eq_true rfl) hcs dL_law_1623 (fun H1 locs1 q b' h1 h2 h3 => ?_)
      have hac := hI'.two.ac
      rw [hac] at h2 h3
      have hT2 : Two (zx Bc 75 44 q b') Bm s S2 Sm H1 locs1 := ⟨h1, h2, h3⟩
      refine kk (zx Bc 75 44 q b') r S2 S3 H1 locs1 (cells + 44) (slots + 3050) hT2 hI'.dd e2 (fun H2 locs2 hT => ?_) (zx_out (by decide)) hcs
      refine LI_made hI' (by decide +kernel) (fun k => ?_) hT (Rel_self eR) ?_ ?_
      · unfold inZ
        rw [g5, g6, g7, s05]
        constructor
        · rintro ((q | q | q | q) | q)
          · exact Or.inl q
          · exact absurd q.2.2 (by decide)
          · exact Or.inr (Or.inr (Or.inl q))
          · exact Or.inr (Or.inr (Or.inr q))
          · exact Or.inr (Or.inl ⟨q.1, q.2, rfl⟩)
        · rintro (q | q | q | q)
          · exact Or.inl (Or.inl q)
          · exact Or.inr ⟨q.1, q.2.1⟩
          · exact Or.inl (Or.inr (Or.inr (Or.inl q)))
          · exact Or.inl (Or.inr (Or.inr (Or.inr q)))
      · unfold rm5
        rw [g5, g6, g7, if_pos rfl]
        omega
      · unfold rm5
        rw [g5, g6, g7, if_pos rfl]
        omega
end LD

/-! what holds at the head of the law's loop -/
theorem Rel_sw {gG gH : Nat → Int32} {Sc Sc' Sm : pS} (h : (Rel gG) Sc Sm) (hc : ∀ k, k ≠ 0 → k < 119 → Sc' k = Sc k) (h5 : Sc' 0 5 = Sc 0 5) (hA : AllR gH Sc') : (Rel gH) Sc' Sm := by
  obtain ⟨ns, nt, nl, ng, rd, tn, nu, la, np, h1, h2, h3, h4, h5', h6, h7⟩ := h
  refine ⟨ns, nt, nl, ng, rd, tn, nu, la, np, RW_fr h1 (fun k a1 a2 a3 a4 a5 => hc k (by omega) (by omega)) rfl, ?_, ?_, ?_, ?_, h6, hA⟩
  · unfold PastR at h2 ⊢
    rw [hc 65 (by decide) (by decide)]
    obtain ⟨a1, a2, a3, a4, a5, a6⟩ := h2
    refine ⟨a1, a2, a3, a4, a5, fun j hj => ?_⟩
    rw [hc (67 + (la + 8 - j) % 8) (by omega) (by omega)]
    exact a6 j hj
  · unfold TapeR at h3 ⊢
    rw [hc 46 (by decide) (by decide), hc 47 (by decide) (by decide)]
    exact h3
  · unfold FaultR at h4 ⊢
    rw [hc 45 (by decide) (by decide)]
    exact h4
  · unfold ImgR at h5' ⊢
    rw [h5]
    rcases h5' with q | ⟨a1, a2, ns, nt, nl, ng, rd, tn, q⟩
    · exact Or.inl q
    · exact Or.inr ⟨a1, a2, ns, nt, nl, ng, rd, tn, RW_fr q (fun k a1 a2 a3 a4 a5 => hc k (by omega) (by omega)) rfl⟩
theorem Rel_A {gG : Nat → Int32} {Sc Sm : pS} (h : (Rel gG) Sc Sm) : AllR gG Sc := by
  obtain ⟨ns, nt, nl, ng, rd, tn, nu, la, np, h1, h2, h3, h4, h5', h6, h7⟩ := h
  exact h7
theorem Rel_self {gG : Nat → Int32} {Sc Sm : pS} (h : (Rel gG) Sc Sm) : (Rel (Sc 0)) Sc Sm := by
  have q := Rel_A h
  exact Rel_sw h (fun _ _ _ => rfl) rfl ⟨q.1, q.2.1, fun _ _ _ => rfl⟩
theorem Rel_nt {gG : Nat → Int32} {Sc Sm : pS} (h : (Rel gG) Sc Sm) : ∃ nt, nt ≤ 8 ∧ Sc 1 5 = nI nt := by
  obtain ⟨ns, nt, nl, ng, rd, tn, hV, hW, hT, hB, c4, c5, c6, c7, hE⟩ := Rel_V h
  exact ⟨nt, hW.2.1, c5⟩
def inZ (Sc : pS) (k : Nat) : Prop := k < 75 ∨ (75 ≤ k ∧ k < 119 ∧ Sc 0 5 = 75) ∨ (119 ≤ k ∧ k < 131 ∧ Sc 0 6 = 119) ∨ (131 ≤ k ∧ k < 135 ∧ Sc 0 7 = 131)
def rm5 (Sc : pS) (x5 x6 x7 : Nat) : Nat := (if Sc 0 5 = 75 then 0 else x5) + (if Sc 0 6 = 119 then 0 else x6) + (if Sc 0 7 = 131 then 0 else x7)
def LI (Z0 : pZ) (s : State) (Bc Bm : pZ) (Sc Sm : pS) (H : Heap) (locs : List Loc) (cells slots : Nat) : Prop := SB Z0 Bc ∧ SB Z0 Bm ∧ CC Bc ∧ CM Bm ∧ (∀ k, k ∈ zL Bc ↔ inZ Sc k) ∧ (∀ k, k ∉ zL Bc → za Bc k = 0) ∧ Two Bc Bm s Sc Sm H locs ∧ (Rel (Sc 0)) Sc Sm ∧ cells + rm5 Sc 44 12 4 ≤ 200 ∧ slots + rm5 Sc 3050 7035 12609 ≤ 400000
section LI
variable {Z0 : pZ} {s : State} {Bc Bm : pZ} {Sc Sm S2 S3 : pS} {H H2 : Heap} {locs locs2 : List Loc} {cells slots : Nat}
theorem LI.next (h : LI Z0 s Bc Bm Sc Sm H locs cells slots) (hT : Two Bc Bm s S2 S3 H2 locs2) (hR : (Rel (Sc 0)) S2 S3) : LI Z0 s Bc Bm S2 S3 H2 locs2 cells slots := by
  obtain ⟨h1, h2, h3, h4, h5, h6, h7, h8, h9, h10⟩ := h
  have hA := (Rel_A hR).2.2
  have e5 := hA 5 (by decide) (by decide)
  have e6 := hA 6 (by decide) (by decide)
  have e7 := hA 7 (by decide) (by decide)
  refine ⟨h1, h2, h3, h4, fun k => ?_, h6, hT, Rel_self hR, ?_, ?_⟩
  · rw [h5 k]; unfold inZ; rw [e5, e6, e7]
  · unfold rm5 at h9 ⊢; rw [e5, e6, e7]; exact h9
  · unfold rm5 at h10 ⊢; rw [e5, e6, e7]; exact h10
theorem LI.same (h : LI Z0 s Bc Bm Sc Sm H locs cells slots) (hT : Two Bc Bm s Sc Sm H2 locs2) : LI Z0 s Bc Bm Sc Sm H2 locs2 cells slots := h.next hT h.2.2.2.2.2.2.2.1
theorem LI.room (h : LI Z0 s Bc Bm Sc Sm H locs cells slots) : cells + 0 ≤ room_1.cells ∧ slots + 0 ≤ room_1.slots := by
  have a := h.2.2.2.2.2.2.2.2.1
  have b := h.2.2.2.2.2.2.2.2.2
  show cells + 0 ≤ 85930 ∧ slots + 0 ≤ 8844460
  omega
theorem LI.h0 (h : LI Z0 s Bc Bm Sc Sm H locs cells slots) {X : va_W} : isA (wX Bc X) K_PF 0 := ⟨by show zk Bc 0 = K_PF; rw [show zk Bc = kdC from h.2.2.1.1]; rfl, (h.2.2.2.2.1 0).mpr (Or.inl (by decide))⟩
theorem LI.hC (h : LI Z0 s Bc Bm Sc Sm H locs cells slots) {X : va_W} : CC (wX Bc X) := h.2.2.1
theorem LI.hM (h : LI Z0 s Bc Bm Sc Sm H locs cells slots) {X : va_W} : CM (wX Bm X) := h.2.2.2.1
theorem LI.two (h : LI Z0 s Bc Bm Sc Sm H locs cells slots) : Two Bc Bm s Sc Sm H locs := h.2.2.2.2.2.2.1
theorem LI.rel (h : LI Z0 s Bc Bm Sc Sm H locs cells slots) : (Rel (Sc 0)) Sc Sm := h.2.2.2.2.2.2.2.1
theorem LI.dd (h : LI Z0 s Bc Bm Sc Sm H locs cells slots) : zD Bm = zD Bc := h.2.1.1.trans h.1.1.symm
variable {p : Program} {l : Launch} {e : Env} {m : MethodId} {args : Array Value} {c : Code} {own : String} {cc : ByteArray} {nL : Nat}
theorem LI.gc (h : LI Z0 s Bc Bm Sc Sm H locs cells slots) (G : Cx p s m args c own cc nL Z0) (h0 : pA Z0 s.heap.size = A0 s) (hT : Two Bc Bm s S2 S3 H2 locs2) : Cx p s m args c own cc nL (wX Bc (cel Bm S3)) := cxT G h0 h.1 hT.ac
theorem LI.gm (h : LI Z0 s Bc Bm Sc Sm H locs cells slots) (G : Cx p s m args c own cc nL Z0) (h0 : pA Z0 s.heap.size = A0 s) (hT : Two Bc Bm s S2 S3 H2 locs2) : Cx p s m args c own cc nL (wX Bm (cel Bc S2)) := cxT G h0 h.2.1 hT.am
end LI
section GA
variable {p : Program} {l : Launch} {e : Env} {R : Room} {s : State} {m : MethodId} {args : Array Value} {below : List Frame} {meth : Method} {c : Code} {H : Heap} {locs : List Loc} {cells slots : Nat} {Q : State → Prop} {cc : ByteArray} {pc b L i : Nat} {xs : Nat → Int32} {ls : Array Slot} {rest : List Value} {u v : Value}
theorem ga_in {i k L : Nat} {y : Int32} (hi : i + 8 ≤ L) (hL : L ≤ 4096) (hk : k < 8) (hy : y = nI k) : vp_in (nI i + y) L ∧ (nI i + y).toNatClampNeg = i + k := by
  subst hy
  rw [nI_add]
  exact ⟨vp_in_nI (by omega) (by omega), nI_clamp (by omega)⟩
/-- one of the script's ints as an argument -/
theorem ga (hx : p.tables.exec = Jvm.exec) (hb : c.code = cc) (hX : va_X b L xs s s.heap) (hbl : b < s.heap.size) (hS : va_S (A0 s) s.heap H locs) (hi : i + 8 ≤ L) (hL : L ≤ 4096) (hl : lv_has ls 4 [(0, .ref b), (1, u), (2, v), (3, .int (nI i))]) {n : Int} (k : Nat) (hk : k < 8) (hn : Int32.ofInt n = nI k) (d1 : decode cc pc = .ok (.aload_n 0, 1)) (d2 : decode cc (pc + 1) = .ok (.iload_n 3, 1)) (d3 : decode cc (pc + 1 + 1) = .ok (.iconst n, 1)) (d4 : decode cc (pc + 1 + 1 + 1) = .ok (.iadd, 1)) (d5 : decode cc (pc + 1 + 1 + 1 + 1) = .ok (.iaload, 1))
    (kk : W p l e R s m args below meth c H locs cells slots Q (F0 m (pc + 5) ls (.int (xs (i + k)) :: rest))) : W p l e R s m args below meth c H locs cells slots Q (F0 m pc ls rest) := by
  obtain ⟨q1, q2⟩ := ga_in hi hL hk rfl
  refine lv_aload_n hx hb d1 rfl (lv_at hl 0 rfl) ?_
  refine lv_iload_n hx hb d2 rfl (lv_at hl 3 rfl) ?_
  refine lv_iconst hx hb d3 hn ?_
  refine lv_iadd hx hb d4 ?_
  refine va_sld hx hb hX hbl (Nat.not_le.mpr hbl) hS q1 d5 ?_
  rw [q2]
  exact kk
theorem gb (hx : p.tables.exec = Jvm.exec) (hb : c.code = cc) (hX : va_X b L xs s s.heap) (hbl : b < s.heap.size) (hS : va_S (A0 s) s.heap H locs) (hi : i + 8 ≤ L) (hL : L ≤ 4096) (hl : lv_has ls 4 [(0, .ref b), (1, u), (2, v), (3, .int (nI i))]) {n : Int} (k : Nat) (hk : k < 8) (hn : (Int8.ofInt n).toInt32 = nI k) (d1 : decode cc pc = .ok (.aload_n 0, 1)) (d2 : decode cc (pc + 1) = .ok (.iload_n 3, 1)) (d3 : decode cc (pc + 1 + 1) = .ok (.bipush n, 2)) (d4 : decode cc (pc + 1 + 1 + 2) = .ok (.iadd, 1)) (d5 : decode cc (pc + 1 + 1 + 2 + 1) = .ok (.iaload, 1))
    (kk : W p l e R s m args below meth c H locs cells slots Q (F0 m (pc + 6) ls (.int (xs (i + k)) :: rest))) : W p l e R s m args below meth c H locs cells slots Q (F0 m pc ls rest) := by
  obtain ⟨q1, q2⟩ := ga_in hi hL hk rfl
  refine lv_aload_n hx hb d1 rfl (lv_at hl 0 rfl) ?_
  refine lv_iload_n hx hb d2 rfl (lv_at hl 3 rfl) ?_
  refine lv_bipush hx hb d3 hn ?_
  refine lv_iadd hx hb d4 ?_
  refine va_sld hx hb hX hbl (Nat.not_le.mpr hbl) hS q1 d5 ?_
  rw [q2]
  exact kk
end GA

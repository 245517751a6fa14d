/-! the two systems in one heap -/
def wX (B : pZ) (X : va_W) : pZ := (zD B, zd B, zk B, za B, zL B, X, zs B, zv B)
def cel (B : pZ) (S : pS) : va_W := (zL B).map (fun k => (za B k, pcel B S k))
abbrev A0 (s : State) : Nat → Prop := fun q => s.heap.size ≤ q
def Two (Bc Bm : pZ) (s : State) (Sc Sm : pS) (H : Heap) (locs : List Loc) : Prop := va_P (zD Bc) vwCl (cel Bc Sc ++ cel Bm Sm) H ∧ va_D (A0 s) (cel Bc Sc ++ cel Bm Sm) ∧ va_S (A0 s) s.heap H locs
theorem pW_wX {B : pZ} {S : pS} {X : va_W} : pW (wX B X) S = cel B S ++ X := rfl
theorem pA_wX {B : pZ} {s : State} {S : pS} {X : va_W} (hD : va_D (A0 s) (cel B S ++ X)) : pA (wX B X) s.heap.size = A0 s := by
  funext q
  refine propext ⟨fun h => ?_, fun h => Or.inr (Or.inr h)⟩
  rcases h with ⟨k, hk, rfl⟩ | ⟨i, e, h⟩ | h
  · have hx : (za B k, pcel B S k) ∈ cel B S ++ X := List.mem_append.mpr (Or.inl (List.mem_map.mpr ⟨k, hk, rfl⟩))
    obtain ⟨j, hj⟩ := List.mem_iff_getElem?.mp hx
    exact hD.2 j _ hj
  · have hx : (q, e) ∈ cel B S ++ X := List.mem_append.mpr (Or.inr (List.mem_of_getElem? (show X[i]? = some (q, e) from h)))
    obtain ⟨j, hj⟩ := List.mem_iff_getElem?.mp hx
    exact hD.2 j _ hj
  · exact h
theorem sw_P {D : va_G} {b c : va_W} {H : Heap} (h : va_P D vwCl (b ++ c) H) : va_P D vwCl (c ++ b) H := va_P.swap (a := []) h
theorem sw_D {A : Nat → Prop} {b c : va_W} (h : va_D A (b ++ c)) : va_D A (c ++ b) := va_D.swap (a := []) h
section TW
variable {Bc Bm : pZ} {s : State} {Sc Sm S2 : pS} {H H1 : Heap} {locs locs1 : List Loc}
theorem Two.ac (h : Two Bc Bm s Sc Sm H locs) : pA (wX Bc (cel Bm Sm)) s.heap.size = A0 s := pA_wX h.2.1
theorem Two.am (h : Two Bc Bm s Sc Sm H locs) : pA (wX Bm (cel Bc Sc)) s.heap.size = A0 s := pA_wX (sw_D h.2.1)
theorem Two.c (h : Two Bc Bm s Sc Sm H locs) : Wd (wX Bc (cel Bm Sm)) s Sc H locs := ⟨h.1, by rw [h.ac]; exact h.2.1, by rw [h.ac]; exact h.2.2⟩
theorem Two.m (h : Two Bc Bm s Sc Sm H locs) (hd : zD Bm = zD Bc) : Wd (wX Bm (cel Bc Sc)) s Sm H locs := ⟨by show va_P (zD Bm) vwCl (cel Bm Sm ++ cel Bc Sc) H; rw [hd]; exact sw_P h.1, by rw [h.am]; exact sw_D h.2.1, by rw [h.am]; exact h.2.2⟩
theorem Two.c' (h : Two Bc Bm s Sc Sm H locs) (hw : Wd (wX Bc (cel Bm Sm)) s S2 H1 locs1) : Two Bc Bm s S2 Sm H1 locs1 := by
  obtain ⟨h1, h2, h3⟩ := hw
  rw [h.ac] at h2 h3
  exact ⟨h1, h2, h3⟩
theorem Two.m' (h : Two Bc Bm s Sc Sm H locs) (hd : zD Bm = zD Bc) (hw : Wd (wX Bm (cel Bc Sc)) s S2 H1 locs1) : Two Bc Bm s Sc S2 H1 locs1 := by
  obtain ⟨h1, h2, h3⟩ := hw
  rw [h.am] at h2 h3
  have h1 : va_P (zD Bm) vwCl (cel Bm S2 ++ cel Bc Sc) H1 := h1
  rw [hd] at h1
  exact ⟨sw_P h1, sw_D h2, h3⟩
end TW
/-- of one base: classes, kinds of arrays, literals -/
def SB (Z0 B : pZ) : Prop := zD B = zD Z0 ∧ zd B = zd Z0 ∧ zs B = zs Z0 ∧ zv B = zv Z0
section CX
variable {p : Program} {l : Launch} {e : Env} {R : Room} {s : State} {m : MethodId} {args : Array Value} {below : List Frame} {meth : Method} {c : Code} {H : Heap} {locs : List Loc} {cells slots : Nat} {Q : State → Prop}
variable {cc cy : ByteArray} {pc nL mL fr lo mc ms index n k0 n2 ci N k j : Nat} {ls : Array Slot} {rest st0 As : List Value} {Z : pZ} {S S2 : pS} {own C : String} {y : MethodName} {T : u_T} {ty : Nat → FieldType} {qs : List Nat} {rt : FieldType} {ret : Option FieldType}
theorem cxT {Z0 B : pZ} {X : va_W} (G : Cx p s m args c own cc nL Z0) (h0 : pA Z0 s.heap.size = A0 s) (h : SB Z0 B) (hA : pA (wX B X) s.heap.size = A0 s) : Cx p s m args c own cc nL (wX B X) := by
  obtain ⟨g1, g2, g3, g4⟩ := G
  obtain ⟨e1, e2, e3, e4⟩ := h
  refine ⟨g1, ?_, g3, ?_⟩
  · have ht : tyL (wX B X) = tyL Z0 := by
      show [(zd B 0, FieldType.int), (zd B 1, .byte), (zd B 2, .boolean), (zd B 3, .long), (zd B 4, .object RX8), (zd B 5, .array .int)] = _
      rw [e2]; rfl
    rw [ht]
    show va_K (zD B) vwCl (tyL Z0) s
    rw [e1]
    exact g2
  · unfold RO at g4 ⊢
    rw [hA]
    rw [h0] at g4
    show vk_S litN litLen litByt (zs B) (zv B) (A0 s) s s.heap ∧ _
    rw [e3, e4]
    exact ⟨g4.1, g4.2.1, g4.2.2.1, fun q hq => by show vk_R _ _ _ (zs B q.2.2.2) s; rw [e3]; exact g4.2.2.2 q hq⟩
theorem blindN {av : List Value} {sz : Nat} : FrameBlind (va_Pc av (fun U => U.heap.size = sz ∧ Wo Z S U ∧ va_AO RX8 U ∧ AOI U)) := by
  intro a U g mk q
  obtain ⟨q0, q1, qW, qA, qI⟩ := q
  have hal : U.vm.Alike (U.calling g mk a).vm := Vm.Alike.refl U.vm
  obtain ⟨b0, b1, b2⟩ := blind (Z := Z) (S := S) (av := av) (sz := sz) a U g mk ⟨q0, q1, qW⟩
  exact ⟨b0, b1, b2, va_AO.moved (u := U) (U := U.calling g mk a) hal qA, AOI.moved (u := U) (U := U.calling g mk a) hal qI⟩
/-- a call that makes an object on its way -/
theorem kVn (G : Cx p s m args c own cc nL Z) (hAO : va_AO RX8 s) (hAI : AOI s) (hw : Wd Z s S H locs) {r : Int32} (hM : CIn l Z y cy mL rt fr lo mc ms (.ref (za Z k) :: As) S r k0 n2 S2) (hcw : CWV own index C y cy mL (some rt) n) (h : isA Z (.inr (ci, qs)) k) (hk : CK ci C T N ty) (hR : fr + 1 ≤ R.frames ∧ 8 + (mL + 11) + lo ≤ R.locals) (hn : As.length = n) (hls : ls.size = nL) (hst : st0 = As.reverse ++ .ref (za Z k) :: rest) (hrm : (rest.map fun v => v.category).sum ≤ 8) (hcs : cells + mc ≤ R.cells ∧ slots + ms ≤ R.slots) (hdg : decode cc pc = .ok (.invokevirtual index, 3))
    (kk : ∀ (H1 : Heap) (locs1 : List Loc) (q : Nat) (b : Nat → Nat), va_P (zD Z) vwCl (pW (zx Z k0 n2 q b) S2) H1 → va_D (pA Z s.heap.size) (pW (zx Z k0 n2 q b) S2) → va_S (pA Z s.heap.size) s.heap H1 locs1 → W p l e R s m args below meth c H1 locs1 (cells + mc) (slots + ms) Q (F0 m (pc + 3) ls (.int r :: rest))) : W p l e R s m args below meth c H locs cells slots Q (F0 m pc ls st0) := by
  obtain ⟨p1, p2, p3⟩ := preV (As := As) G hw h hk
  refine va_calli (va_runV (rest := rest) G.1 (hM H.size) (cwV n G.1.2.2.2.2 hcw.1 rfl rfl rfl hcw.2 hR) ⟨blindN, p2, fun U hU hW => ?_⟩ rfl hn hls hst (lv_room hrm) hdg hcs) hw.2.2 (fun q _ hq => pA_mono hw.2.2.1 hq) (fun q hq => pA_mono hw.2.2.1 hq) (fun r' u t H1 locs1 ht hvm hr hB hz hk1 hS1 => ?_)
  · obtain ⟨a1, a2, a3⟩ := p3 U hU hW
    exact ⟨a1, a2, a3, va_AO.moved hW.alike hAO, AOI.moved hW.alike hAI⟩
  · subst hr
    exact kk H1 locs1 u.1 u.2 (by rw [← ht]; exact hB.1) (hB.2.weaken (fun k x hx hq => pA_mono hw.2.2.1 hq)) hS1
end CX

/-! from a made block to the larger Z -/
theorem zx_pA {Z : pZ} {k0 n q sz : Nat} {b : Nat → Nat} (hout : ∀ k, k ∈ zL Z → ¬ (k0 ≤ k ∧ k < k0 + n)) (hA : ∀ i, i < n → pA Z sz (za (zx Z k0 n q b) (k0 + i))) : pA (zx Z k0 n q b) sz = pA Z sz := by
  funext x
  refine propext ⟨fun h => ?_, fun h => ?_⟩
  · rcases h with ⟨k, hk, rfl⟩ | h | h
    · rcases List.mem_append.mp (show k ∈ zL Z ++ (List.range n).map (fun i => k0 + i) from hk) with hk | hk
      · exact Or.inl ⟨k, hk, (zx_out (hout k hk)).symm⟩
      · obtain ⟨i, hi, rfl⟩ := List.mem_map.mp hk
        exact hA i (List.mem_range.mp hi)
    · exact Or.inr (Or.inl h)
    · exact Or.inr (Or.inr h)
  · rcases h with ⟨k, hk, rfl⟩ | h | h
    · exact Or.inl ⟨k, List.mem_append.mpr (Or.inl hk), zx_out (hout k hk)⟩
    · exact Or.inr (Or.inl h)
    · exact Or.inr (Or.inr h)
theorem zx_Wd {Z : pZ} {s : State} {S S2 : pS} {H : Heap} {locs : List Loc} {k0 n q : Nat} {b : Nat → Nat} {bl : va_W} (hZ : CC Z) (hout : ∀ k, k ∈ zL Z → ¬ (k0 ≤ k ∧ k < k0 + n)) (hS : ∀ k, k ∈ zL Z → S2 k = S k) (hm : ∀ k, k ∈ zL Z → ∀ ci qs j o, zk Z k = .inr (ci, qs) → qs[j]? = some 1 → pmu (S k j) = some o → ¬ (k0 ≤ o ∧ o < k0 + n)) (hb : eW bl ((List.range n).map (fun i => (za (zx Z k0 n q b) (k0 + i), pcel (zx Z k0 n q b) S2 (k0 + i))))) (h : Hn (zD Z) s (pA Z s.heap.size) (pW Z S ++ bl) H locs) : Wd (zx Z k0 n q b) s S2 H locs ∧ pA (zx Z k0 n q b) s.heap.size = pA Z s.heap.size := by
  have hP : va_P (zD Z) vwCl (((zL Z).map (fun k => (za Z k, pcel Z S k)) ++ bl) ++ zX Z) H := va_P.swap h.1
  have hD : va_D (pA Z s.heap.size) (((zL Z).map (fun k => (za Z k, pcel Z S k)) ++ bl) ++ zX Z) := va_D.swap h.2.1
  have hW := zx_W (q := q) (b := b) hZ hout hS hm hb
  have hP2 := hW.P hP
  have hD2 := hW.D hD
  have hA : pA (zx Z k0 n q b) s.heap.size = pA Z s.heap.size := zx_pA hout (fun i hi => by
    have hx : (za (zx Z k0 n q b) (k0 + i), pcel (zx Z k0 n q b) S2 (k0 + i)) ∈ pW (zx Z k0 n q b) S2 := List.mem_append.mpr (Or.inl (List.mem_map.mpr ⟨k0 + i, List.mem_append.mpr (Or.inr (List.mem_map.mpr ⟨i, List.mem_range.mpr hi, rfl⟩)), rfl⟩))
    obtain ⟨j, hj⟩ := List.mem_iff_getElem?.mp hx
    exact hD2.2 j _ hj)
  exact ⟨⟨hP2, by rw [hA]; exact hD2, by rw [hA]; exact h.2.2⟩, hA⟩
theorem zx_Cx {p : Program} {s : State} {m : MethodId} {args : Array Value} {c : Code} {own : String} {cc : ByteArray} {nL k0 n q : Nat} {b : Nat → Nat} {Z : pZ} (hA : pA (zx Z k0 n q b) s.heap.size = pA Z s.heap.size) (G : Cx p s m args c own cc nL Z) : Cx p s m args c own cc nL (zx Z k0 n q b) := by
  refine ⟨G.1, G.2.1, G.2.2.1, ?_⟩
  have h := G.2.2.2
  unfold RO at h ⊢
  rw [hA]
  exact h
theorem Wd_Hn {Z : pZ} {s : State} {S : pS} {H : Heap} {locs : List Loc} (hw : Wd Z s S H locs) : Hn (zD Z) s (pA Z s.heap.size) (pW Z S) H locs := hw
theorem Cx_Cn {p : Program} {s : State} {m : MethodId} {args : Array Value} {c : Code} {own : String} {cc : ByteArray} {nL : Nat} {Z : pZ} (G : Cx p s m args c own cc nL Z) (h1 : va_AO RX8 s) (h2 : AOI s) : Cn p s m args c own cc nL (zD Z) (zd Z) := ⟨G.1, G.2.1, h1, h2⟩

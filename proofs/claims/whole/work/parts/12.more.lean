/-! more objects: a block of new ones beside those that were -/
def eE (x y : va_E) : Prop := x = y ∨ ∃ (c : ClassId) (n : Nat) (f g : Nat → Option Nat), x = .inl (c, n, .inr (.inr (.inr (.inr f)))) ∧ y = .inl (c, n, .inr (.inr (.inr (.inr g)))) ∧ ∀ j, j < n → f j = g j
theorem arr_ext {c : ClassId} {n : Nat} {f g : Nat → Value} (h : ∀ j, j < n → f j = g j) : arrV c n f = arrV c n g := by
  unfold arrV
  congr 1
  exact congrArg Array.ofFn (funext fun j => h j.1 j.2)
theorem eE.at {D : va_G} {cl : List vw_C} {a : Nat} {x y : va_E} {H : Heap} (h : eE x y) (hx : va_at D cl (a, x) H) : va_at D cl (a, y) H := by
  rcases h with rfl | ⟨c, n, f, g, rfl, rfl, h⟩
  · exact hx
  · have e : arrV c n (fun j => va_rf (f j)) = arrV c n (fun j => va_rf (g j)) := arr_ext (fun j hj => by rw [h j hj])
    exact (hx : H[a]? = some (vp_cell c (n, .inr (.inr (.inr (.inr f)))))).trans (congrArg some e)
def eW : va_W → va_W → Prop
  | [], [] => True
  | x :: l, y :: l' => x.1 = y.1 ∧ eE x.2 y.2 ∧ eW l l'
  | _, _ => False
theorem eW_get : ∀ {l l' : va_W}, eW l l' → ∀ {k : Nat} {y : Nat × va_E}, l'[k]? = some y → ∃ x, l[k]? = some (y.1, x) ∧ eE x y.2
  | [], [], _, k, y, h => by simp at h
  | x :: l, y' :: l', h, 0, y, hk => by
    obtain rfl := Option.some.inj hk
    exact ⟨x.2, by rw [← h.1]; rfl, h.2.1⟩
  | x :: l, y' :: l', h, k + 1, y, hk => eW_get h.2.2 hk
  | [], _ :: _, h, _, _, _ => h.elim
  | _ :: _, [], h, _, _, _ => h.elim
theorem eW_refl : ∀ (l : va_W), eW l l
  | [] => trivial
  | _ :: l => ⟨rfl, Or.inl rfl, eW_refl l⟩
theorem eW_app : ∀ {a a' b b' : va_W}, eW a a' → eW b b' → eW (a ++ b) (a' ++ b')
  | [], [], _, _, _, h => h
  | _ :: _, _ :: _, _, _, h1, h => ⟨h1.1, h1.2.1, eW_app h1.2.2 h⟩
  | [], _ :: _, _, _, h1, _ => h1.elim
  | _ :: _, [], _, _, h1, _ => h1.elim
theorem eW_map {f g : Nat → Nat × va_E} : ∀ {l : List Nat}, (∀ k, k ∈ l → (f k).1 = (g k).1 ∧ eE (f k).2 (g k).2) → eW (l.map f) (l.map g)
  | [], _ => trivial
  | k :: l, h => ⟨(h k (by simp)).1, (h k (by simp)).2, eW_map (fun k' hk' => h k' (by simp [hk']))⟩
theorem eW.P {D : va_G} {cl : List vw_C} {W W' : va_W} {H : Heap} (h : eW W W') (hP : va_P D cl W H) : va_P D cl W' H := fun k q hk => by
  obtain ⟨x, hx, he⟩ := eW_get h hk
  exact he.at (hP k _ hx)
theorem eW.D {A : Nat → Prop} {W W' : va_W} (h : eW W W') (hD : va_D A W) : va_D A W' := ⟨fun i j p q hp hq e => by
  obtain ⟨x, hx, -⟩ := eW_get h hp
  obtain ⟨y, hy, -⟩ := eW_get h hq
  exact hD.1 i j _ _ hx hy e, fun k q hq => by
  obtain ⟨x, hx, -⟩ := eW_get h hq
  exact hD.2 k (q.1, x) hx⟩
/-- Z and a block of n objects from number k0 on: the first at q, the others at b 1, b 2 .. -/
def zx (Z : pZ) (k0 n q : Nat) (b : Nat → Nat) : pZ := (zD Z, zd Z, zk Z, (fun k => if k0 ≤ k ∧ k < k0 + n then (if k = k0 then q else b (k - k0)) else za Z k), zL Z ++ (List.range n).map (fun i => k0 + i), zX Z, zs Z, zv Z)
theorem zx_out {Z : pZ} {k0 n q k : Nat} {b : Nat → Nat} (h : ¬ (k0 ≤ k ∧ k < k0 + n)) : za (zx Z k0 n q b) k = za Z k := if_neg h
theorem pfs_ext {ad ad' : Nat → Nat} {f : Nat → Int32} {k : Nat} : ∀ {qs : List Nat} {j0 : Nat}, (∀ j, qs[j]? = some 1 → (pmu (f (j0 + j))).map ad' = (pmu (f (j0 + j))).map ad) → (∀ o, o ∈ qs → 2 ≤ o → ad' (k + (o - 2)) = ad (k + (o - 2))) → pfs ad' f k j0 qs = pfs ad f k j0 qs
  | [], _, _, _ => rfl
  | q :: qs, j0, h1, h2 => by
    simp only [pfs]
    congr 1
    · match q, h1, h2 with
      | 0, _, _ => rfl
      | 1, h1, _ => exact congrArg va_rf (h1 0 rfl)
      | m + 2, _, h2 => exact congrArg Value.ref (h2 (m + 2) (by simp) (by omega))
    · exact pfs_ext (fun j hj => by have := h1 (j + 1) (by simpa using hj); rwa [show j0 + (j + 1) = j0 + 1 + j by omega] at this) (fun o ho => h2 o (by simp [ho]))
theorem zx_old {Z : pZ} {S S2 : pS} {k0 n q k : Nat} {b : Nat → Nat} (hZ : CC Z) (hout : ∀ k, k ∈ zL Z → ¬ (k0 ≤ k ∧ k < k0 + n)) (hS : S2 k = S k) (hm : ∀ ci qs j o, zk Z k = .inr (ci, qs) → qs[j]? = some 1 → pmu (S k j) = some o → ¬ (k0 ≤ o ∧ o < k0 + n)) (hk : k ∈ zL Z) : eE (pcel Z S k) (pcel (zx Z k0 n q b) S2 k) := by
  have hsub : ∀ o, o ∈ subo (kdC k) → za (zx Z k0 n q b) (k + o) = za Z (k + o) := fun o ho => zx_out (hout _ (hZ.2 k hk o ho))
  have hkk : zk Z k = kdC k := by rw [hZ.1]
  unfold pcel
  rw [show zk (zx Z k0 n q b) k = zk Z k from rfl, show zd (zx Z k0 n q b) = zd Z from rfl, hS]
  cases hK : zk Z k with
  | inl t =>
    obtain ⟨t, N⟩ := t
    rw [← hkk, hK] at hsub
    match t, hsub with
    | 0, _ => exact Or.inl rfl
    | 1, _ => exact Or.inl rfl
    | 2, _ => exact Or.inl rfl
    | 3, _ => exact Or.inl rfl
    | 4, hsub => exact Or.inr ⟨_, _, _, _, rfl, rfl, fun j hj => by
        have := hsub (24 + 2 * j) (List.mem_map.mpr ⟨j, List.mem_range.mpr hj, rfl⟩)
        rw [show k + 24 + 2 * j = k + (24 + 2 * j) by omega, this]⟩
    | 5, hsub => exact Or.inr ⟨_, _, _, _, rfl, rfl, fun j hj => by
        have := hsub (1 + j) (List.mem_map.mpr ⟨j, List.mem_range.mpr hj, rfl⟩)
        rw [show k + 1 + j = k + (1 + j) by omega, this]⟩
    | t + 6, _ => exact Or.inl rfl
  | inr o =>
    obtain ⟨ci, qs⟩ := o
    rw [← hkk, hK] at hsub
    refine Or.inl (congrArg (fun z => Sum.inr (ci, z)) (Eq.symm (pfs_ext (fun j hj => ?_) (fun o ho h2 => ?_))))
    · rw [Nat.zero_add]
      cases hp : pmu (S k j) with
      | none => rfl
      | some o => exact congrArg some (zx_out (hm ci qs j o hK hj hp))
    · exact hsub (o - 2) (List.mem_filterMap.mpr ⟨o, ho, by rw [if_pos h2]⟩)
/-- with the block's own cells in their places, the world of the larger Z -/
theorem zx_W {Z : pZ} {S S2 : pS} {k0 n q : Nat} {b : Nat → Nat} {bl : va_W} (hZ : CC Z) (hout : ∀ k, k ∈ zL Z → ¬ (k0 ≤ k ∧ k < k0 + n)) (hS : ∀ k, k ∈ zL Z → S2 k = S k) (hm : ∀ k, k ∈ zL Z → ∀ ci qs j o, zk Z k = .inr (ci, qs) → qs[j]? = some 1 → pmu (S k j) = some o → ¬ (k0 ≤ o ∧ o < k0 + n)) (hb : eW bl ((List.range n).map (fun i => (za (zx Z k0 n q b) (k0 + i), pcel (zx Z k0 n q b) S2 (k0 + i))))) : eW (((zL Z).map (fun k => (za Z k, pcel Z S k)) ++ bl) ++ zX Z) (pW (zx Z k0 n q b) S2) := by
  unfold pW
  refine eW_app ?_ (eW_refl _)
  show eW _ ((zL Z ++ (List.range n).map (fun i => k0 + i)).map _)
  rw [List.map_append, List.map_map]
  exact eW_app (eW_map (fun k hk => ⟨(zx_out (hout k hk)).symm, zx_old hZ hout (hS k hk) (hm k hk) hk⟩)) hb
/-- the block's numbers are those of the kinds: Z stays closed -/
theorem zx_C {Z : pZ} {k0 n q : Nat} {b : Nat → Nat} (hZ : CC Z) (h : (List.range n).all (fun i => (subo (kdC (k0 + i))).all (fun o => decide (k0 ≤ k0 + i + o ∧ k0 + i + o < k0 + n))) = true) : CC (zx Z k0 n q b) := by
  refine ⟨hZ.1, fun k hk o ho => ?_⟩
  rcases List.mem_append.mp (show k ∈ zL Z ++ (List.range n).map (fun i => k0 + i) from hk) with hk | hk
  · exact List.mem_append.mpr (Or.inl (hZ.2 k hk o ho))
  · obtain ⟨i, hi, rfl⟩ := List.mem_map.mp hk
    have := of_decide_eq_true (List.all_eq_true.mp (List.all_eq_true.mp h i hi) o ho)
    exact List.mem_append.mpr (Or.inr (List.mem_map.mpr ⟨i + o, List.mem_range.mpr (by omega), by omega⟩))

/-! ===== BEGIN words of one list among another's, by their places ===== -/
theorem goodIn_r {big : List Cond} (ws : List Cond) (ps : List Nat) (hp : ws = ps.filterMap (fun i => big[i]?)) (h : ws.all goodWord = true) : GoodIn big ws := by
  intro w hw
  have h1 := List.all_eq_true.mp h w hw
  rw [hp] at hw
  obtain ⟨i, -, hi⟩ := List.mem_filterMap.mp hw
  have hm : w ∈ big := by first | exact List.mem_of_getElem? hi | exact List.getElem?_mem hi
  exact ⟨hm, good_of_word h1⟩
theorem goodIn_app {big a b : List Cond} (ha : GoodIn big a) (hb : GoodIn big b) : GoodIn big (a ++ b) := fun w h => (List.mem_append.mp h).elim (ha w) (hb w)
theorem goodIn_ca {big a b : List Cond} {c : Cond} (ha : GoodIn big (c :: a)) (hb : GoodIn big b) : GoodIn big (c :: (a ++ b)) := fun w h => (List.mem_cons.mp h).elim (fun e => ha w (List.mem_cons.mpr (Or.inl e))) (fun h => (List.mem_append.mp h).elim (fun h => ha w (List.mem_cons.mpr (Or.inr h))) (hb w))
theorem goodIn_sub {big ws : List Cond} (hm : ∀ w ∈ ws, w ∈ big) (h : ws.all goodWord = true) : GoodIn big ws := fun w hw => ⟨hm w hw, good_of_word (List.all_eq_true.mp h w hw)⟩
/-! ===== END ===== -/

/-! ===== BEGIN new T[n][m]: the outer array a place, the inner ones among the pooled ===== -/
/-- f, but v at every address of l -/
def vr_up {α : Type} (f : Nat → α) (l : List Nat) (v : α) : Nat → α := fun a => if a ∈ l then v else f a
theorem vr_up_in {α : Type} {f : Nat → α} {l : List Nat} {v : α} {a : Nat} (h : a ∈ l) : vr_up f l v a = v := if_pos h
theorem vr_up_ne {α : Type} {f : Nat → α} {l : List Nat} {v : α} {a : Nat} (h : a ∉ l) : vr_up f l v a = f a := if_neg h
theorem vr_rows {L l : List Nat} {f : Nat → va_E} {e : va_E} (h : ∀ a, a ∈ l → a ∉ L) : va_pl L f ++ l.map (fun a => (a, e)) = va_pl (L ++ l) (vr_up f l e) := by
  unfold va_pl
  rw [List.map_append]
  congr 1
  · apply List.map_congr_left
    intro a ha
    rw [vr_up_ne (fun q => h a q ha)]
  · apply List.map_congr_left
    intro a ha
    rw [vr_up_in ha]
theorem vr_lay {X rows : va_W} {x : Nat × va_E} {pl : va_W} {D : va_G} {cl : List vw_C} {H : Heap} (hP : va_P D cl (((X ++ pl) ++ [x]) ++ rows) H) : va_P D cl ((X ++ [x]) ++ (pl ++ rows)) H := by
  rw [List.append_assoc (X ++ pl)] at hP
  have h := va_P.swap hP
  rw [← List.append_assoc X] at h
  have h2 := va_P.swap h
  rw [List.append_assoc (X ++ [x])] at h2
  exact h2
theorem vr_layD {X rows : va_W} {x : Nat × va_E} {pl : va_W} {A : Nat → Prop} (hD : va_D A (((X ++ pl) ++ [x]) ++ rows)) : va_D A ((X ++ [x]) ++ (pl ++ rows)) := by
  rw [List.append_assoc (X ++ pl)] at hD
  have h := va_D.swap hD
  rw [← List.append_assoc X] at h
  have h2 := va_D.swap h
  rw [List.append_assoc (X ++ [x])] at h2
  exact h2
theorem vr_outer (c : ClassId) (N h0 : Nat) : ∀ i : Nat, Jvm.Free.Multi.outerC c N h0 i = arrV c N (fun j => va_rf (if j < i then some (h0 + 1 + j) else none))
  | 0 => by
    show ({ cls := c, slots := Array.replicate N .null, vm := .none } : Cell) = _
    rw [arrV_new]
    refine congrArg (arrV c N) (funext fun j => ?_)
    simp [va_rf]
  | i + 1 => by
    show (Jvm.Free.Multi.outerC c N h0 i).setSlot i (.ref (h0 + 1 + i)) = _
    rw [vr_outer c N h0 i, arrV_store]
    refine congrArg (arrV c N) (funext fun j => ?_)
    by_cases e : j = i
    · subst e
      simp [updV, va_rf]
    · by_cases h : j < i
      · simp [updV, e, h, Nat.lt_succ_of_lt h]
      · simp [updV, e, h, show ¬ j < i + 1 by omega]
section VGM
variable {p : Program} {l : Launch} {e : Env} {R : Room} {s : State} {m : MethodId} {args : Array Value} {below : List Frame} {meth : Method} {c : Code} {H : Heap} {locs : List Loc} {cells slots : Nat} {Q : State → Prop}
variable {cc : ByteArray} {pc : Nat} {ls : Array Slot} {rest : List Value} {D : va_G} {cl : List vw_C} {A : Nat → Prop} {a : Nat} {tys : List (ClassId × FieldType)} {ws : va_W} {H0 : Heap}
theorem va_mna {X : va_W} {L : List Nat} {f : Nat → va_E} {cc : ByteArray} (hexec : p.tables.exec = Jvm.exec) (hb : c.code = cc) {own : String} {index : Nat} {ty : FieldType} {cy : ClassId} (hown : s.vm.findClass own = some m.cls) (hclink : (Cond.classLink own index ("[" ++ (FieldType.array ty).toString)).before args s = true) (hover : (Cond.arrayOver (.array ty)).before args s = true) (harr : (Cond.arrayClass ty).before args s = true) (hcy : s.vm.findClass (FieldType.array ty).toString = some cy)
    (hK : va_K D cl tys s) (hP : va_P D cl (X ++ va_pl L f) H) (hD : va_D A (X ++ va_pl L f)) (hS : va_S A H0 H locs) (hA : ∀ q, H0.size ≤ q → A q) {n k : Int32} {N' K' : Nat} {z : vp_A} (hn : ¬ n < 0) (hk : ¬ k < 0) (hN : n.toNatClampNeg = N') (hM : k.toNatClampNeg = K')
    (hb1 : N' * 4 ≤ 536870912) (hb2 : K' * componentBytes ty ≤ 536870912) (hb3 : K' ≤ 536870912) (hdf : fits ty (defaultValue ty) = true) (hdd : (defaultValue ty).isDefault = true) (hcells : cells + (1 + N') ≤ R.cells) (hslots : slots + (N' + N' * K') ≤ R.slots) (hz : ∀ c : ClassId, Jvm.Free.Multi.innerC c K' (defaultValue ty) = vp_cell c z) (hdg : decode cc pc = .ok (.multianewarray index 2, 4))
    (kk : ∀ (q : Nat) (r : Nat → Nat) (cA : ClassId) (H1 : Heap), (∀ i j : Nat, i < N' → j < N' → r i = r j → i = j) → (∀ i : Nat, i < N' → r i ∉ L) → va_K D cl (tys ++ [(cA, .array ty)]) s →
      va_P D cl ((X ++ [(q, .inl (cA, N', .inr (.inr (.inr (.inr (fun i => if i < N' then some (r i) else none))))))]) ++ va_pl (L ++ (List.range N').map r) (vr_up f ((List.range N').map r) (.inl (cy, z)))) H1 → va_D A ((X ++ [(q, .inl (cA, N', .inr (.inr (.inr (.inr (fun i => if i < N' then some (r i) else none))))))]) ++ va_pl (L ++ (List.range N').map r) (vr_up f ((List.range N').map r) (.inl (cy, z)))) → va_S A H0 H1 locs →
      W p l e R s m args below meth c H1 locs (cells + 1 + N') (slots + N' + N' * K') Q (F0 m (pc + 4) ls (.ref q :: rest))) : W p l e R s m args below meth c H locs cells slots Q (F0 m pc ls (.int k :: .int n :: rest)) := by
  subst hN
  subst hM
  intro T hT Xs
  obtain ⟨vm₁, cA, comp, -, fA, fC, hO, -, X', step⟩ := Xs.multianewarray2F hexec hown hclink hover harr (g := F0 m pc ls (.int k :: .int n :: rest)) rfl (by rw [hb]; exact hdg) rfl hn hk hb1 hb2 hb3 hdf hdd hcells hslots
  have ec : some cy = some comp := hcy.symm.trans fC
  cases ec
  generalize hF : Jvm.Free.Multi.fill (T.setVm vm₁) cA cy n.toNatClampNeg k.toNatClampNeg (defaultValue ty) n.toNatClampNeg = F at X' step
  have hTh : (T.setVm vm₁).heap = H := hT
  obtain ⟨f1, f2, -, -⟩ := Jvm.Free.Multi.fill_facts (T.setVm vm₁) cA cy n.toNatClampNeg k.toNatClampNeg (defaultValue ty) n.toNatClampNeg
  rw [hF, hTh] at f1 f2
  have hold : ∀ x : Nat, x < H.size → F.heap[x]? = H[x]? := fun x hx => by
    have := Jvm.Free.Multi.fill_old (T.setVm vm₁) cA cy n.toNatClampNeg k.toNatClampNeg (defaultValue ty) (a := x) (by rw [hTh]; exact hx) n.toNatClampNeg
    rw [hF, hTh] at this
    exact this
  have hrow : ∀ j : Nat, j < n.toNatClampNeg → F.heap[H.size + 1 + j]? = some (vp_cell cy z) := fun j hj => by
    have := Jvm.Free.Multi.fill_inner (T.setVm vm₁) cA cy n.toNatClampNeg k.toNatClampNeg (defaultValue ty) n.toNatClampNeg j hj
    rw [hF, hTh, hz] at this
    exact this
  have hout : Jvm.Free.Multi.outerC cA n.toNatClampNeg H.size n.toNatClampNeg = vp_cell cA (n.toNatClampNeg, .inr (.inr (.inr (.inr (fun i => if i < n.toNatClampNeg then some (H.size + 1 + i) else none))))) := by
    rw [vp_cell_q]
    exact vr_outer cA n.toNatClampNeg H.size n.toNatClampNeg
  rw [hout] at f2
  have hlt : ∀ a, a ∈ L → a < H.size := fun a ha => by
    obtain ⟨k9, hk9⟩ := va_pl_get (X := X) (f := f) ha
    exact (hP k9 _ hk9).lt
  have hnl : ∀ i : Nat, i < n.toNatClampNeg → H.size + 1 + i ∉ L := fun i _ h => by
    have := hlt _ h
    omega
  have hnm : ∀ a, a ∈ (List.range n.toNatClampNeg).map (fun i => H.size + 1 + i) → a ∉ L := fun a ha h => by
    obtain ⟨i, -, rfl⟩ := List.mem_map.mp ha
    have := hlt _ h
    omega
  have hP0 : va_P D cl (X ++ va_pl L f) F.heap := hP.kept (fun k9 x hx => hold x.1 ((hP k9 x hx).lt))
  have hP1 : va_P D cl ((X ++ va_pl L f) ++ [(H.size, .inl (cA, n.toNatClampNeg, .inr (.inr (.inr (.inr (fun i => if i < n.toNatClampNeg then some (H.size + 1 + i) else none))))))]) F.heap := hP0.app (fun k9 x hx => by
    have h0 : k9 < 1 := (List.getElem?_eq_some_iff.mp hx).1
    rw [show k9 = 0 by omega] at hx
    cases hx
    exact f2)
  have hP2 : va_P D cl (((X ++ va_pl L f) ++ [(H.size, .inl (cA, n.toNatClampNeg, .inr (.inr (.inr (.inr (fun i => if i < n.toNatClampNeg then some (H.size + 1 + i) else none))))))]) ++ ((List.range n.toNatClampNeg).map (fun i => H.size + 1 + i)).map (fun a => (a, .inl (cy, z)))) F.heap := hP1.app (fun k9 x hx => by
    obtain ⟨a, ha, rfl⟩ := List.mem_map.mp (List.mem_of_getElem? hx)
    obtain ⟨i, hi, rfl⟩ := List.mem_map.mp ha
    exact hrow i (List.mem_range.mp hi))
  have hD2 : va_D A (((X ++ va_pl L f) ++ [(H.size, .inl (cA, n.toNatClampNeg, .inr (.inr (.inr (.inr (fun i => if i < n.toNatClampNeg then some (H.size + 1 + i) else none))))))]) ++ ((List.range n.toNatClampNeg).map (fun i => H.size + 1 + i)).map (fun a => (a, .inl (cy, z)))) := by
    have hD1 := hD.push (e := .inl (cA, n.toNatClampNeg, .inr (.inr (.inr (.inr (fun i => if i < n.toNatClampNeg then some (H.size + 1 + i) else none)))))) hP rfl (hA _ hS.1)
    generalize hW1 : (X ++ va_pl L f) ++ [(H.size, .inl (cA, n.toNatClampNeg, .inr (.inr (.inr (.inr (fun i => if i < n.toNatClampNeg then some (H.size + 1 + i) else none))))))] = W1 at hD1 hP1 ⊢
    have hle : ∀ (k9 : Nat) (x : Nat × va_E), W1[k9]? = some x → x.1 ≤ H.size := fun k9 x hx => by
      rw [← hW1] at hx
      by_cases hl : k9 < (X ++ va_pl L f).length
      · rw [List.getElem?_append_left hl] at hx
        exact Nat.le_of_lt ((hP k9 x hx).lt)
      · rw [List.getElem?_append_right (by omega)] at hx
        have h0 : k9 - (X ++ va_pl L f).length < 1 := (List.getElem?_eq_some_iff.mp hx).1
        rw [show k9 - (X ++ va_pl L f).length = 0 by omega] at hx
        cases hx
        exact Nat.le_refl _
    have hr : ∀ (k9 : Nat) (x : Nat × va_E), (((List.range n.toNatClampNeg).map (fun i => H.size + 1 + i)).map (fun a => ((a, .inl (cy, z)) : Nat × va_E)))[k9]? = some x → x.1 = H.size + 1 + k9 := fun k9 x hx => by
      rw [List.getElem?_map, List.getElem?_map] at hx
      by_cases h9 : k9 < n.toNatClampNeg
      · rw [List.getElem?_range h9] at hx
        cases hx
        rfl
      · have hn0 : (List.range n.toNatClampNeg)[k9]? = none := List.getElem?_eq_none (by rw [List.length_range]; omega)
        rw [hn0] at hx
        cases hx
    refine ⟨fun i j x y hi hj hxy => ?_, fun k9 x hx => ?_⟩
    · by_cases h1 : i < W1.length <;> by_cases h2 : j < W1.length
      · rw [List.getElem?_append_left h1] at hi
        rw [List.getElem?_append_left h2] at hj
        exact hD1.1 i j x y hi hj hxy
      · rw [List.getElem?_append_left h1] at hi
        rw [List.getElem?_append_right (by omega)] at hj
        have := hle _ _ hi
        have := hr _ _ hj
        omega
      · rw [List.getElem?_append_right (by omega)] at hi
        rw [List.getElem?_append_left h2] at hj
        have := hle _ _ hj
        have := hr _ _ hi
        omega
      · rw [List.getElem?_append_right (by omega)] at hi hj
        have := hr _ _ hi
        have := hr _ _ hj
        omega
    · by_cases h1 : k9 < W1.length
      · rw [List.getElem?_append_left h1] at hx
        exact hD1.2 k9 x hx
      · rw [List.getElem?_append_right (by omega)] at hx
        have := hr _ _ hx
        exact hA _ (by have := hS.1; omega)
  have hAr : ArrOfT s cA (.array ty) := fun N9 z9 => by
    obtain ⟨-, k9, hk9, cm9, hkk9⟩ := (hO 0 0 0).1
    exact ⟨(fun q hq => by cases hq), k9, hk9, cm9, hkk9⟩
  have hK2 : va_K D cl (tys ++ [(cA, .array ty)]) s := ⟨hK.1, fun k9 x hx => by
    by_cases hl : k9 < tys.length
    · rw [List.getElem?_append_left hl] at hx
      exact hK.2 k9 x hx
    · rw [List.getElem?_append_right (by omega)] at hx
      have h0 : k9 - tys.length < 1 := (List.getElem?_eq_some_iff.mp hx).1
      rw [show k9 - tys.length = 0 by omega] at hx
      cases hx
      exact ⟨hAr, fA⟩⟩
  obtain ⟨t, a1, b1⟩ := kk H.size (fun i => H.size + 1 + i) cA F.heap (fun i j _ _ h => by have h9 : H.size + 1 + i = H.size + 1 + j := h; omega) hnl hK2 (by rw [← vr_rows hnm]; exact vr_lay hP2) (by rw [← vr_rows hnm]; exact vr_layD hD2) ⟨by rw [f1]; have := hS.1; omega, fun x h1 h2 => (hold x (Nat.lt_of_lt_of_le h1 hS.1)).trans (hS.2.1 x h1 h2), hS.2.2⟩ F rfl X'
  refine ⟨t, step t ?_, b1⟩
  have e : T.heap.size = H.size := by rw [hT]
  rw [e]
  exact a1
end VGM
/-! ===== END ===== -/

def RX0 : String := "PointFirst$Arms"
def TX0 : u_T := fun k => match k with
  | _ => ("PointFirst$Arms", "asked", "[I", true)
def tyX0 : Nat → FieldType := fun k => match k with
  | _ => .array .int
abbrev wsX00 : List Cond := u_ws RX0 TX0 1
theorem nmX0 : ∀ a, a < 1 → ∀ b, b < 1 → a ≠ b → (TX0 a).2.1 ≠ (TX0 b).2.1 := by decide +kernel
theorem tyX0_ok : ∀ k, k < 1 → parseFieldDescriptor (TX0 k).2.2.1 = some (tyX0 k) := by decide +kernel
abbrev cX0_init : ByteArray := prog_2_method_1_code
def yX0_init : MethodName := ⟨RX0, "<init>", "()V"⟩
abbrev cX0_ask : ByteArray := prog_2_method_2_code
def yX0_ask : MethodName := ⟨RX0, "ask", "(LPointFirst$Thrower;I)V"⟩
abbrev cX0_askThrow : ByteArray := prog_2_method_3_code
def yX0_askThrow : MethodName := ⟨RX0, "askThrow", "(III)V"⟩
abbrev cX0_askState : ByteArray := prog_2_method_4_code
def yX0_askState : MethodName := ⟨RX0, "askState", "(II)V"⟩
abbrev cX0_askBest : ByteArray := prog_2_method_5_code
def yX0_askBest : MethodName := ⟨RX0, "askBest", "(I)V"⟩
abbrev cX0_tell : ByteArray := prog_2_method_6_code
def yX0_tell : MethodName := ⟨RX0, "tell", "(LPointFirst$Law;I)I"⟩
def RX1 : String := "PointFirst$Chances"
def TX1 : u_T := fun k => match k with
  | 0 => ("PointFirst$Chances", "reaches", "[Z", true)
  | 1 => ("PointFirst$Chances", "most", "I", false)
  | 2 => ("PointFirst$Chances", "force", "I", false)
  | 3 => ("PointFirst$Chances", "arms", "LPointFirst$Arms;", true)
  | 4 => ("PointFirst$Chances", "known", "[[I", true)
  | 5 => ("PointFirst$Chances", "law", "LPointFirst$Law;", false)
  | 6 => ("PointFirst$Chances", "angle", "I", false)
  | 7 => ("PointFirst$Chances", "forces", "I", false)
  | _ => ("PointFirst$Chances", "thrown", "I", false)
def tyX1 : Nat → FieldType := fun k => match k with
  | 0 => .array .boolean
  | 1 => .int
  | 2 => .int
  | 3 => .object "PointFirst$Arms"
  | 4 => .array (.array .int)
  | 5 => .object "PointFirst$Law"
  | 6 => .int
  | 7 => .int
  | _ => .int
abbrev wsX10 : List Cond := u_ws RX1 TX1 9
theorem nmX1 : ∀ a, a < 9 → ∀ b, b < 9 → a ≠ b → (TX1 a).2.1 ≠ (TX1 b).2.1 := by decide +kernel
theorem tyX1_ok : ∀ k, k < 9 → parseFieldDescriptor (TX1 k).2.2.1 = some (tyX1 k) := by decide +kernel
abbrev cX1_init : ByteArray := prog_3_method_1_code
def yX1_init : MethodName := ⟨RX1, "<init>", "()V"⟩
abbrev cX1_choice : ByteArray := prog_3_method_2_code
def yX1_choice : MethodName := ⟨RX1, "choice", "(I)I"⟩
abbrev cX1_upTo : ByteArray := prog_3_method_3_code
def yX1_upTo : MethodName := ⟨RX1, "upTo", "(I)I"⟩
abbrev cX1_weigh : ByteArray := prog_3_method_4_code
def yX1_weigh : MethodName := ⟨RX1, "weigh", "(LPointFirst$World;LPointFirst$Thrower;II)V"⟩
abbrev cX1_by : ByteArray := prog_3_method_5_code
def yX1_by : MethodName := ⟨RX1, "by", "(III)I"⟩
abbrev cX1_greatest : ByteArray := prog_3_method_6_code
def yX1_greatest : MethodName := ⟨RX1, "greatest", "(II)I"⟩
def RX2 : String := "PointFirst$Flight"
def TX2 : u_T := fun k => match k with
  | 0 => ("PointFirst$Flight", "is", "[I", true)
  | 1 => ("PointFirst$Flight", "far", "I", false)
  | 2 => ("PointFirst$Flight", "off", "I", false)
  | 3 => ("PointFirst$Flight", "top", "I", false)
  | _ => ("PointFirst$Flight", "out", "I", false)
def tyX2 : Nat → FieldType := fun k => match k with
  | 0 => .array .int
  | 1 => .int
  | 2 => .int
  | 3 => .int
  | _ => .int
abbrev wsX20 : List Cond := u_ws RX2 TX2 5
theorem nmX2 : ∀ a, a < 5 → ∀ b, b < 5 → a ≠ b → (TX2 a).2.1 ≠ (TX2 b).2.1 := by decide +kernel
theorem tyX2_ok : ∀ k, k < 5 → parseFieldDescriptor (TX2 k).2.2.1 = some (tyX2 k) := by decide +kernel
abbrev cX2_init : ByteArray := prog_4_method_1_code
def yX2_init : MethodName := ⟨RX2, "<init>", "()V"⟩
abbrev cX2_begin : ByteArray := prog_4_method_2_code
def yX2_begin : MethodName := ⟨RX2, "begin", "(LPointFirst$World;IIIIII)V"⟩
abbrev cX2_sine : ByteArray := prog_4_method_3_code
def yX2_sine : MethodName := ⟨RX2, "sine", "(I)I"⟩
abbrev cX2_go : ByteArray := prog_4_method_4_code
def yX2_go : MethodName := ⟨RX2, "go", "(LPointFirst$Law;I)V"⟩
abbrev cX2_tick : ByteArray := prog_4_method_5_code
def yX2_tick : MethodName := ⟨RX2, "tick", "(LPointFirst$Law;)V"⟩
abbrev cX2_landing : ByteArray := prog_4_method_6_code
def yX2_landing : MethodName := ⟨RX2, "landing", "()I"⟩
abbrev cX2_how : ByteArray := prog_4_method_7_code
def yX2_how : MethodName := ⟨RX2, "how", "(I)I"⟩
def RX3 : String := "PointFirst$Law"
def TX3 : u_T := fun k => match k with
  | 0 => ("PointFirst$Law", "lines", "I", false)
  | 1 => ("PointFirst$Law", "steps", "I", false)
  | 2 => ("PointFirst$Law", "word", "[I", true)
  | 3 => ("PointFirst$Law", "from", "[I", true)
  | 4 => ("PointFirst$Law", "when", "[I", true)
  | 5 => ("PointFirst$Law", "to", "[I", true)
  | 6 => ("PointFirst$Law", "step", "[I", true)
  | _ => ("PointFirst$Law", "stack", "[I", true)
def tyX3 : Nat → FieldType := fun k => match k with
  | 0 => .int
  | 1 => .int
  | 2 => .array .int
  | 3 => .array .int
  | 4 => .array .int
  | 5 => .array .int
  | 6 => .array .int
  | _ => .array .int
abbrev wsX30 : List Cond := u_ws RX3 TX3 8
theorem nmX3 : ∀ a, a < 8 → ∀ b, b < 8 → a ≠ b → (TX3 a).2.1 ≠ (TX3 b).2.1 := by decide +kernel
theorem tyX3_ok : ∀ k, k < 8 → parseFieldDescriptor (TX3 k).2.2.1 = some (tyX3 k) := by decide +kernel
abbrev cX3_init : ByteArray := prog_5_method_1_code
def yX3_init : MethodName := ⟨RX3, "<init>", "()V"⟩
abbrev cX3_clear : ByteArray := prog_5_method_2_code
def yX3_clear : MethodName := ⟨RX3, "clear", "()V"⟩
abbrev cX3_copy : ByteArray := prog_5_method_3_code
def yX3_copy : MethodName := ⟨RX3, "copy", "(LPointFirst$Law;)V"⟩
abbrev cX3_beginLine : ByteArray := prog_5_method_4_code
def yX3_beginLine : MethodName := ⟨RX3, "beginLine", "(I)V"⟩
abbrev cX3_beginWhen : ByteArray := prog_5_method_5_code
def yX3_beginWhen : MethodName := ⟨RX3, "beginWhen", "()V"⟩
abbrev cX3_endLine : ByteArray := prog_5_method_6_code
def yX3_endLine : MethodName := ⟨RX3, "endLine", "()V"⟩
abbrev cX3_put : ByteArray := prog_5_method_7_code
def yX3_put : MethodName := ⟨RX3, "put", "(II)V"⟩
abbrev cX3_tell : ByteArray := prog_5_method_8_code
def yX3_tell : MethodName := ⟨RX3, "tell", "(I[I)I"⟩
abbrev cX3_count : ByteArray := prog_5_method_9_code
def yX3_count : MethodName := ⟨RX3, "count", "(II[I)I"⟩
abbrev cX3_join : ByteArray := prog_5_method_10_code
def yX3_join : MethodName := ⟨RX3, "join", "(III)I"⟩
def RX4 : String := "PointFirst$Past"
def TX4 : u_T := fun k => match k with
  | 0 => ("PointFirst$Past", "count", "I", false)
  | 1 => ("PointFirst$Past", "latest", "I", false)
  | _ => ("PointFirst$Past", "rows", "[[I", true)
def tyX4 : Nat → FieldType := fun k => match k with
  | 0 => .int
  | 1 => .int
  | _ => .array (.array .int)
abbrev wsX40 : List Cond := u_ws RX4 TX4 3
theorem nmX4 : ∀ a, a < 3 → ∀ b, b < 3 → a ≠ b → (TX4 a).2.1 ≠ (TX4 b).2.1 := by decide +kernel
theorem tyX4_ok : ∀ k, k < 3 → parseFieldDescriptor (TX4 k).2.2.1 = some (tyX4 k) := by decide +kernel
abbrev cX4_init : ByteArray := prog_6_method_1_code
def yX4_init : MethodName := ⟨RX4, "<init>", "()V"⟩
abbrev cX4_forget : ByteArray := prog_6_method_2_code
def yX4_forget : MethodName := ⟨RX4, "forget", "()V"⟩
abbrev cX4_remember : ByteArray := prog_6_method_3_code
def yX4_remember : MethodName := ⟨RX4, "remember", "(LPointFirst$World;LPointFirst$Thrower;)V"⟩
abbrev cX4_goBack : ByteArray := prog_6_method_4_code
def yX4_goBack : MethodName := ⟨RX4, "goBack", "(LPointFirst$World;)Z"⟩
def RX5 : String := "PointFirst$Reader"
def TX5 : u_T := fun k => match k with
  | 0 => ("PointFirst$Reader", "tape", "LPointFirst$Tape;", true)
  | 1 => ("PointFirst$Reader", "fault", "I", false)
  | 2 => ("PointFirst$Reader", "faultPlace", "I", false)
  | 3 => ("PointFirst$Reader", "law", "LPointFirst$Law;", true)
  | 4 => ("PointFirst$Reader", "orders", "[I", true)
  | 5 => ("PointFirst$Reader", "order", "I", false)
  | _ => ("PointFirst$Reader", "firstAsked", "I", false)
def tyX5 : Nat → FieldType := fun k => match k with
  | 0 => .object "PointFirst$Tape"
  | 1 => .int
  | 2 => .int
  | 3 => .object "PointFirst$Law"
  | 4 => .array .int
  | 5 => .int
  | _ => .int
abbrev wsX50 : List Cond := u_ws RX5 TX5 7
theorem nmX5 : ∀ a, a < 7 → ∀ b, b < 7 → a ≠ b → (TX5 a).2.1 ≠ (TX5 b).2.1 := by decide +kernel
theorem tyX5_ok : ∀ k, k < 7 → parseFieldDescriptor (TX5 k).2.2.1 = some (tyX5 k) := by decide +kernel
abbrev cX5_init : ByteArray := prog_7_method_1_code
def yX5_init : MethodName := ⟨RX5, "<init>", "()V"⟩
abbrev cX5_begin : ByteArray := prog_7_method_2_code
def yX5_begin : MethodName := ⟨RX5, "begin", "()V"⟩
abbrev cX5_fail : ByteArray := prog_7_method_3_code
def yX5_fail : MethodName := ⟨RX5, "fail", "(I)V"⟩
abbrev cX5_take : ByteArray := prog_7_method_4_code
def yX5_take : MethodName := ⟨RX5, "take", "(I)V"⟩
abbrev cX5_taken : ByteArray := prog_7_method_5_code
def yX5_taken : MethodName := ⟨RX5, "taken", "(I)Z"⟩
abbrev cX5_number : ByteArray := prog_7_method_6_code
def yX5_number : MethodName := ⟨RX5, "number", "(II)I"⟩
abbrev cX5_law : ByteArray := prog_7_method_7_code
def yX5_law : MethodName := ⟨RX5, "law", "(Ljava/lang/String;I)Z"⟩
abbrev cX5_anyOf : ByteArray := prog_7_method_8_code
def yX5_anyOf : MethodName := ⟨RX5, "anyOf", "(I)V"⟩
abbrev cX5_allOf : ByteArray := prog_7_method_9_code
def yX5_allOf : MethodName := ⟨RX5, "allOf", "(I)V"⟩
abbrev cX5_single : ByteArray := prog_7_method_10_code
def yX5_single : MethodName := ⟨RX5, "single", "(I)V"⟩
abbrev cX5_comparing : ByteArray := prog_7_method_11_code
def yX5_comparing : MethodName := ⟨RX5, "comparing", "()I"⟩
abbrev cX5_sum : ByteArray := prog_7_method_12_code
def yX5_sum : MethodName := ⟨RX5, "sum", "()V"⟩
abbrev cX5_operand : ByteArray := prog_7_method_13_code
def yX5_operand : MethodName := ⟨RX5, "operand", "()V"⟩
abbrev cX5_plan : ByteArray := prog_7_method_14_code
def yX5_plan : MethodName := ⟨RX5, "plan", "(I)Z"⟩
abbrev cX5_throwOrder : ByteArray := prog_7_method_15_code
def yX5_throwOrder : MethodName := ⟨RX5, "throwOrder", "(I)V"⟩
abbrev cX5_part : ByteArray := prog_7_method_16_code
def yX5_part : MethodName := ⟨RX5, "part", "(II)V"⟩
def RX6 : String := "PointFirst$Tape"
def TX6 : u_T := fun k => match k with
  | 0 => ("PointFirst$Tape", "length", "I", false)
  | 1 => ("PointFirst$Tape", "kind", "I", false)
  | 2 => ("PointFirst$Tape", "value", "I", false)
  | 3 => ("PointFirst$Tape", "place", "I", false)
  | 4 => ("PointFirst$Tape", "bytes", "[B", true)
  | 5 => ("PointFirst$Tape", "tokens", "I", false)
  | 6 => ("PointFirst$Tape", "token", "I", false)
  | 7 => ("PointFirst$Tape", "kinds", "[I", true)
  | 8 => ("PointFirst$Tape", "values", "[I", true)
  | _ => ("PointFirst$Tape", "places", "[I", true)
def tyX6 : Nat → FieldType := fun k => match k with
  | 0 => .int
  | 1 => .int
  | 2 => .int
  | 3 => .int
  | 4 => .array .byte
  | 5 => .int
  | 6 => .int
  | 7 => .array .int
  | 8 => .array .int
  | _ => .array .int
abbrev wsX60 : List Cond := u_ws RX6 TX6 10
theorem nmX6 : ∀ a, a < 10 → ∀ b, b < 10 → a ≠ b → (TX6 a).2.1 ≠ (TX6 b).2.1 := by decide +kernel
theorem tyX6_ok : ∀ k, k < 10 → parseFieldDescriptor (TX6 k).2.2.1 = some (tyX6 k) := by decide +kernel
abbrev cX6_init : ByteArray := prog_8_method_1_code
def yX6_init : MethodName := ⟨RX6, "<init>", "()V"⟩
abbrev cX6_add : ByteArray := prog_8_method_2_code
def yX6_add : MethodName := ⟨RX6, "add", "(I)V"⟩
abbrev cX6_next : ByteArray := prog_8_method_3_code
def yX6_next : MethodName := ⟨RX6, "next", "()V"⟩
abbrev cX6_byteAt : ByteArray := prog_8_method_4_code
def yX6_byteAt : MethodName := ⟨RX6, "byteAt", "(I)I"⟩
abbrev cX6_cut : ByteArray := prog_8_method_5_code
def yX6_cut : MethodName := ⟨RX6, "cut", "(Ljava/lang/String;)V"⟩
abbrev cX6_put : ByteArray := prog_8_method_6_code
def yX6_put : MethodName := ⟨RX6, "put", "(III)V"⟩
abbrev cX6_isLetter : ByteArray := prog_8_method_7_code
def yX6_isLetter : MethodName := ⟨RX6, "isLetter", "(I)Z"⟩
abbrev cX6_isDigit : ByteArray := prog_8_method_8_code
def yX6_isDigit : MethodName := ⟨RX6, "isDigit", "(I)Z"⟩
abbrev cX6_isSign : ByteArray := prog_8_method_9_code
def yX6_isSign : MethodName := ⟨RX6, "isSign", "(I)Z"⟩
abbrev cX6_runFrom : ByteArray := prog_8_method_10_code
def yX6_runFrom : MethodName := ⟨RX6, "runFrom", "(IZ)I"⟩
abbrev cX6_amount : ByteArray := prog_8_method_11_code
def yX6_amount : MethodName := ⟨RX6, "amount", "(II)I"⟩
abbrev cX6_numberOf : ByteArray := prog_8_method_12_code
def yX6_numberOf : MethodName := ⟨RX6, "numberOf", "(Ljava/lang/String;II)I"⟩
abbrev cX6_isSame : ByteArray := prog_8_method_13_code
def yX6_isSame : MethodName := ⟨RX6, "isSame", "(Ljava/lang/String;III)Z"⟩
def RX7 : String := "PointFirst$Thought"
def TX7 : u_T := fun k => match k with
  | 0 => ("PointFirst$Thought", "flight", "LPointFirst$Flight;", true)
  | 1 => ("PointFirst$Thought", "foundAngle", "I", false)
  | 2 => ("PointFirst$Thought", "foundFar", "I", false)
  | _ => ("PointFirst$Thought", "fars", "[I", true)
def tyX7 : Nat → FieldType := fun k => match k with
  | 0 => .object "PointFirst$Flight"
  | 1 => .int
  | 2 => .int
  | _ => .array .int
abbrev wsX70 : List Cond := u_ws RX7 TX7 4
theorem nmX7 : ∀ a, a < 4 → ∀ b, b < 4 → a ≠ b → (TX7 a).2.1 ≠ (TX7 b).2.1 := by decide +kernel
theorem tyX7_ok : ∀ k, k < 4 → parseFieldDescriptor (TX7 k).2.2.1 = some (tyX7 k) := by decide +kernel
abbrev cX7_init : ByteArray := prog_9_method_1_code
def yX7_init : MethodName := ⟨RX7, "<init>", "()V"⟩
abbrev cX7_far : ByteArray := prog_9_method_2_code
def yX7_far : MethodName := ⟨RX7, "far", "(LPointFirst$World;IIII)I"⟩
abbrev cX7_goodFar : ByteArray := prog_9_method_3_code
def yX7_goodFar : MethodName := ⟨RX7, "goodFar", "(LPointFirst$World;IIII)I"⟩
abbrev cX7_findAngle : ByteArray := prog_9_method_4_code
def yX7_findAngle : MethodName := ⟨RX7, "findAngle", "(LPointFirst$World;III)V"⟩
abbrev cX7_findSafe : ByteArray := prog_9_method_5_code
def yX7_findSafe : MethodName := ⟨RX7, "findSafe", "(LPointFirst$World;III)V"⟩
abbrev cX7_leastAround : ByteArray := prog_9_method_6_code
def yX7_leastAround : MethodName := ⟨RX7, "leastAround", "(II)I"⟩
abbrev cX7_found : ByteArray := prog_9_method_7_code
def yX7_found : MethodName := ⟨RX7, "found", "(II)V"⟩
abbrev cX7_angleFor : ByteArray := prog_9_method_8_code
def yX7_angleFor : MethodName := ⟨RX7, "angleFor", "(LPointFirst$World;IIII)I"⟩
def RX8 : String := "PointFirst$Thrower"
def TX8 : u_T := fun k => match k with
  | 0 => ("PointFirst$Thrower", "power", "I", false)
  | 1 => ("PointFirst$Thrower", "wear", "I", false)
  | 2 => ("PointFirst$Thrower", "best", "I", false)
  | 3 => ("PointFirst$Thrower", "thrown", "I", false)
  | 4 => ("PointFirst$Thrower", "orders", "I", false)
  | 5 => ("PointFirst$Thrower", "next", "I", false)
  | _ => ("PointFirst$Thrower", "plan", "[I", true)
def tyX8 : Nat → FieldType := fun k => match k with
  | 0 => .int
  | 1 => .int
  | 2 => .int
  | 3 => .int
  | 4 => .int
  | 5 => .int
  | _ => .array .int
abbrev wsX80 : List Cond := u_ws RX8 TX8 7
theorem nmX8 : ∀ a, a < 7 → ∀ b, b < 7 → a ≠ b → (TX8 a).2.1 ≠ (TX8 b).2.1 := by decide +kernel
theorem tyX8_ok : ∀ k, k < 7 → parseFieldDescriptor (TX8 k).2.2.1 = some (tyX8 k) := by decide +kernel
abbrev cX8_init : ByteArray := prog_10_method_1_code
def yX8_init : MethodName := ⟨RX8, "<init>", "()V"⟩
abbrev cX8_begin : ByteArray := prog_10_method_2_code
def yX8_begin : MethodName := ⟨RX8, "begin", "(I)V"⟩
abbrev cX8_beginMeet : ByteArray := prog_10_method_3_code
def yX8_beginMeet : MethodName := ⟨RX8, "beginMeet", "()V"⟩
abbrev cX8_copy : ByteArray := prog_10_method_4_code
def yX8_copy : MethodName := ⟨RX8, "copy", "(LPointFirst$Thrower;)V"⟩
abbrev cX8_order : ByteArray := prog_10_method_5_code
def yX8_order : MethodName := ⟨RX8, "order", "(II)I"⟩
abbrev cX8_throwsBy : ByteArray := prog_10_method_6_code
def yX8_throwsBy : MethodName := ⟨RX8, "throwsBy", "(I)Z"⟩
abbrev cX8_wouldThrow : ByteArray := prog_10_method_7_code
def yX8_wouldThrow : MethodName := ⟨RX8, "wouldThrow", "(III)Z"⟩
def RX9 : String := "PointFirst$Training"
def TX9 : u_T := fun k => match k with
  | 0 => ("PointFirst$Training", "power", "I", false)
  | 1 => ("PointFirst$Training", "hundreds", "I", false)
  | 2 => ("PointFirst$Training", "here", "[J", false)
  | 3 => ("PointFirst$Training", "there", "[J", false)
  | _ => ("PointFirst$Training", "asked", "[I", true)
def tyX9 : Nat → FieldType := fun k => match k with
  | 0 => .int
  | 1 => .int
  | 2 => .array .long
  | 3 => .array .long
  | _ => .array .int
abbrev wsX90 : List Cond := u_ws RX9 TX9 5
theorem nmX9 : ∀ a, a < 5 → ∀ b, b < 5 → a ≠ b → (TX9 a).2.1 ≠ (TX9 b).2.1 := by decide +kernel
theorem tyX9_ok : ∀ k, k < 5 → parseFieldDescriptor (TX9 k).2.2.1 = some (tyX9 k) := by decide +kernel
abbrev cX9_init : ByteArray := prog_11_method_1_code
def yX9_init : MethodName := ⟨RX9, "<init>", "()V"⟩
abbrev cX9_begin : ByteArray := prog_11_method_2_code
def yX9_begin : MethodName := ⟨RX9, "begin", "(II)V"⟩
abbrev cX9_put : ByteArray := prog_11_method_3_code
def yX9_put : MethodName := ⟨RX9, "put", "([JIII)V"⟩
abbrev cX9_week : ByteArray := prog_11_method_4_code
def yX9_week : MethodName := ⟨RX9, "week", "(LPointFirst$Law;II)V"⟩
abbrev cX9_spread : ByteArray := prog_11_method_5_code
def yX9_spread : MethodName := ⟨RX9, "spread", "(LPointFirst$Law;IIIII)V"⟩
abbrev cX9_judge : ByteArray := prog_11_method_6_code
def yX9_judge : MethodName := ⟨RX9, "judge", "()V"⟩
def RX10 : String := "PointFirst$World"
def TX10 : u_T := fun k => match k with
  | 0 => ("PointFirst$World", "state", "I", false)
  | 1 => ("PointFirst$World", "day", "I", false)
  | 2 => ("PointFirst$World", "round", "I", false)
  | 3 => ("PointFirst$World", "turn", "I", false)
  | 4 => ("PointFirst$World", "spears", "I", false)
  | 5 => ("PointFirst$World", "throwers", "I", false)
  | 6 => ("PointFirst$World", "lines", "I", false)
  | 7 => ("PointFirst$World", "gusts", "I", false)
  | 8 => ("PointFirst$World", "told", "[I", true)
  | 9 => ("PointFirst$World", "soft", "[I", true)
  | 10 => ("PointFirst$World", "tip", "[I", true)
  | 11 => ("PointFirst$World", "team", "[LPointFirst$Thrower;", true)
  | 12 => ("PointFirst$World", "lineOf", "[I", true)
  | 13 => ("PointFirst$World", "minute", "[I", true)
  | 14 => ("PointFirst$World", "flight", "LPointFirst$Law;", true)
  | 15 => ("PointFirst$World", "arms", "LPointFirst$Law;", true)
  | _ => ("PointFirst$World", "training", "LPointFirst$Law;", true)
def tyX10 : Nat → FieldType := fun k => match k with
  | 0 => .int
  | 1 => .int
  | 2 => .int
  | 3 => .int
  | 4 => .int
  | 5 => .int
  | 6 => .int
  | 7 => .int
  | 8 => .array .int
  | 9 => .array .int
  | 10 => .array .int
  | 11 => .array (.object "PointFirst$Thrower")
  | 12 => .array .int
  | 13 => .array .int
  | 14 => .object "PointFirst$Law"
  | 15 => .object "PointFirst$Law"
  | _ => .object "PointFirst$Law"
abbrev wsX100 : List Cond := u_ws RX10 TX10 17
theorem nmX10 : ∀ a, a < 17 → ∀ b, b < 17 → a ≠ b → (TX10 a).2.1 ≠ (TX10 b).2.1 := by decide +kernel
theorem tyX10_ok : ∀ k, k < 17 → parseFieldDescriptor (TX10 k).2.2.1 = some (tyX10 k) := by decide +kernel
abbrev cX10_init : ByteArray := prog_12_method_1_code
def yX10_init : MethodName := ⟨RX10, "<init>", "()V"⟩
abbrev cX10_copy : ByteArray := prog_12_method_2_code
def yX10_copy : MethodName := ⟨RX10, "copy", "(LPointFirst$World;)V"⟩
abbrev cX10_addSpear : ByteArray := prog_12_method_3_code
def yX10_addSpear : MethodName := ⟨RX10, "addSpear", "(II)I"⟩
abbrev cX10_addThrower : ByteArray := prog_12_method_4_code
def yX10_addThrower : MethodName := ⟨RX10, "addThrower", "(I)I"⟩
abbrev cX10_tell : ByteArray := prog_12_method_5_code
def yX10_tell : MethodName := ⟨RX10, "tell", "(II)Z"⟩
abbrev cX10_hasSpear : ByteArray := prog_12_method_6_code
def yX10_hasSpear : MethodName := ⟨RX10, "hasSpear", "(I)Z"⟩
abbrev cX10_hasLine : ByteArray := prog_12_method_7_code
def yX10_hasLine : MethodName := ⟨RX10, "hasLine", "(I)Z"⟩
abbrev cX10_one : ByteArray := prog_12_method_8_code
def yX10_one : MethodName := ⟨RX10, "one", "(I)LPointFirst$Thrower;"⟩
abbrev cX10_whose : ByteArray := prog_12_method_9_code
def yX10_whose : MethodName := ⟨RX10, "whose", "()LPointFirst$Thrower;"⟩
abbrev cX10_begun : ByteArray := prog_12_method_10_code
def yX10_begun : MethodName := ⟨RX10, "begun", "()Z"⟩
abbrev cX10_nextTurn : ByteArray := prog_12_method_11_code
def yX10_nextTurn : MethodName := ⟨RX10, "nextTurn", "()V"⟩
abbrev cX10_beginMeet : ByteArray := prog_12_method_12_code
def yX10_beginMeet : MethodName := ⟨RX10, "beginMeet", "()V"⟩
abbrev cX10_draw : ByteArray := prog_12_method_13_code
def yX10_draw : MethodName := ⟨RX10, "draw", "(I)I"⟩
abbrev cX10_swing : ByteArray := prog_12_method_14_code
def yX10_swing : MethodName := ⟨RX10, "swing", "(I)I"⟩
abbrev cX10_write : ByteArray := prog_12_method_15_code
def yX10_write : MethodName := ⟨RX10, "write", "(IIIIII)V"⟩
abbrev cX10_column : ByteArray := prog_12_method_16_code
def yX10_column : MethodName := ⟨RX10, "column", "(II)I"⟩
abbrev cX10_isToday : ByteArray := prog_12_method_17_code
def yX10_isToday : MethodName := ⟨RX10, "isToday", "(II)Z"⟩
abbrev cX10_rule : ByteArray := prog_12_method_18_code
def yX10_rule : MethodName := ⟨RX10, "rule", "(I)I"⟩
abbrev cX10_bestBefore : ByteArray := prog_12_method_19_code
def yX10_bestBefore : MethodName := ⟨RX10, "bestBefore", "(II)I"⟩
abbrev cX10_rank : ByteArray := prog_12_method_20_code
def yX10_rank : MethodName := ⟨RX10, "rank", "(LPointFirst$Thrower;)I"⟩
abbrev cX10_needs : ByteArray := prog_12_method_21_code
def yX10_needs : MethodName := ⟨RX10, "needs", "(I)I"⟩
abbrev cX10_ahead : ByteArray := prog_12_method_22_code
def yX10_ahead : MethodName := ⟨RX10, "ahead", "(I)I"⟩
def RX11 : String := "PointFirst"
def TX11 : u_T := fun k => match k with
  | 0 => ("PointFirst", "now", "LPointFirst$World;", true)
  | 1 => ("PointFirst", "reader", "LPointFirst$Reader;", true)
  | 2 => ("PointFirst", "thought", "LPointFirst$Thought;", true)
  | 3 => ("PointFirst", "arms", "LPointFirst$Arms;", true)
  | 4 => ("PointFirst", "past", "LPointFirst$Past;", true)
  | 5 => ("PointFirst", "kept", "LPointFirst$World;", false)
  | 6 => ("PointFirst", "chances", "LPointFirst$Chances;", false)
  | _ => ("PointFirst", "training", "LPointFirst$Training;", false)
def tyX11 : Nat → FieldType := fun k => match k with
  | 0 => .object "PointFirst$World"
  | 1 => .object "PointFirst$Reader"
  | 2 => .object "PointFirst$Thought"
  | 3 => .object "PointFirst$Arms"
  | 4 => .object "PointFirst$Past"
  | 5 => .object "PointFirst$World"
  | 6 => .object "PointFirst$Chances"
  | _ => .object "PointFirst$Training"
abbrev wsX110 : List Cond := u_ws RX11 TX11 8
theorem nmX11 : ∀ a, a < 8 → ∀ b, b < 8 → a ≠ b → (TX11 a).2.1 ≠ (TX11 b).2.1 := by decide +kernel
theorem tyX11_ok : ∀ k, k < 8 → parseFieldDescriptor (TX11 k).2.2.1 = some (tyX11 k) := by decide +kernel
abbrev cX11_init : ByteArray := prog_1_method_1_code
def yX11_init : MethodName := ⟨RX11, "<init>", "()V"⟩
abbrev cX11_state : ByteArray := prog_1_method_2_code
def yX11_state : MethodName := ⟨RX11, "state", "(I)I"⟩
abbrev cX11_spear : ByteArray := prog_1_method_3_code
def yX11_spear : MethodName := ⟨RX11, "spear", "(II)I"⟩
abbrev cX11_thrower : ByteArray := prog_1_method_4_code
def yX11_thrower : MethodName := ⟨RX11, "thrower", "(I)I"⟩
abbrev cX11_set : ByteArray := prog_1_method_5_code
def yX11_set : MethodName := ⟨RX11, "set", "(III)Z"⟩
abbrev cX11_tellThrower : ByteArray := prog_1_method_6_code
def yX11_tellThrower : MethodName := ⟨RX11, "tellThrower", "(III)Z"⟩
abbrev cX11_feed : ByteArray := prog_1_method_7_code
def yX11_feed : MethodName := ⟨RX11, "feed", "(IIIII)I"⟩
abbrev cX11_end : ByteArray := prog_1_method_8_code
def yX11_end : MethodName := ⟨RX11, "end", "(I)Z"⟩
abbrev cX11_text : ByteArray := prog_1_method_9_code
def yX11_text : MethodName := ⟨RX11, "text", "(II)I"⟩
abbrev cX11_keepLaw : ByteArray := prog_1_method_10_code
def yX11_keepLaw : MethodName := ⟨RX11, "keepLaw", "(LPointFirst$Law;)I"⟩
abbrev cX11_keepPlan : ByteArray := prog_1_method_11_code
def yX11_keepPlan : MethodName := ⟨RX11, "keepPlan", "(LPointFirst$Thrower;)I"⟩
abbrev cX11_fault : ByteArray := prog_1_method_12_code
def yX11_fault : MethodName := ⟨RX11, "fault", "(I)I"⟩
abbrev cX11_gust : ByteArray := prog_1_method_13_code
def yX11_gust : MethodName := ⟨RX11, "gust", "(I)I"⟩
abbrev cX11_throwIt : ByteArray := prog_1_method_14_code
def yX11_throwIt : MethodName := ⟨RX11, "throwIt", "(IIII)I"⟩
abbrev cX11_canThrow : ByteArray := prog_1_method_15_code
def yX11_canThrow : MethodName := ⟨RX11, "canThrow", "(III)Z"⟩
abbrev cX11_hurl : ByteArray := prog_1_method_16_code
def yX11_hurl : MethodName := ⟨RX11, "hurl", "(LPointFirst$Thrower;IIII)I"⟩
abbrev cX11_pass : ByteArray := prog_1_method_17_code
def yX11_pass : MethodName := ⟨RX11, "pass", "()Z"⟩
abbrev cX11_turnsGo : ByteArray := prog_1_method_18_code
def yX11_turnsGo : MethodName := ⟨RX11, "turnsGo", "(I)I"⟩
abbrev cX11_turnByPlan : ByteArray := prog_1_method_19_code
def yX11_turnByPlan : MethodName := ⟨RX11, "turnByPlan", "(LPointFirst$Thrower;)Z"⟩
abbrev cX11_meet : ByteArray := prog_1_method_20_code
def yX11_meet : MethodName := ⟨RX11, "meet", "()V"⟩
abbrev cX11_days : ByteArray := prog_1_method_21_code
def yX11_days : MethodName := ⟨RX11, "days", "(I)Z"⟩
abbrev cX11_mend : ByteArray := prog_1_method_22_code
def yX11_mend : MethodName := ⟨RX11, "mend", "(LPointFirst$Thrower;)V"⟩
abbrev cX11_undo : ByteArray := prog_1_method_23_code
def yX11_undo : MethodName := ⟨RX11, "undo", "()Z"⟩
abbrev cX11_image : ByteArray := prog_1_method_24_code
def yX11_image : MethodName := ⟨RX11, "image", "(Z)Z"⟩
abbrev cX11_of : ByteArray := prog_1_method_25_code
def yX11_of : MethodName := ⟨RX11, "of", "(II)I"⟩
abbrev cX11_at : ByteArray := prog_1_method_26_code
def yX11_at : MethodName := ⟨RX11, "at", "(II)I"⟩
abbrev cX11_book : ByteArray := prog_1_method_27_code
def yX11_book : MethodName := ⟨RX11, "book", "(II)I"⟩
abbrev cX11_place : ByteArray := prog_1_method_28_code
def yX11_place : MethodName := ⟨RX11, "place", "(I)I"⟩
abbrev cX11_record : ByteArray := prog_1_method_29_code
def yX11_record : MethodName := ⟨RX11, "record", "(I)I"⟩
abbrev cX11_after : ByteArray := prog_1_method_30_code
def yX11_after : MethodName := ⟨RX11, "after", "(II)I"⟩
abbrev cX11_look : ByteArray := prog_1_method_31_code
def yX11_look : MethodName := ⟨RX11, "look", "(I)I"⟩
abbrev cX11_fly : ByteArray := prog_1_method_32_code
def yX11_fly : MethodName := ⟨RX11, "fly", "(IIIIIII)I"⟩
abbrev cX11_canBlow : ByteArray := prog_1_method_33_code
def yX11_canBlow : MethodName := ⟨RX11, "canBlow", "(I)Z"⟩
abbrev cX11_angle : ByteArray := prog_1_method_34_code
def yX11_angle : MethodName := ⟨RX11, "angle", "(IIII)I"⟩
abbrev cX11_right : ByteArray := prog_1_method_35_code
def yX11_right : MethodName := ⟨RX11, "right", "(II)I"⟩
abbrev cX11_winds : ByteArray := prog_1_method_36_code
def yX11_winds : MethodName := ⟨RX11, "winds", "(IIIII)J"⟩
abbrev cX11_still : ByteArray := prog_1_method_37_code
def yX11_still : MethodName := ⟨RX11, "still", "(I)I"⟩
abbrev cX11_holds : ByteArray := prog_1_method_38_code
def yX11_holds : MethodName := ⟨RX11, "holds", "(III)I"⟩
abbrev cX11_chance : ByteArray := prog_1_method_39_code
def yX11_chance : MethodName := ⟨RX11, "chance", "(IIIIII)I"⟩
abbrev cX11_waitFor : ByteArray := prog_1_method_40_code
def yX11_waitFor : MethodName := ⟨RX11, "waitFor", "(IIII)I"⟩
abbrev cX11_leastForce : ByteArray := prog_1_method_41_code
def yX11_leastForce : MethodName := ⟨RX11, "leastForce", "(IIII)I"⟩
abbrev cX11_better : ByteArray := prog_1_method_42_code
def yX11_better : MethodName := ⟨RX11, "better", "(IIII)J"⟩
abbrev cX11_span : ByteArray := prog_1_method_43_code
def yX11_span : MethodName := ⟨RX11, "span", "(II)I"⟩
abbrev cX11_train : ByteArray := prog_1_method_44_code
def yX11_train : MethodName := ⟨RX11, "train", "(IIII)I"⟩
abbrev cX11_would : ByteArray := prog_1_method_45_code
def yX11_would : MethodName := ⟨RX11, "would", "(I)I"⟩
abbrev cX11_verdict : ByteArray := prog_1_method_46_code
def yX11_verdict : MethodName := ⟨RX11, "verdict", "(I)J"⟩
abbrev cX11_path : ByteArray := prog_1_method_47_code
def yX11_path : MethodName := ⟨RX11, "path", "(III)I"⟩
abbrev cX11_needed : ByteArray := prog_1_method_48_code
def yX11_needed : MethodName := ⟨RX11, "needed", "(IIII)I"⟩
abbrev cX11_rests : ByteArray := prog_1_method_49_code
def yX11_rests : MethodName := ⟨RX11, "rests", "(II)I"⟩
abbrev cX11_within : ByteArray := prog_1_method_50_code
def yX11_within : MethodName := ⟨RX11, "within", "(III)Z"⟩
abbrev cX11_hold : ByteArray := prog_1_method_51_code
def yX11_hold : MethodName := ⟨RX11, "hold", "(III)I"⟩
def RX12 : String := "PointFirstModel"
def TX12 : u_T := fun k => match k with
  | 0 => ("PointFirstModel", "w", "[I", true)
  | 1 => ("PointFirstModel", "kept", "[I", true)
  | 2 => ("PointFirstModel", "back", "[I", true)
  | 3 => ("PointFirstModel", "backMany", "I", false)
  | 4 => ("PointFirstModel", "hasImage", "Z", false)
  | 5 => ("PointFirstModel", "freshLine", "[I", true)
  | 6 => ("PointFirstModel", "freshStep", "[I", true)
  | 7 => ("PointFirstModel", "freshOrder", "[I", true)
  | 8 => ("PointFirstModel", "tape", "[I", true)
  | 9 => ("PointFirstModel", "pile", "[I", true)
  | 10 => ("PointFirstModel", "facts", "[I", true)
  | 11 => ("PointFirstModel", "lying", "[I", true)
  | 12 => ("PointFirstModel", "reading", "I", false)
  | 13 => ("PointFirstModel", "lines", "I", false)
  | 14 => ("PointFirstModel", "steps", "I", false)
  | 15 => ("PointFirstModel", "ordered", "I", false)
  | 16 => ("PointFirstModel", "taped", "I", false)
  | 17 => ("PointFirstModel", "at", "I", false)
  | 18 => ("PointFirstModel", "token", "I", false)
  | 19 => ("PointFirstModel", "tokenAt", "I", false)
  | 20 => ("PointFirstModel", "value", "I", false)
  | 21 => ("PointFirstModel", "wrong", "I", false)
  | 22 => ("PointFirstModel", "wrongAt", "I", false)
  | 23 => ("PointFirstModel", "faultKind", "I", false)
  | 24 => ("PointFirstModel", "depth", "I", false)
  | 25 => ("PointFirstModel", "faultPlace", "I", false)
  | 26 => ("PointFirstModel", "numbered", "I", false)
  | 27 => ("PointFirstModel", "fore", "I", false)
  | 28 => ("PointFirstModel", "up", "I", false)
  | 29 => ("PointFirstModel", "height", "I", false)
  | 30 => ("PointFirstModel", "far", "I", false)
  | 31 => ("PointFirstModel", "off", "I", false)
  | 32 => ("PointFirstModel", "aside", "I", false)
  | 33 => ("PointFirstModel", "pitch", "I", false)
  | 34 => ("PointFirstModel", "ticks", "I", false)
  | 35 => ("PointFirstModel", "highest", "I", false)
  | 36 => ("PointFirstModel", "bestAngle", "I", false)
  | 37 => ("PointFirstModel", "bestFar", "I", false)
  | 38 => ("PointFirstModel", "markForce", "I", false)
  | 39 => ("PointFirstModel", "markAngle", "I", false)
  | 40 => ("PointFirstModel", "reach", "[I", true)
  | 41 => ("PointFirstModel", "reachNext", "[I", true)
  | 42 => ("PointFirstModel", "mark", "[Z", true)
  | 43 => ("PointFirstModel", "chances", "[I", true)
  | 44 => ("PointFirstModel", "firsts", "[I", true)
  | _ => ("PointFirstModel", "reached", "[I", true)
def tyX12 : Nat → FieldType := fun k => match k with
  | 0 => .array .int
  | 1 => .array .int
  | 2 => .array .int
  | 3 => .int
  | 4 => .boolean
  | 5 => .array .int
  | 6 => .array .int
  | 7 => .array .int
  | 8 => .array .int
  | 9 => .array .int
  | 10 => .array .int
  | 11 => .array .int
  | 12 => .int
  | 13 => .int
  | 14 => .int
  | 15 => .int
  | 16 => .int
  | 17 => .int
  | 18 => .int
  | 19 => .int
  | 20 => .int
  | 21 => .int
  | 22 => .int
  | 23 => .int
  | 24 => .int
  | 25 => .int
  | 26 => .int
  | 27 => .int
  | 28 => .int
  | 29 => .int
  | 30 => .int
  | 31 => .int
  | 32 => .int
  | 33 => .int
  | 34 => .int
  | 35 => .int
  | 36 => .int
  | 37 => .int
  | 38 => .int
  | 39 => .int
  | 40 => .array .int
  | 41 => .array .int
  | 42 => .array .boolean
  | 43 => .array .int
  | 44 => .array .int
  | _ => .array .int
abbrev wsX120 : List Cond := u_ws RX12 TX12 46
theorem nmX12 : ∀ a, a < 46 → ∀ b, b < 46 → a ≠ b → (TX12 a).2.1 ≠ (TX12 b).2.1 := by decide +kernel
theorem tyX12_ok : ∀ k, k < 46 → parseFieldDescriptor (TX12 k).2.2.1 = some (tyX12 k) := by decide +kernel
abbrev cX12_init : ByteArray := prog_14_method_1_code
def yX12_init : MethodName := ⟨RX12, "<init>", "()V"⟩
abbrev cX12_isIn : ByteArray := prog_14_method_2_code
def yX12_isIn : MethodName := ⟨RX12, "isIn", "(III)Z"⟩
abbrev cX12_lesser : ByteArray := prog_14_method_3_code
def yX12_lesser : MethodName := ⟨RX12, "lesser", "(II)I"⟩
abbrev cX12_greater : ByteArray := prog_14_method_4_code
def yX12_greater : MethodName := ⟨RX12, "greater", "(II)I"⟩
abbrev cX12_held : ByteArray := prog_14_method_5_code
def yX12_held : MethodName := ⟨RX12, "held", "(III)I"⟩
abbrev cX12_weather : ByteArray := prog_14_method_6_code
def yX12_weather : MethodName := ⟨RX12, "weather", "(I)I"⟩
abbrev cX12_own : ByteArray := prog_14_method_7_code
def yX12_own : MethodName := ⟨RX12, "own", "(II)I"⟩
abbrev cX12_gives : ByteArray := prog_14_method_8_code
def yX12_gives : MethodName := ⟨RX12, "gives", "(III)V"⟩
abbrev cX12_isThrower : ByteArray := prog_14_method_9_code
def yX12_isThrower : MethodName := ⟨RX12, "isThrower", "(I)Z"⟩
abbrev cX12_isSpear : ByteArray := prog_14_method_10_code
def yX12_isSpear : MethodName := ⟨RX12, "isSpear", "(I)Z"⟩
abbrev cX12_forgets : ByteArray := prog_14_method_11_code
def yX12_forgets : MethodName := ⟨RX12, "forgets", "()V"⟩
abbrev cX12_state : ByteArray := prog_14_method_12_code
def yX12_state : MethodName := ⟨RX12, "state", "(I)I"⟩
abbrev cX12_draw : ByteArray := prog_14_method_13_code
def yX12_draw : MethodName := ⟨RX12, "draw", "(I)I"⟩
abbrev cX12_spear : ByteArray := prog_14_method_14_code
def yX12_spear : MethodName := ⟨RX12, "spear", "(II)I"⟩
abbrev cX12_thrower : ByteArray := prog_14_method_15_code
def yX12_thrower : MethodName := ⟨RX12, "thrower", "(I)I"⟩
abbrev cX12_leastOf : ByteArray := prog_14_method_16_code
def yX12_leastOf : MethodName := ⟨RX12, "leastOf", "(I)I"⟩
abbrev cX12_mostOf : ByteArray := prog_14_method_17_code
def yX12_mostOf : MethodName := ⟨RX12, "mostOf", "(I)I"⟩
abbrev cX12_set : ByteArray := prog_14_method_18_code
def yX12_set : MethodName := ⟨RX12, "set", "(III)Z"⟩
abbrev cX12_feed : ByteArray := prog_14_method_19_code
def yX12_feed : MethodName := ⟨RX12, "feed", "(IIIII)I"⟩
abbrev cX12_end : ByteArray := prog_14_method_20_code
def yX12_end : MethodName := ⟨RX12, "end", "(I)Z"⟩
abbrev cX12_see : ByteArray := prog_14_method_21_code
def yX12_see : MethodName := ⟨RX12, "see", "(I)I"⟩
abbrev cX12_isLetter : ByteArray := prog_14_method_22_code
def yX12_isLetter : MethodName := ⟨RX12, "isLetter", "(I)Z"⟩
abbrev cX12_isDigit : ByteArray := prog_14_method_23_code
def yX12_isDigit : MethodName := ⟨RX12, "isDigit", "(I)Z"⟩
abbrev cX12_is : ByteArray := prog_14_method_24_code
def yX12_is : MethodName := ⟨RX12, "is", "(Ljava/lang/String;)Z"⟩
abbrev cX12_flightWord : ByteArray := prog_14_method_25_code
def yX12_flightWord : MethodName := ⟨RX12, "flightWord", "()I"⟩
abbrev cX12_armWord : ByteArray := prog_14_method_26_code
def yX12_armWord : MethodName := ⟨RX12, "armWord", "()I"⟩
abbrev cX12_trainWord : ByteArray := prog_14_method_27_code
def yX12_trainWord : MethodName := ⟨RX12, "trainWord", "()I"⟩
abbrev cX12_planWord : ByteArray := prog_14_method_28_code
def yX12_planWord : MethodName := ⟨RX12, "planWord", "()I"⟩
abbrev cX12_word : ByteArray := prog_14_method_29_code
def yX12_word : MethodName := ⟨RX12, "word", "()I"⟩
abbrev cX12_next0 : ByteArray := prog_14_method_30_code
def yX12_next0 : MethodName := ⟨RX12, "next0", "()V"⟩
abbrev cX12_bad : ByteArray := prog_14_method_31_code
def yX12_bad : MethodName := ⟨RX12, "bad", "(I)Z"⟩
abbrev cX12_need : ByteArray := prog_14_method_32_code
def yX12_need : MethodName := ⟨RX12, "need", "(I)Z"⟩
abbrev cX12_lay : ByteArray := prog_14_method_33_code
def yX12_lay : MethodName := ⟨RX12, "lay", "(II)V"⟩
abbrev cX12_opens : ByteArray := prog_14_method_34_code
def yX12_opens : MethodName := ⟨RX12, "opens", "()Z"⟩
abbrev cX12_sumUp : ByteArray := prog_14_method_35_code
def yX12_sumUp : MethodName := ⟨RX12, "sumUp", "()Z"⟩
abbrev cX12_product : ByteArray := prog_14_method_36_code
def yX12_product : MethodName := ⟨RX12, "product", "()Z"⟩
abbrev cX12_unit : ByteArray := prog_14_method_37_code
def yX12_unit : MethodName := ⟨RX12, "unit", "()Z"⟩
abbrev cX12_any : ByteArray := prog_14_method_38_code
def yX12_any : MethodName := ⟨RX12, "any", "()Z"⟩
abbrev cX12_every : ByteArray := prog_14_method_39_code
def yX12_every : MethodName := ⟨RX12, "every", "()Z"⟩
abbrev cX12_oneTest : ByteArray := prog_14_method_40_code
def yX12_oneTest : MethodName := ⟨RX12, "oneTest", "()Z"⟩
abbrev cX12_aLine : ByteArray := prog_14_method_41_code
def yX12_aLine : MethodName := ⟨RX12, "aLine", "()Z"⟩
abbrev cX12_readsLaw : ByteArray := prog_14_method_42_code
def yX12_readsLaw : MethodName := ⟨RX12, "readsLaw", "()Z"⟩
abbrev cX12_number : ByteArray := prog_14_method_43_code
def yX12_number : MethodName := ⟨RX12, "number", "(II)Z"⟩
abbrev cX12_told : ByteArray := prog_14_method_44_code
def yX12_told : MethodName := ⟨RX12, "told", "(III)Z"⟩
abbrev cX12_aThrow : ByteArray := prog_14_method_45_code
def yX12_aThrow : MethodName := ⟨RX12, "aThrow", "()Z"⟩
abbrev cX12_anOrder : ByteArray := prog_14_method_46_code
def yX12_anOrder : MethodName := ⟨RX12, "anOrder", "()Z"⟩
abbrev cX12_readsPlan : ByteArray := prog_14_method_47_code
def yX12_readsPlan : MethodName := ⟨RX12, "readsPlan", "()Z"⟩
abbrev cX12_putsLaw : ByteArray := prog_14_method_48_code
def yX12_putsLaw : MethodName := ⟨RX12, "putsLaw", "(I)I"⟩
abbrev cX12_putsPlan : ByteArray := prog_14_method_49_code
def yX12_putsPlan : MethodName := ⟨RX12, "putsPlan", "(I)I"⟩
abbrev cX12_text : ByteArray := prog_14_method_50_code
def yX12_text : MethodName := ⟨RX12, "text", "(II)I"⟩
abbrev cX12_fault : ByteArray := prog_14_method_51_code
def yX12_fault : MethodName := ⟨RX12, "fault", "(I)I"⟩
abbrev cX12_both : ByteArray := prog_14_method_52_code
def yX12_both : MethodName := ⟨RX12, "both", "(III)I"⟩
abbrev cX12_comesTo : ByteArray := prog_14_method_53_code
def yX12_comesTo : MethodName := ⟨RX12, "comesTo", "(III)I"⟩
abbrev cX12_lawSays : ByteArray := prog_14_method_54_code
def yX12_lawSays : MethodName := ⟨RX12, "lawSays", "(IIII)I"⟩
abbrev cX12_armFacts : ByteArray := prog_14_method_55_code
def yX12_armFacts : MethodName := ⟨RX12, "armFacts", "(IIIIII)V"⟩
abbrev cX12_overOf : ByteArray := prog_14_method_56_code
def yX12_overOf : MethodName := ⟨RX12, "overOf", "()I"⟩
abbrev cX12_wearOf : ByteArray := prog_14_method_57_code
def yX12_wearOf : MethodName := ⟨RX12, "wearOf", "()I"⟩
abbrev cX12_sine : ByteArray := prog_14_method_58_code
def yX12_sine : MethodName := ⟨RX12, "sine", "(I)I"⟩
abbrev cX12_begins : ByteArray := prog_14_method_59_code
def yX12_begins : MethodName := ⟨RX12, "begins", "(III)V"⟩
abbrev cX12_ticksOn : ByteArray := prog_14_method_60_code
def yX12_ticksOn : MethodName := ⟨RX12, "ticksOn", "(III)V"⟩
abbrev cX12_flies : ByteArray := prog_14_method_61_code
def yX12_flies : MethodName := ⟨RX12, "flies", "(IIIIII)V"⟩
abbrev cX12_landed : ByteArray := prog_14_method_62_code
def yX12_landed : MethodName := ⟨RX12, "landed", "()I"⟩
abbrev cX12_isInSector : ByteArray := prog_14_method_63_code
def yX12_isInSector : MethodName := ⟨RX12, "isInSector", "()Z"⟩
abbrev cX12_isGood : ByteArray := prog_14_method_64_code
def yX12_isGood : MethodName := ⟨RX12, "isGood", "()Z"⟩
abbrev cX12_keeps : ByteArray := prog_14_method_65_code
def yX12_keeps : MethodName := ⟨RX12, "keeps", "()V"⟩
abbrev cX12_undo : ByteArray := prog_14_method_66_code
def yX12_undo : MethodName := ⟨RX12, "undo", "()Z"⟩
abbrev cX12_nextTurn : ByteArray := prog_14_method_67_code
def yX12_nextTurn : MethodName := ⟨RX12, "nextTurn", "()V"⟩
abbrev cX12_slipped : ByteArray := prog_14_method_68_code
def yX12_slipped : MethodName := ⟨RX12, "slipped", "(II)I"⟩
abbrev cX12_notes : ByteArray := prog_14_method_69_code
def yX12_notes : MethodName := ⟨RX12, "notes", "(IIIIII)V"⟩
abbrev cX12_throwsIt : ByteArray := prog_14_method_70_code
def yX12_throwsIt : MethodName := ⟨RX12, "throwsIt", "(IIII)I"⟩
abbrev cX12_isOn : ByteArray := prog_14_method_71_code
def yX12_isOn : MethodName := ⟨RX12, "isOn", "()Z"⟩
abbrev cX12_throwIt : ByteArray := prog_14_method_72_code
def yX12_throwIt : MethodName := ⟨RX12, "throwIt", "(IIII)I"⟩
abbrev cX12_pass : ByteArray := prog_14_method_73_code
def yX12_pass : MethodName := ⟨RX12, "pass", "()Z"⟩
abbrev cX12_passesBy : ByteArray := prog_14_method_74_code
def yX12_passesBy : MethodName := ⟨RX12, "passesBy", "(III)Z"⟩
abbrev cX12_goesOn : ByteArray := prog_14_method_75_code
def yX12_goesOn : MethodName := ⟨RX12, "goesOn", "()Z"⟩
abbrev cX12_turnsGo : ByteArray := prog_14_method_76_code
def yX12_turnsGo : MethodName := ⟨RX12, "turnsGo", "(I)I"⟩
abbrev cX12_meet : ByteArray := prog_14_method_77_code
def yX12_meet : MethodName := ⟨RX12, "meet", "()V"⟩
abbrev cX12_days : ByteArray := prog_14_method_78_code
def yX12_days : MethodName := ⟨RX12, "days", "(I)Z"⟩
abbrev cX12_rank : ByteArray := prog_14_method_79_code
def yX12_rank : MethodName := ⟨RX12, "rank", "(I)I"⟩
abbrev cX12_needs : ByteArray := prog_14_method_80_code
def yX12_needs : MethodName := ⟨RX12, "needs", "(I)I"⟩
abbrev cX12_ruled : ByteArray := prog_14_method_81_code
def yX12_ruled : MethodName := ⟨RX12, "ruled", "(I)I"⟩
abbrev cX12_of : ByteArray := prog_14_method_82_code
def yX12_of : MethodName := ⟨RX12, "of", "(II)I"⟩
abbrev cX12_at : ByteArray := prog_14_method_83_code
def yX12_at : MethodName := ⟨RX12, "at", "(II)I"⟩
abbrev cX12_book : ByteArray := prog_14_method_84_code
def yX12_book : MethodName := ⟨RX12, "book", "(II)I"⟩
abbrev cX12_fly : ByteArray := prog_14_method_85_code
def yX12_fly : MethodName := ⟨RX12, "fly", "(IIIIIII)I"⟩
abbrev cX12_goodFar : ByteArray := prog_14_method_86_code
def yX12_goodFar : MethodName := ⟨RX12, "goodFar", "(IIII)I"⟩
abbrev cX12_laysAngle : ByteArray := prog_14_method_87_code
def yX12_laysAngle : MethodName := ⟨RX12, "laysAngle", "(III)V"⟩
abbrev cX12_safeFar : ByteArray := prog_14_method_88_code
def yX12_safeFar : MethodName := ⟨RX12, "safeFar", "(IIII)I"⟩
abbrev cX12_laysSafe : ByteArray := prog_14_method_89_code
def yX12_laysSafe : MethodName := ⟨RX12, "laysSafe", "(III)V"⟩
abbrev cX12_isForce : ByteArray := prog_14_method_90_code
def yX12_isForce : MethodName := ⟨RX12, "isForce", "(I)Z"⟩
abbrev cX12_isWind : ByteArray := prog_14_method_91_code
def yX12_isWind : MethodName := ⟨RX12, "isWind", "(I)Z"⟩
abbrev cX12_angle : ByteArray := prog_14_method_92_code
def yX12_angle : MethodName := ⟨RX12, "angle", "(IIII)I"⟩
abbrev cX12_right : ByteArray := prog_14_method_93_code
def yX12_right : MethodName := ⟨RX12, "right", "(II)I"⟩
abbrev cX12_winds : ByteArray := prog_14_method_94_code
def yX12_winds : MethodName := ⟨RX12, "winds", "(IIIII)J"⟩
abbrev cX12_still : ByteArray := prog_14_method_95_code
def yX12_still : MethodName := ⟨RX12, "still", "(I)I"⟩
abbrev cX12_laysMark : ByteArray := prog_14_method_96_code
def yX12_laysMark : MethodName := ⟨RX12, "laysMark", "(III)V"⟩
abbrev cX12_leastForce : ByteArray := prog_14_method_97_code
def yX12_leastForce : MethodName := ⟨RX12, "leastForce", "(IIII)I"⟩
abbrev cX12_better : ByteArray := prog_14_method_98_code
def yX12_better : MethodName := ⟨RX12, "better", "(IIII)J"⟩
abbrev cX12_isLine : ByteArray := prog_14_method_99_code
def yX12_isLine : MethodName := ⟨RX12, "isLine", "(I)Z"⟩
abbrev cX12_span : ByteArray := prog_14_method_100_code
def yX12_span : MethodName := ⟨RX12, "span", "(II)I"⟩
abbrev cX12_path : ByteArray := prog_14_method_101_code
def yX12_path : MethodName := ⟨RX12, "path", "(III)I"⟩
abbrev cX12_record : ByteArray := prog_14_method_102_code
def yX12_record : MethodName := ⟨RX12, "record", "(I)I"⟩
abbrev cX12_needed : ByteArray := prog_14_method_103_code
def yX12_needed : MethodName := ⟨RX12, "needed", "(IIII)I"⟩
abbrev cX12_rests : ByteArray := prog_14_method_104_code
def yX12_rests : MethodName := ⟨RX12, "rests", "(II)I"⟩
abbrev cX12_place : ByteArray := prog_14_method_105_code
def yX12_place : MethodName := ⟨RX12, "place", "(I)I"⟩
abbrev cX12_after : ByteArray := prog_14_method_106_code
def yX12_after : MethodName := ⟨RX12, "after", "(II)I"⟩
abbrev cX12_isMeant : ByteArray := prog_14_method_107_code
def yX12_isMeant : MethodName := ⟨RX12, "isMeant", "()V"⟩
abbrev cX12_would : ByteArray := prog_14_method_108_code
def yX12_would : MethodName := ⟨RX12, "would", "(I)I"⟩
abbrev cX12_verdict : ByteArray := prog_14_method_109_code
def yX12_verdict : MethodName := ⟨RX12, "verdict", "(I)J"⟩
abbrev cX12_trains : ByteArray := prog_14_method_110_code
def yX12_trains : MethodName := ⟨RX12, "trains", "(IIIII)I"⟩
abbrev cX12_trained : ByteArray := prog_14_method_111_code
def yX12_trained : MethodName := ⟨RX12, "trained", "(IIII)I"⟩
abbrev cX12_train : ByteArray := prog_14_method_112_code
def yX12_train : MethodName := ⟨RX12, "train", "(IIII)I"⟩
abbrev cX12_holds : ByteArray := prog_14_method_113_code
def yX12_holds : MethodName := ⟨RX12, "holds", "(III)I"⟩
abbrev cX12_laysReached : ByteArray := prog_14_method_114_code
def yX12_laysReached : MethodName := ⟨RX12, "laysReached", "(III)V"⟩
abbrev cX12_chanceBy : ByteArray := prog_14_method_115_code
def yX12_chanceBy : MethodName := ⟨RX12, "chanceBy", "(IIIII)I"⟩
abbrev cX12_chance : ByteArray := prog_14_method_116_code
def yX12_chance : MethodName := ⟨RX12, "chance", "(IIIIII)I"⟩
abbrev cX12_gust : ByteArray := prog_14_method_117_code
def yX12_gust : MethodName := ⟨RX12, "gust", "(I)I"⟩
abbrev cX12_waitFor : ByteArray := prog_14_method_118_code
def yX12_waitFor : MethodName := ⟨RX12, "waitFor", "(IIII)I"⟩
abbrev cX12_image : ByteArray := prog_14_method_119_code
def yX12_image : MethodName := ⟨RX12, "image", "(Z)Z"⟩
abbrev cX12_look : ByteArray := prog_14_method_120_code
def yX12_look : MethodName := ⟨RX12, "look", "(I)I"⟩
def RJx145de : String := "java/io/Serializable"
def TJx145de : u_T := fun k => match k with
  | _ => ("", "", "", false)
def tyJx145de : Nat → FieldType := fun k => match k with
  | _ => .int
def RJx9f9b0 : String := "java/lang/CharSequence"
def TJx9f9b0 : u_T := fun k => match k with
  | _ => ("", "", "", false)
def tyJx9f9b0 : Nat → FieldType := fun k => match k with
  | _ => .int
def RJxb160c : String := "java/lang/Comparable"
def TJxb160c : u_T := fun k => match k with
  | _ => ("", "", "", false)
def tyJxb160c : Nat → FieldType := fun k => match k with
  | _ => .int
def RJ9 : String := "java/lang/Math"
def TJ9 : u_T := fun k => match k with
  | _ => ("", "", "", false)
def tyJ9 : Nat → FieldType := fun k => match k with
  | _ => .int
abbrev cJ9_abs_0f7a4 : ByteArray := prog_15_method_59_code
def yJ9_abs_0f7a4 : MethodName := ⟨RJ9, "abs", "(I)I"⟩
abbrev cJ9_abs_067f4 : ByteArray := prog_15_method_61_code
def yJ9_abs_067f4 : MethodName := ⟨RJ9, "abs", "(J)J"⟩
abbrev cJ9_max_7cf53 : ByteArray := prog_15_method_65_code
def yJ9_max_7cf53 : MethodName := ⟨RJ9, "max", "(II)I"⟩
abbrev cJ9_min_7cf53 : ByteArray := prog_15_method_69_code
def yJ9_min_7cf53 : MethodName := ⟨RJ9, "min", "(II)I"⟩
def RJ0 : String := "java/lang/String"
def TJ0 : u_T := fun k => match k with
  | _ => ("", "", "", false)
def tyJ0 : Nat → FieldType := fun k => match k with
  | _ => .int
abbrev cJ0_length_8abf5 : ByteArray := prog_16_method_54_code
def yJ0_length_8abf5 : MethodName := ⟨RJ0, "length", "()I"⟩
abbrev cJ0_charAt_5068e : ByteArray := prog_16_method_56_code
def yJ0_charAt_5068e : MethodName := ⟨RJ0, "charAt", "(I)C"⟩
abbrev cJ0_coder_7d493 : ByteArray := prog_16_method_152_code
def yJ0_coder_7d493 : MethodName := ⟨RJ0, "coder", "()B"⟩
abbrev cJ0_isLatin1_aae02 : ByteArray := prog_16_method_154_code
def yJ0_isLatin1_aae02 : MethodName := ⟨RJ0, "isLatin1", "()Z"⟩
abbrev cJ0_checkIndex_df160 : ByteArray := prog_16_method_155_code
def yJ0_checkIndex_df160 : MethodName := ⟨RJ0, "checkIndex", "(II)V"⟩
def RJ1 : String := "java/lang/StringLatin1"
def TJ1 : u_T := fun k => match k with
  | _ => ("", "", "", false)
def tyJ1 : Nat → FieldType := fun k => match k with
  | _ => .int
abbrev cJ1_charAt_3b067 : ByteArray := prog_17_method_2_code
def yJ1_charAt_3b067 : MethodName := ⟨RJ1, "charAt", "([BI)C"⟩
def RJ2 : String := "java/lang/StringUTF16"
def TJ2 : u_T := fun k => match k with
  | _ => ("", "", "", false)
def tyJ2 : Nat → FieldType := fun k => match k with
  | _ => .int
abbrev cJ2_getChar_3b067 : ByteArray := prog_18_method_5_code
def yJ2_getChar_3b067 : MethodName := ⟨RJ2, "getChar", "([BI)C"⟩
abbrev cJ2_length_9d52b : ByteArray := prog_18_method_6_code
def yJ2_length_9d52b : MethodName := ⟨RJ2, "length", "([B)I"⟩
abbrev cJ2_charAt_3b067 : ByteArray := prog_18_method_83_code
def yJ2_charAt_3b067 : MethodName := ⟨RJ2, "charAt", "([BI)C"⟩
abbrev cJ2_checkIndex_2214a : ByteArray := prog_18_method_91_code
def yJ2_checkIndex_2214a : MethodName := ⟨RJ2, "checkIndex", "(I[B)V"⟩
def RJ10 : String := "java/lang/System"
def TJ10 : u_T := fun k => match k with
  | _ => ("", "", "", false)
def tyJ10 : Nat → FieldType := fun k => match k with
  | _ => .int
def RJxfd54e : String := "java/lang/constant/Constable"
def TJxfd54e : u_T := fun k => match k with
  | _ => ("", "", "", false)
def tyJxfd54e : Nat → FieldType := fun k => match k with
  | _ => .int
def RJx3cf43 : String := "java/lang/constant/ConstantDesc"
def TJx3cf43 : u_T := fun k => match k with
  | _ => ("", "", "", false)
def tyJx3cf43 : Nat → FieldType := fun k => match k with
  | _ => .int
def RJ7 : String := "java/util/Arrays"
def TJ7 : u_T := fun k => match k with
  | _ => ("", "", "", false)
def tyJ7 : Nat → FieldType := fun k => match k with
  | _ => .int
abbrev cJ7_fill_d0a16 : ByteArray := prog_20_method_101_code
def yJ7_fill_d0a16 : MethodName := ⟨RJ7, "fill", "([JJ)V"⟩
abbrev cJ7_fill_53178 : ByteArray := prog_20_method_103_code
def yJ7_fill_53178 : MethodName := ⟨RJ7, "fill", "([II)V"⟩
def RJ3 : String := "jdk/internal/util/Preconditions"
def TJ3 : u_T := fun k => match k with
  | _ => ("", "", "", false)
def tyJ3 : Nat → FieldType := fun k => match k with
  | _ => .int
abbrev cJ3_checkIndex_8e157 : ByteArray := prog_21_method_11_code
def yJ3_checkIndex_8e157 : MethodName := ⟨RJ3, "checkIndex", "(IILjava/util/function/BiFunction;)I"⟩
def RL : String := "PointFirstLaw"
abbrev cL_law : ByteArray := code
def yL_law : MethodName := ⟨RL, "law", "([I)Z"⟩
abbrev vwCl : List vw_C := [(RX0, TX0, 1), (RX1, TX1, 9), (RX2, TX2, 5), (RX3, TX3, 8), (RX4, TX4, 3), (RX5, TX5, 7), (RX6, TX6, 10), (RX7, TX7, 4), (RX8, TX8, 7), (RX9, TX9, 5), (RX10, TX10, 17), (RX11, TX11, 8), (RX12, TX12, 46)]

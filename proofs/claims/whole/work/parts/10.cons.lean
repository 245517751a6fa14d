/-! making objects: the world as a list of cells, what was before (W0) first -/
abbrev tysd (d : Nat → ClassId) : List (ClassId × FieldType) := [(d 0, .int), (d 1, .byte), (d 2, .boolean), (d 3, .long), (d 4, .object RX8), (d 5, .array .int)]
def AOI (U : State) : Prop := (Cond.arrayOver (.array .int)).before #[] U = true
theorem AOI_spec {A : Array Value} {U : State} (h : (Cond.arrayOver (.array .int)).before A U = true) :
    ∃ comp c k, U.vm.findClass (FieldType.array .int).toString = some comp ∧ (U.vm.classes.findIdx? fun (x : Class) => match x.kind with | .array component _ => component == comp | _ => false) = some c ∧ U.vm.classes[c]? = some k ∧ k.kind = .array comp (.array .int) ∧ U.vm.findClass ("[" ++ (FieldType.array .int).toString) = some c := by
  unfold Cond.before at h
  simp only [Cond.holds, Cond.value, beq_iff_eq] at h
  cases hc : U.vm.findClass (FieldType.array .int).toString with
  | none => simp [hc] at h
  | some comp =>
    simp only [hc, Option.bind_some, Option.bind_eq_some_iff, Option.map_eq_some_iff] at h
    obtain ⟨c, hi, k, hk, hb⟩ := h
    obtain ⟨hlt, hp, -⟩ := Array.findIdx?_eq_some_iff_getElem.mp hi
    have hkk : U.vm.classes[c] = k := (Array.getElem?_eq_some_iff.mp hk).2
    rw [hkk] at hp
    cases hkind : k.kind with
    | array component ty =>
      rw [hkind] at hb hp
      simp at hb hp
      exact ⟨comp, c, k, rfl, hi, hk, by rw [hkind, hp, hb.1], hb.2⟩
    | _ => rw [hkind] at hb; simp at hb
theorem AOI.moved {u U : State} (hvm : u.vm.Alike U.vm) (h : AOI u) : AOI U := by
  obtain ⟨comp, c, k, h1, h2, h3, h4, h5⟩ := AOI_spec h
  obtain ⟨k', hk', he⟩ := hvm.2.2 _ _ h3
  have hi : (U.vm.classes.findIdx? fun (x : Class) => match x.kind with | .array component _ => component == comp | _ => false) = some c := by
    refine (va_idx_bare U.vm comp).symm.trans ?_
    have h6 := (va_idx_bare u.vm comp).trans h2
    first | rw [hvm.bare_eq] at h6 | rw [← hvm.bare_eq] at h6
    exact h6
  have hkind : k'.kind = .array comp (.array .int) := by rw [he]; exact h4
  have f1 : U.vm.findClass (FieldType.array .int).toString = some comp := by rw [hvm.findClass]; exact h1
  have f2 : U.vm.findClass ("[" ++ (FieldType.array .int).toString) = some c := by rw [hvm.findClass]; exact h5
  unfold AOI Cond.before Cond.holds
  simp only [Cond.value]
  rw [f1, Option.bind_some]
  refine (congrArg (fun o : Option Nat => (o.bind (fun c => (U.vm.classes[c]?).map fun (k : Class) => match k.kind with | .array _ ty => decide (ty = FieldType.array .int) && decide (U.vm.findClass ("[" ++ (FieldType.array .int).toString) = some c) | _ => false) == some true)) hi).trans ?_
  simp [hk', hkind, f2]
def KK (D : va_G) (d : Nat → ClassId) (U : State) : Prop := va_K D vwCl (tysd d) U ∧ va_AO RX8 U ∧ AOI U
theorem KK.moved {D : va_G} {d : Nat → ClassId} {u U : State} (hvm : u.vm.Alike U.vm) (h : KK D d u) : KK D d U := ⟨va_K.moved hvm h.1, va_AO.moved hvm h.2.1, AOI.moved hvm h.2.2⟩
def Hn (D : va_G) (s : State) (A : Nat → Prop) (W : va_W) (H : Heap) (locs : List Loc) : Prop := va_P D vwCl W H ∧ va_D A W ∧ va_S A s.heap H locs
abbrev Cn (p : Program) (s : State) (m : MethodId) (args : Array Value) (c : Code) (own : String) (cc : ByteArray) (nL : Nat) (D : va_G) (d : Nat → ClassId) : Prop := CallFix p m c cc nL s args wsG own ∧ KK D d s
/-- a constructor: out of the bare object at q the cells X q b come (b: the addresses of its parts) -/
def CNw (l : Launch) (D : va_G) (d : Nat → ClassId) (y : MethodName) (cc : ByteArray) (mL fr lo mc ms ci : Nat) (fs : List Value) (X : Nat → (Nat → Nat) → va_W) : Prop := ∀ (W0 : va_W) (q sz : Nat), Met l y (.code y cc mL none :: wsG) { frames := fr, cells := mc, slots := ms, locals := lo } (va_Pc [.ref q] (fun U => U.heap.size = sz ∧ va_P D vwCl (W0 ++ [(q, .inr (ci, fs))]) U.heap ∧ KK D d U ∧ va_D (fun _ => True) (W0 ++ [(q, .inr (ci, fs))]))) (va_Qv (fun _ : Nat → Nat => True) (fun b t => va_P D vwCl (W0 ++ X q b) t.heap ∧ va_D (va_A (W0 ++ [(q, .inr (ci, fs))]) sz) (W0 ++ X q b)) (va_A (W0 ++ [(q, .inr (ci, fs))]) sz)) mc ms (va_A (W0 ++ [(q, .inr (ci, fs))]) sz)
theorem Hn.eq {D : va_G} {s : State} {A : Nat → Prop} {W W' : va_W} {H : Heap} {locs : List Loc} (h : Hn D s A W H locs) (e : W = W') : Hn D s A W' H locs := e ▸ h
theorem ap_T {W0 l T t : va_W} : (W0 ++ (l ++ T)) ++ t = W0 ++ (l ++ (T ++ t)) := by simp
theorem ap_L {W0 l t : va_W} : (W0 ++ (l ++ [])) ++ t = W0 ++ ((l ++ t) ++ []) := by simp
theorem at_l {W0 l T : va_W} {j : Nat} {x : Nat × va_E} (h : l[j]? = some x) : (W0 ++ (l ++ T))[W0.length + j]? = some x := by
  have hj := (List.getElem?_eq_some_iff.mp h).1
  rw [List.getElem?_append_right (by omega), show W0.length + j - W0.length = j by omega, List.getElem?_append_left hj, h]
theorem set_l {W0 l T : va_W} {j : Nat} {x x0 : Nat × va_E} (h : l[j]? = some x0) : (W0 ++ (l ++ T)).set (W0.length + j) x = W0 ++ (l.set j x ++ T) := by
  have hj := (List.getElem?_eq_some_iff.mp h).1
  rw [List.set_append_right _ _ (by omega), show W0.length + j - W0.length = j by omega, List.set_append_left _ _ hj]
section PC
variable {p : Program} {l : Launch} {e : Env} {R : Room} {s : State} {m : MethodId} {args : Array Value} {below : List Frame} {meth : Method} {c : Code} {H : Heap} {locs : List Loc} {cells slots : Nat} {Q : State → Prop}
variable {cc cy : ByteArray} {pc nL mL fr lo mc ms index ci N q0 j : Nat} {ls : Array Slot} {rest : List Value} {D : va_G} {d : Nat → ClassId} {A : Nat → Prop} {own C : String} {y : MethodName} {T : u_T} {ty : Nat → FieldType} {fs : List Value} {X : Nat → (Nat → Nat) → va_W} {W0 W1 Tl : va_W} {li : va_W}
theorem eC (hy : plainName y.cls = true) (hyn : y.name = "<init>") (hcl : y.cls = own) (hmL : 1 ≤ mL) (body : ∀ (p : Program) (e : Env) (s : State) (m : MethodId) (args : Array Value) (below : List Frame) (meth : Method) (c : Code) (Q : State → Prop) (ls : Array Slot) (A : Nat → Prop) (W0 : va_W) (q : Nat), Cn p s m args c own cc mL D d → meth.name = "<init>" → lv_has ls mL [(0, .ref q)] → (∀ a, s.heap.size ≤ a → A a) → Hn D s A (W0 ++ ([(q, .inr (ci, fs))] ++ [])) s.heap [] → (∀ (b : Nat → Nat) (pc : Nat) (ls : Array Slot) (H : Heap) (locs : List Loc), decode cc pc = .ok (.return_, 1) → Hn D s A (W0 ++ X q b) H locs → W p l e { frames := fr, cells := mc, slots := ms, locals := lo } s m args below meth c H locs mc ms Q (F0 m pc ls [])) → W p l e { frames := fr, cells := mc, slots := ms, locals := lo } s m args below meth c s.heap [] 0 0 Q (F0 m 0 ls [])) : CNw l D d y cc mL fr lo mc ms ci fs X := by
  intro W0 q sz
  refine Met.ofW (cc := cc) (maxL := mL) (ret := none) hy rfl ?_
  intro p e s m args below meth c s₁ B hml hv
  obtain ⟨rfl, hsz, hP, hK, hD0⟩ := hv
  have hts := atoms_spec (ws := .code y cc mL none :: wsG) B.pre
  have hown : s.vm.findClass own = some m.cls := by rw [← hcl]; exact findClass_of_methodNamed B.named
  have hin : meth.name = "<init>" := by rw [← hyn]; exact (name_of_methodNamed B.named B.method).1
  obtain ⟨ls, e1, e2⟩ := lv_in [.ref q] mL (show (1 : Nat) ≤ mL from hmL)
  rw [e1 m]
  subst hsz
  have hw : Hn D s (va_A (W0 ++ [(q, .inr (ci, fs))]) s.heap.size) (W0 ++ ([(q, .inr (ci, fs))] ++ [])) s.heap [] := ⟨by simpa using hP, by simpa using hD0.self (sz := s.heap.size), va_S.rf⟩
  refine body p e s m _ below meth c _ ls _ W0 q ⟨⟨B.exec, B.bytes, hml, hown, fun w hw => hts w (List.mem_cons_of_mem _ hw)⟩, hK⟩ hin e2 (fun a ha => Or.inr ha) hw ?_
  intro b pc ls H locs hd hw
  exact W.vret B.exec B.bytes B.returns (fun t ht hW => ⟨⟨b, rfl, trivial, by rw [ht]; exact hw.1, hw.2.1⟩, hw.2.2.F ht⟩) hw.2.2.2.2 hd B.notSynchronized
/-- Object's constructor -/
theorem cO (G : Cn p s m args c own cc nL D d) (hls : ls.size = nL) (hlk : Cond.methodLink own index objectInit ∈ wsG) (hfr : 1 ≤ R.frames) (hlo : (rest.map fun v => v.category).sum + 12 ≤ R.locals) (hdg : decode cc pc = .ok (.invokespecial index, 3))
    (kk : W p l e R s m args below meth c H locs cells slots Q (F0 m (pc + 3) ls rest)) : W p l e R s m args below meth c H locs cells slots Q (F0 m pc ls (.ref q0 :: rest)) :=
  W.objInit G.1.1 G.1.2.1 G.1.2.2.2.1 (G.1.2.2.2.2 _ hlk) (G.1.2.2.2.2 _ im_objinit) (G.1.2.2.2.2 _ co_objinit) rfl (by rw [G.1.2.2.1]; exact hls) rfl hdg hfr (by show 2 * 0 + _ + 12 ≤ _; omega) kk
/-- a new array of numbers behind all -/
theorem cA (G : Cn p s m args c own cc nL D d) (hw : Hn D s A W1 H locs) (hA : ∀ a, s.heap.size ≤ a → A a) {at0 : ArrayType} {ft : FieldType} (hty : newarray.typeOf at0 = ft) (hac : Cond.arrayClass ft ∈ wsG) {t : Nat} (ht : (tysd d)[t]? = some (d t, ft)) (hra : ∀ (U : State) (cA : ClassId), va_RA U cA ft = (U.vm.findClass ("[" ++ ft.toString) = some cA)) {z : Int32} {n : Nat} {a0 : vp_A} (ha : ∀ cA : ClassId, vp_cell cA a0 = arrV cA n (fun _ => defaultValue ft)) (hz : ¬ z < 0) (hn : z.toNatClampNeg = n) (hby : n * componentBytes ft ≤ 536870912) (hc : cells + 1 ≤ R.cells) (hs : slots + n ≤ R.slots) (hdg : decode cc pc = .ok (.newarray at0, 2))
    (kk : ∀ (q : Nat) (H1 : Heap), Hn D s A (W1 ++ [(q, .inl (d t, a0))]) H1 locs → W p l e R s m args below meth c H1 locs (cells + 1) (slots + n) Q (F0 m (pc + 2) ls (.ref q :: rest))) : W p l e R s m args below meth c H locs cells slots Q (F0 m pc ls (.int z :: rest)) := by
  subst hty
  refine va_newa G.1.1 G.1.2.1 (atype := at0) (G.1.2.2.2.2 _ hac) rfl G.2.1 hw.1 hw.2.1 hw.2.2 hA ha hz hn hby hc hs hdg (fun q cA H1 hK1 hP hD hS => ?_)
  have e1 := (hK1.2 (tysd d).length (cA, newarray.typeOf at0) (by simp)).2
  have e2 := (G.2.1.2 t _ ht).2
  rw [hra] at e1 e2
  have e3 : cA = d t := Option.some.inj (e1.symm.trans e2)
  subst e3
  exact kk q H1 ⟨hP, hD, hS⟩
/-- new Thrower[n] -/
theorem cR (G : Cn p s m args c own cc nL D d) (hw : Hn D s A W1 H locs) (hA : ∀ a, s.heap.size ≤ a → A a) (hkl : Cond.classLink own index RX8 ∈ wsG) {z : Int32} {n : Nat} (hz : ¬ z < 0) (hn : z.toNatClampNeg = n) (hby : n * 4 ≤ 536870912) (hc : cells + 1 ≤ R.cells) (hs : slots + n ≤ R.slots) (hdg : decode cc pc = .ok (.anewarray index, 3))
    (kk : ∀ (q : Nat) (H1 : Heap), Hn D s A (W1 ++ [(q, .inl (d 4, n, .inr (.inr (.inr (.inr (fun _ => none))))))]) H1 locs → W p l e R s m args below meth c H1 locs (cells + 1) (slots + n) Q (F0 m (pc + 3) ls (.ref q :: rest))) : W p l e R s m args below meth c H locs cells slots Q (F0 m pc ls (.int z :: rest)) := by
  refine va_newq G.1.1 G.1.2.1 G.1.2.2.2.1 (G.1.2.2.2.2 _ hkl) G.2.2.1 G.2.1 hw.1 hw.2.1 hw.2.2 hA hz hn hby hc hs hdg (fun q cA H1 hK1 hP hD hS => ?_)
  obtain ⟨kA, comp, -, -, -, e1⟩ := (hK1.2 (tysd d).length (cA, .object RX8) (by simp)).2
  obtain ⟨kA2, comp2, -, -, -, e2⟩ := (G.2.1.2 4 (d 4, .object RX8) rfl).2
  have e3 : cA = d 4 := Option.some.inj (e1.symm.trans e2)
  subst e3
  exact kk q H1 ⟨hP, hD, hS⟩
/-- new int[n][k] -/
theorem cG (G : Cn p s m args c own cc nL D d) (hw : Hn D s A W1 H locs) (hA : ∀ a, s.heap.size ≤ a → A a) (hkl : Cond.classLink own index ("[" ++ (FieldType.array .int).toString) ∈ wsG) {z w : Int32} {n k : Nat} (hz : ¬ z < 0) (hw0 : ¬ w < 0) (hn : z.toNatClampNeg = n) (hk : w.toNatClampNeg = k) (hb1 : n * 4 ≤ 536870912) (hb2 : k * componentBytes .int ≤ 536870912) (hb3 : k ≤ 536870912) (hc : cells + (1 + n) ≤ R.cells) (hs : slots + (n + n * k) ≤ R.slots) (hdg : decode cc pc = .ok (.multianewarray index 2, 4))
    (kk : ∀ (q : Nat) (r : Nat → Nat) (H1 : Heap), Hn D s A (W1 ++ ((q, .inl (d 5, n, .inr (.inr (.inr (.inr (fun i => if i < n then some (r i) else none)))))) :: (List.range n).map (fun i => (r i, .inl (d 0, k, .inl (fun _ => 0)))))) H1 locs → W p l e R s m args below meth c H1 locs (cells + 1 + n) (slots + n + n * k) Q (F0 m (pc + 4) ls (.ref q :: rest))) : W p l e R s m args below meth c H locs cells slots Q (F0 m pc ls (.int w :: .int z :: rest)) := by
  have e2 := (G.2.1.2 0 (d 0, .int) rfl).2
  refine va_mna (X := W1) (L := []) (f := fun _ => .inr (0, [])) (ty := .int) (cy := d 0) (z := (k, .inl (fun _ => 0))) G.1.1 G.1.2.1 G.1.2.2.2.1 (G.1.2.2.2.2 _ hkl) G.2.2.2 (G.1.2.2.2.2 _ ac_int) e2 G.2.1 (by simpa [va_pl] using hw.1) (by simpa [va_pl] using hw.2.1) hw.2.2 hA hz hw0 hn hk hb1 hb2 hb3 rfl rfl hc hs (fun c0 => ?_) hdg (fun q r cA H1 hinj hnin hK1 hP hD hS => ?_)
  · show (Jvm.Free.Multi.innerC c0 k (defaultValue .int)) = arrV c0 k (fun _ => .int 0)
    rw [← arrV_new]
    rfl
  · have e1 := (hK1.2 (tysd d).length (cA, .array .int) (by simp)).2
    have e5 := (G.2.1.2 5 (d 5, .array .int) rfl).2
    have e3 : cA = d 5 := Option.some.inj ((show s.vm.findClass ("[" ++ (FieldType.array .int).toString) = some cA from e1).symm.trans e5)
    subst e3
    have el : ∀ x : Nat × va_E, (W1 ++ [x]) ++ va_pl ([] ++ (List.range n).map r) (vr_up (fun _ => .inr (0, [])) ((List.range n).map r) (.inl (d 0, (k, .inl (fun _ => 0))))) = W1 ++ (x :: (List.range n).map (fun i => (r i, .inl (d 0, k, .inl (fun _ => 0))))) := by
      intro x
      rw [List.append_assoc]
      congr 1
      simp only [List.nil_append, List.cons_append, va_pl, List.map_map]
      congr 1
      apply List.map_congr_left
      intro i hi
      show (r i, vr_up _ _ _ (r i)) = _
      rw [vr_up_in (List.mem_map.mpr ⟨i, hi, rfl⟩)]
    rw [el] at hP hD
    exact kk q r H1 ⟨hP, hD, hS⟩
/-- a new object behind all -/
theorem cN (G : Cn p s m args c own cc nL D d) (hw : Hn D s A W1 H locs) (hA : ∀ a, s.heap.size ≤ a → A a) (hc0 : CK ci C T N ty) (hkl : Cond.classLink own index C ∈ wsG) (hia : Cond.instantiable C N ∈ wsG) (hin : Cond.initialized C ∈ wsG) (hfs : ∀ j, j < N → defaultValue (ty j) = vp_V fs j) (hc : cells + 1 ≤ R.cells) (hs : slots + N ≤ R.slots) (hdg : decode cc pc = .ok (.new index, 3))
    (kk : ∀ (q : Nat) (H1 : Heap), Hn D s A (W1 ++ [(q, .inr (ci, fs))]) H1 locs → W p l e R s m args below meth c H1 locs (cells + 1) (slots + N) Q (F0 m (pc + 3) ls (.ref q :: rest))) : W p l e R s m args below meth c H locs cells slots Q (F0 m pc ls rest) :=
  va_new G.1.1 G.1.2.1 G.1.2.2.2.2 hc0.2.1 ty hc0.2.2.1 G.1.2.2.2.1 (G.1.2.2.2.2 _ hkl) (G.1.2.2.2.2 _ hia) (G.1.2.2.2.2 _ hin) G.2.1 hw.1 hw.2.1 hw.2.2 hA hc0.1 hfs hc hs hdg (fun q H1 hP hD hS => kk q H1 ⟨hP, hD, hS⟩)
/-- its constructor -/
theorem cK (G : Cn p s m args c own cc nL D d) (hw : Hn D s A (W1 ++ [(q0, .inr (ci, fs))]) H locs) (hA : ∀ a, s.heap.size ≤ a → A a) (hM : CNw l D d y cy mL fr lo mc ms ci fs X) (hlk : Cond.methodLink own index y ∈ wsG) (him : Cond.instanceMethod y ∈ wsG) (hini : Cond.initialized y.cls ∈ wsG) (hco : Cond.code y cy mL none ∈ wsG) (hyn : y.name = "<init>") (hd : y.cls ≠ "java/lang/invoke/MethodHandle" ∧ y.cls ≠ "java/lang/invoke/VarHandle" ∧ (parseMethodDescriptor y.desc).map (fun d => d.parameters.length) = some 0) (hR : fr + 1 ≤ R.frames ∧ 8 + (mL + 11) + lo ≤ R.locals) (hls : ls.size = nL) (hrm : (rest.map fun v => v.category).sum ≤ 8) (hcs : cells + mc ≤ R.cells ∧ slots + ms ≤ R.slots) (hdg : decode cc pc = .ok (.invokespecial index, 3))
    (kk : ∀ (b : Nat → Nat) (H1 : Heap) (locs1 : List Loc), Hn D s A (W1 ++ X q0 b) H1 locs1 → W p l e R s m args below meth c H1 locs1 (cells + mc) (slots + ms) Q (F0 m (pc + 3) ls rest)) : W p l e R s m args below meth c H locs cells slots Q (F0 m pc ls (.ref q0 :: rest)) := by
  have hts := G.1.2.2.2.2
  have hG : GoodIn wsG (.code y cy mL none :: wsG) := fun w hw => wsG_good (by rcases List.mem_cons.mp hw with rfl | q <;> assumption)
  have hF : ∀ a, va_A (W1 ++ [(q0, .inr (ci, fs))]) H.size a → A a := fun a ha => by
    rcases ha with ⟨k, x, h⟩ | h
    · exact hw.2.1.2 k _ h
    · exact hA a (Nat.le_trans hw.2.2.1 h)
  refine va_callv (va_runI (As := []) (rest := rest) G.1 (hM W1 q0 H.size) (cwI 0 hts hG rfl rfl rfl (hts _ hini) (hts _ hlk) (hts _ him) hyn hd hR) ⟨fun a U g mk q => ?_, fun U hU hW => ⟨rfl, by rw [hU], by rw [hU]; exact hw.1, KK.moved hW.alike G.2, hw.2.1.weaken (fun _ _ _ _ => trivial)⟩⟩ rfl rfl hls rfl (lv_room hrm) hdg hcs) hw.2.2 (fun q _ h => hF q h) hF (fun b t H1 locs1 ht hvm hr hB hz hk1 hS1 => ?_)
  · obtain ⟨x0, x1, xP, xK, xD⟩ := q
    exact ⟨x0, x1, xP, KK.moved (u := U) (U := U.calling g mk a) (Vm.Alike.refl U.vm) xK, xD⟩
  · refine kk b H1 locs1 ⟨by rw [← ht]; exact hB.1, hB.2.weaken (fun k x hx h => hF x.1 h), hS1⟩
/-- a final field of the object that is made: l's first cell -/
theorem cF (G : Cn p s m args c own cc nL D d) (hin : meth.name = "<init>") {fs : List Value} {li' : va_W} (hw : Hn D s A (W0 ++ (li ++ Tl)) H locs) (he : li[0]? = some (q0, .inr (ci, fs))) (hc0 : CK ci own T N ty) (j : Nat) (hj : j < N) {v : Value} (hn : narrow (ty j) v = v) (hf : fits (ty j) v = true) (hl : j < fs.length) (hfin : (T j).2.2.2 = true) (hli : li.set 0 (q0, .inr (ci, fs.set j v)) = li') (hlk : Cond.fieldLink own index own (T j).2.1 (T j).2.2.1 ∈ wsG) (hdg : decode cc pc = .ok (.putfield index, 3))
    (kk : ∀ (H1 : Heap) (locs1 : List Loc), Hn D s A (W0 ++ (li' ++ Tl)) H1 locs1 → W p l e R s m args below meth c H1 locs1 cells slots Q (F0 m (pc + 3) ls rest)) : W p l e R s m args below meth c H locs cells slots Q (F0 m pc ls (v :: .ref q0 :: rest)) := by
  refine va_putF G.1.1 G.1.2.1 G.1.2.2.2.2 hc0.2.1 ty hc0.2.2.1 hc0.2.2.2.1 G.1.2.2.2.1 G.2.1 hw.1 hw.2.1 hw.2.2 (W0.length + 0) (at_l he) hc0.1 j hj (G.1.2.2.2.2 _ hlk) (fun x hx => ?_) hfin hin (hc0.2.2.2.2 j hj) (hc0.2.2.1 j hj) hn hf hl hdg (fun H1 locs1 hP hD hS => ?_)
  · rw [hc0.2.2.2.2 j hj] at hx; exact hx
  · rw [set_l he, hli] at hP hD
    exact kk H1 locs1 ⟨hP, hD, hS⟩
/-- another field of it -/
theorem cP (G : Cn p s m args c own cc nL D d) {fs : List Value} {li' : va_W} (hw : Hn D s A (W0 ++ (li ++ Tl)) H locs) (he : li[0]? = some (q0, .inr (ci, fs))) (hc0 : CK ci own T N ty) (j : Nat) (hj : j < N) {v : Value} (hn : narrow (ty j) v = v) (hf : fits (ty j) v = true) (hl : j < fs.length) (hfin : (T j).2.2.2 = false) (hli : li.set 0 (q0, .inr (ci, fs.set j v)) = li') (hlk : Cond.fieldLink own index own (T j).2.1 (T j).2.2.1 ∈ wsG) (hdg : decode cc pc = .ok (.putfield index, 3))
    (kk : ∀ (H1 : Heap) (locs1 : List Loc), Hn D s A (W0 ++ (li' ++ Tl)) H1 locs1 → W p l e R s m args below meth c H1 locs1 cells slots Q (F0 m (pc + 3) ls rest)) : W p l e R s m args below meth c H locs cells slots Q (F0 m pc ls (v :: .ref q0 :: rest)) := by
  refine va_put G.1.1 G.1.2.1 G.1.2.2.2.2 hc0.2.1 ty hc0.2.2.1 hc0.2.2.2.1 G.1.2.2.2.1 G.2.1 hw.1 hw.2.1 hw.2.2 (W0.length + 0) (at_l he) hc0.1 j hj (G.1.2.2.2.2 _ hlk) (fun x hx => ?_) hfin (hc0.2.2.1 j hj) hn hf hl hdg (fun H1 locs1 hP hD hS => ?_)
  · rw [hc0.2.2.2.2 j hj] at hx; exact hx
  · rw [set_l he, hli] at hP hD
    exact kk H1 locs1 ⟨hP, hD, hS⟩
/-- a field of it is read -/
theorem cT (G : Cn p s m args c own cc nL D d) {fs : List Value} (hw : Hn D s A (W0 ++ (li ++ Tl)) H locs) (he : li[0]? = some (q0, .inr (ci, fs))) (hc0 : CK ci own T N ty) (j : Nat) (hj : j < N) {v : Value} (hv : fs[j]? = some v) (hlk : Cond.fieldLink own index own (T j).2.1 (T j).2.2.1 ∈ wsG) (hdg : decode cc pc = .ok (.getfield index, 3))
    (kk : W p l e R s m args below meth c H locs cells slots Q (F0 m (pc + 3) ls (v :: rest))) : W p l e R s m args below meth c H locs cells slots Q (F0 m pc ls (.ref q0 :: rest)) :=
  va_get G.1.1 G.1.2.1 G.1.2.2.2.2 hc0.2.1 G.1.2.2.2.1 G.2.1 hw.1 (W0.length + 0) (at_l he) hc0.1 j hj (G.1.2.2.2.2 _ hlk) (fun x hx => by rw [hc0.2.2.2.2 j hj] at hx; exact hx) hv hdg kk
/-- an int into an array of l -/
theorem cI (G : Cn p s m args c own cc nL D d) {li' : va_W} (hw : Hn D s A (W0 ++ (li ++ Tl)) H locs) (j : Nat) {n : Nat} {f : Nat → Int32} (he : li[j]? = some (q0, .inl (d 0, n, .inl f))) {i x : Int32} (hin : vp_in i n) {k : Nat} (hk : i.toNatClampNeg = k) (hli : li.set j (q0, .inl (d 0, n, .inl (upd f k x))) = li') (hdg : decode cc pc = .ok (.iastore, 1))
    (kk : ∀ (H1 : Heap) (locs1 : List Loc), Hn D s A (W0 ++ (li' ++ Tl)) H1 locs1 → W p l e R s m args below meth c H1 locs1 cells slots Q (F0 m (pc + 1) ls rest)) : W p l e R s m args below meth c H locs cells slots Q (F0 m pc ls (.int x :: .int i :: .ref q0 :: rest)) := by
  subst hk
  refine va_iast G.1.1 G.1.2.1 G.2.1 hw.1 hw.2.1 hw.2.2 (W0.length + j) 0 (at_l he) rfl hin hdg (fun H1 locs1 hP hD hS => ?_)
  rw [set_l he, hli] at hP hD
  exact kk H1 locs1 ⟨hP, hD, hS⟩
/-- a Thrower into the array of them; the Thrower's cells lie last -/
theorem cQ (G : Cn p s m args c own cc nL D d) {li' : va_W} {vs : List Value} {q1 : Nat} {rs : va_W} (hw : Hn D s A (W0 ++ (li ++ (Tl ++ ((q1, .inr (8, vs)) :: rs)))) H locs) (j : Nat) {n : Nat} {f : Nat → Option Nat} (he : li[j]? = some (q0, .inl (d 4, n, .inr (.inr (.inr (.inr f)))))) {i : Int32} (hin : vp_in i n) {k : Nat} (hk : i.toNatClampNeg = k) (hli : li.set j (q0, .inl (d 4, n, .inr (.inr (.inr (.inr (va_up f k (some q1))))))) = li') (hdg : decode cc pc = .ok (.aastore, 1))
    (kk : ∀ (H1 : Heap) (locs1 : List Loc), Hn D s A (W0 ++ (li' ++ (Tl ++ ((q1, .inr (8, vs)) :: rs)))) H1 locs1 → W p l e R s m args below meth c H1 locs1 cells slots Q (F0 m (pc + 1) ls rest)) : W p l e R s m args below meth c H locs cells slots Q (F0 m pc ls (.ref q1 :: .int i :: .ref q0 :: rest)) := by
  subst hk
  have hq1 : (W0 ++ (li ++ (Tl ++ ((q1, (.inr (8, vs) : va_E)) :: rs))))[W0.length + (li.length + Tl.length)]? = some (q1, .inr (8, vs)) := by
    rw [List.getElem?_append_right (by omega), show W0.length + (li.length + Tl.length) - W0.length = li.length + Tl.length by omega, List.getElem?_append_right (by omega), show li.length + Tl.length - li.length = Tl.length by omega, List.getElem?_append_right (by omega), Nat.sub_self]
    rfl
  refine va_astq G.1.1 G.1.2.1 G.2.1 hw.1 hw.2.1 hw.2.2 (W0.length + j) 4 (W0.length + (li.length + Tl.length)) 8 (r := (RX8, TX8, 7)) (at_l he) rfl hq1 rfl hin hdg (fun H1 locs1 hP hD hS => ?_)
  rw [set_l he, hli] at hP hD
  exact kk H1 locs1 ⟨hP, hD, hS⟩
end PC

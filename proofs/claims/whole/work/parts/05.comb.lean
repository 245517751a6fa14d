/-! the words that the functions are written with -/
def bL {α β : Sort _} (v : α) (f : α → β) : β := f v
noncomputable def bG {β : Type _} (P : Prop) (x : Option β) : Option β := @ite _ P (Classical.propDecidable P) x none
def bB {α β : Type _} (x : Option α) (f : α → Option β) : Option β := x.bind f
def bB2 {α σ β : Type _} (x : Option (α × σ)) (f : α → σ → Option β) : Option β := x.bind (fun q => f q.1 q.2)
def bT2 {α σ β : Type _} (x : α × σ) (f : α → σ → β) : β := f x.1 x.2
def bO {β : Type _} (o : Option Nat) (a : β) (f : Nat → β) : β := match o with
  | none => a
  | some k => f k
def bPn {σ ρ : Type} (b : σ → Option (σ ⊕ ρ)) : Nat → σ → Option ρ
  | 0, _ => none
  | n + 1, s => (b s).bind (fun z => Sum.elim (bPn b n) some z)
noncomputable def bP {σ ρ : Type} (b : σ → Option (σ ⊕ ρ)) (s : σ) : Option ρ := @dite _ (∃ r : ρ, ∃ n : Nat, bPn b n s = some r) (Classical.propDecidable _) (fun h => some h.choose) (fun _ => none)
def u1 {α β : Sort _} (f : α → β) : α → β := f
def u2 {α₁ α₂ β : Type _} (f : α₁ → α₂ → β) (q : α₁ × α₂) : β := f q.1 q.2
def u3 {α₁ α₂ α₃ β : Type _} (f : α₁ → α₂ → α₃ → β) (q : α₁ × α₂ × α₃) : β := f q.1 q.2.1 q.2.2
def u4 {α₁ α₂ α₃ α₄ β : Type _} (f : α₁ → α₂ → α₃ → α₄ → β) (q : α₁ × α₂ × α₃ × α₄) : β := f q.1 q.2.1 q.2.2.1 q.2.2.2
def u5 {α₁ α₂ α₃ α₄ α₅ β : Type _} (f : α₁ → α₂ → α₃ → α₄ → α₅ → β) (q : α₁ × α₂ × α₃ × α₄ × α₅) : β := f q.1 q.2.1 q.2.2.1 q.2.2.2.1 q.2.2.2.2
def u6 {α₁ α₂ α₃ α₄ α₅ α₆ β : Type _} (f : α₁ → α₂ → α₃ → α₄ → α₅ → α₆ → β) (q : α₁ × α₂ × α₃ × α₄ × α₅ × α₆) : β := f q.1 q.2.1 q.2.2.1 q.2.2.2.1 q.2.2.2.2.1 q.2.2.2.2.2
theorem bL_e {α β : Sort _} {v : α} {f : α → β} {Y : β} (h : bL v f = Y) : ∃ x, x = v ∧ f x = Y := ⟨v, rfl, h⟩
theorem bG_e {β : Type _} {P : Prop} {x : Option β} {r : β} (h : bG P x = some r) : P ∧ x = some r := by
  unfold bG at h
  by_cases hP : P
  · rw [if_pos hP] at h; exact ⟨hP, h⟩
  · rw [if_neg hP] at h; cases h
theorem bG_t {β : Type _} {P : Prop} {x : Option β} (h : P) : bG P x = x := by unfold bG; rw [if_pos h]
theorem bB_e {α β : Type _} {x : Option α} {f : α → Option β} {r : β} (h : bB x f = some r) : ∃ a, x = some a ∧ f a = some r := by
  cases x with
  | none => cases h
  | some a => exact ⟨a, rfl, h⟩
theorem bB2_e {α σ β : Type _} {x : Option (α × σ)} {f : α → σ → Option β} {r : β} (h : bB2 x f = some r) : ∃ a b, x = some (a, b) ∧ f a b = some r := by
  cases x with
  | none => cases h
  | some a => exact ⟨a.1, a.2, rfl, h⟩
theorem bT2_e {α σ β : Type _} {x : α × σ} {f : α → σ → β} {Y : β} (h : bT2 x f = Y) : ∃ a b, x = (a, b) ∧ f a b = Y := ⟨x.1, x.2, rfl, h⟩
theorem bO_n {β : Type _} {o : Option Nat} {a Y : β} {f : Nat → β} (e : o = none) (h : bO o a f = Y) : a = Y := by subst e; exact h
theorem bO_s {β : Type _} {o : Option Nat} {a Y : β} {f : Nat → β} {k : Nat} (e : o = some k) (h : bO o a f = Y) : f k = Y := by subst e; exact h
theorem bPn_0 {σ ρ : Type} {b : σ → Option (σ ⊕ ρ)} {s : σ} {r : ρ} (h : bPn b 0 s = some r) {P : Prop} : P := by cases h
theorem bPn_e {σ ρ : Type} {b : σ → Option (σ ⊕ ρ)} {n : Nat} {s : σ} {r : ρ} (h : bPn b (n + 1) s = some r) : ∃ q, b s = some q ∧ Sum.elim (bPn b n) some q = some r := by
  simp only [bPn] at h
  cases hb : b s with
  | none => rw [hb] at h; cases h
  | some q => rw [hb] at h; exact ⟨q, rfl, h⟩
theorem bPn_mono {σ ρ : Type} {b : σ → Option (σ ⊕ ρ)} : ∀ (n : Nat) {s : σ} {r : ρ}, bPn b n s = some r → ∀ k, bPn b (n + k) s = some r := by
  intro n
  induction n with
  | zero => intro s r h; exact bPn_0 h
  | succ n ih =>
    intro s r h k
    obtain ⟨q, h1, h2⟩ := bPn_e h
    rw [show n + 1 + k = (n + k) + 1 by omega]
    simp only [bPn, h1, Option.bind_some]
    cases q with
    | inl a => exact ih h2 k
    | inr a => exact h2
theorem bP_e {σ ρ : Type} {b : σ → Option (σ ⊕ ρ)} {s : σ} {r : ρ} (h : bP b s = some r) : ∃ n, bPn b n s = some r := by
  unfold bP at h
  by_cases hx : ∃ r : ρ, ∃ n : Nat, bPn b n s = some r
  · rw [dif_pos hx] at h
    rw [← Option.some.inj h]
    exact hx.choose_spec
  · rw [dif_neg hx] at h; cases h
theorem bP_of {σ ρ : Type} {b : σ → Option (σ ⊕ ρ)} {s : σ} {r : ρ} {n : Nat} (h : bPn b n s = some r) : bP b s = some r := by
  have hx : ∃ r : ρ, ∃ n : Nat, bPn b n s = some r := ⟨r, n, h⟩
  unfold bP
  rw [dif_pos hx]
  obtain ⟨n', h'⟩ := hx.choose_spec
  have h1 := bPn_mono n h n'
  have h2 := bPn_mono n' h' n
  rw [show n' + n = n + n' by omega] at h2
  exact h2.symm.trans h1
theorem u2_e {α₁ α₂ β : Type _} {f : α₁ → α₂ → β} {a₁ : α₁} {a₂ : α₂} {Y : β} (h : u2 f (a₁, a₂) = Y) : f a₁ a₂ = Y := h
theorem u1_e {α₁ β : Sort _} {f : α₁ → β} {a₁ : α₁} {Y : β} (h : u1 f a₁ = Y) : f a₁ = Y := h
theorem u3_e {α₁ α₂ α₃ β : Type _} {f : α₁ → α₂ → α₃ → β} {a₁ : α₁} {a₂ : α₂} {a₃ : α₃} {Y : β} (h : u3 f (a₁, a₂, a₃) = Y) : f a₁ a₂ a₃ = Y := h
theorem u4_e {α₁ α₂ α₃ α₄ β : Type _} {f : α₁ → α₂ → α₃ → α₄ → β} {a₁ : α₁} {a₂ : α₂} {a₃ : α₃} {a₄ : α₄} {Y : β} (h : u4 f (a₁, a₂, a₃, a₄) = Y) : f a₁ a₂ a₃ a₄ = Y := h
theorem u5_e {α₁ α₂ α₃ α₄ α₅ β : Type _} {f : α₁ → α₂ → α₃ → α₄ → α₅ → β} {a₁ : α₁} {a₂ : α₂} {a₃ : α₃} {a₄ : α₄} {a₅ : α₅} {Y : β} (h : u5 f (a₁, a₂, a₃, a₄, a₅) = Y) : f a₁ a₂ a₃ a₄ a₅ = Y := h
theorem u6_e {α₁ α₂ α₃ α₄ α₅ α₆ β : Type _} {f : α₁ → α₂ → α₃ → α₄ → α₅ → α₆ → β} {a₁ : α₁} {a₂ : α₂} {a₃ : α₃} {a₄ : α₄} {a₅ : α₅} {a₆ : α₆} {Y : β} (h : u6 f (a₁, a₂, a₃, a₄, a₅, a₆) = Y) : f a₁ a₂ a₃ a₄ a₅ a₆ = Y := h
def jmax (x y : Int32) : Int32 := if x < y then y else x
def jmin (x y : Int32) : Int32 := if y < x then y else x
def vin (i : Int32) (n : Nat) : Bool := decide (¬ (i < 0 ∨ n ≤ i.toNatClampNeg))
theorem vin_e {i : Int32} {n : Nat} (h : vin i n = true) : vp_in i n := fun q => (of_decide_eq_true h : ¬ (i < 0 ∨ n ≤ i.toNatClampNeg)) q
/-! entries and ends -/
section PE
variable {p : Program} {l : Launch} {e : Env} {R : Room} {s : State} {m : MethodId} {args : Array Value} {below : List Frame} {meth : Method} {c : Code} {H : Heap} {locs : List Loc} {cells slots : Nat} {Q : State → Prop}
variable {cc cy : ByteArray} {pc nL mL fr lo index n ci N k j : Nat} {ls : Array Slot} {rest st0 As av : List Value} {Z : pZ} {S S2 : pS} {own C : String} {y : MethodName} {T : u_T} {ty : Nat → FieldType} {qs : List Nat} {rt : FieldType} {ret : Option FieldType}
theorem zretN {Qc : Array Value → State → Outcome → State → Prop} {free : Addr → Prop} {v w : Int32} {ty : FieldType} (hexec : p.tables.exec = Jvm.exec) (hb : c.code = cc) (hr : meth.sig.returnType = some ty) (hn : narrow ty (.int v) = .int w)
    (hq : ∀ t : State, t.heap = H → s.WarmedH t.vm → Qc args s (.returned (some (.int w))) t) (hf : ∀ q ∈ locs, free q.base)
    {pc : Nat} {ls : Array Slot} (hdg : decode cc pc = .ok (.ireturn, 1)) (hlocks : meth.locks = false) : W p l e R s m args below meth c H locs cells slots (MQ below Qc args s cells slots free) (F0 m pc ls [.int v]) := by
  intro T hT X
  obtain ⟨fs, hret, hrun, hended, hW, hframe⟩ := X.leave (v := some (.int w)) (fun h => by rw [hr] at h; cases h)
  have hmeth' : T.vm.method? m = some meth := X.method'
  refine ⟨T.setFrames fs, ?_, .returned (some (.int w)), hrun, hended, hq _ hT hW, locs, ⟨⟨_, rfl⟩, hW, hframe⟩, hf⟩
  jvm_step X.here [X.here.top, hexec, hb, hdg, hmeth', hr, hn]
  (try refine ⟨rfl, ?_⟩); (try refine ⟨rfl, ?_⟩)
  first | (intro acts; rw [hret _ acts rfl rfl rfl]) | rw [hret _ _ rfl rfl rfl]
  exact Steps.refl _
theorem lv_in (av : List Value) (n : Nat) (h : (lg_sl av).length ≤ n) : ∃ ls : Array Slot, (∀ m : MethodId, entryFrame m av.toArray n = F0 m 0 ls []) ∧ lv_has ls n (lv_args 0 av) := by
  refine ⟨(lg_sl av ++ List.replicate (n - (lg_sl av).length) Slot.unset).toArray, fun m => ?_, lv_entry av h⟩
  rw [lg_entry_eq]
theorem Wd_0 {sz : Nat} (hsz : s.heap.size = sz) (hWo : Wo Z S s) : Wd Z s S s.heap [] := ⟨hWo.1, pA_D hWo.2.2.1, va_S.rf⟩
/-- a method that answers an int -/
theorem eI {r : Int32} (hy : plainName y.cls = true) (hcl : y.cls = own) (ha : (lg_sl av).length ≤ mL) (body : ∀ (p : Program) (e : Env) (s : State) (m : MethodId) (args : Array Value) (below : List Frame) (meth : Method) (c : Code) (Q : State → Prop) (ls : Array Slot), Cx p s m args c own cc mL Z → lv_has ls mL (lv_args 0 av) → Wd Z s S s.heap [] → (∀ (v : Int32) (pc : Nat) (ls : Array Slot) (H : Heap) (locs : List Loc), decode cc pc = .ok (.ireturn, 1) → v = r → Wd Z s S2 H locs → W p l e { frames := fr, cells := 0, slots := 0, locals := lo } s m args below meth c H locs 0 0 Q (F0 m pc ls [.int v])) → W p l e { frames := fr, cells := 0, slots := 0, locals := lo } s m args below meth c s.heap [] 0 0 Q (F0 m 0 ls [])) : CI l Z y cc mL .int fr lo av S r S2 := by
  intro sz
  refine Met.ofW (cc := cc) (maxL := mL) (ret := some .int) hy rfl ?_
  intro p e s m args below meth c s₁ B hml hv
  obtain ⟨rfl, hsz, hWo⟩ := hv
  have hts := atoms_spec (ws := .code y cc mL (some .int) :: wsG) B.pre
  have hown : s.vm.findClass own = some m.cls := by rw [← hcl]; exact findClass_of_methodNamed B.named
  obtain ⟨ls, e1, e2⟩ := lv_in av mL ha
  rw [e1 m]
  refine body p e s m _ below meth c _ ls ⟨⟨B.exec, B.bytes, hml, hown, fun w hw => hts w (List.mem_cons_of_mem _ hw)⟩, hWo.2.1, hWo.2.2.2.1, hWo.2.2.2.2⟩ e2 (Wd_0 hsz hWo) ?_
  intro v pc ls H locs hd hr hw
  subst hr; subst hsz
  exact W.iret B.exec B.bytes B.returns (fun t ht hW => ⟨⟨v, (), rfl, rfl, by show va_P (zD Z) vwCl (pW Z S2) t.heap; rw [ht]; exact hw.1⟩, hw.2.2.F ht⟩) hw.2.2.2.2 hd B.notSynchronized
/-- a method that answers a boolean -/
theorem eZ {r : Int32} (hy : plainName y.cls = true) (hcl : y.cls = own) (ha : (lg_sl av).length ≤ mL) (body : ∀ (p : Program) (e : Env) (s : State) (m : MethodId) (args : Array Value) (below : List Frame) (meth : Method) (c : Code) (Q : State → Prop) (ls : Array Slot), Cx p s m args c own cc mL Z → lv_has ls mL (lv_args 0 av) → Wd Z s S s.heap [] → (∀ (v : Int32) (pc : Nat) (ls : Array Slot) (H : Heap) (locs : List Loc), decode cc pc = .ok (.ireturn, 1) → v &&& 1 = r → Wd Z s S2 H locs → W p l e { frames := fr, cells := 0, slots := 0, locals := lo } s m args below meth c H locs 0 0 Q (F0 m pc ls [.int v])) → W p l e { frames := fr, cells := 0, slots := 0, locals := lo } s m args below meth c s.heap [] 0 0 Q (F0 m 0 ls [])) : CI l Z y cc mL .boolean fr lo av S r S2 := by
  intro sz
  refine Met.ofW (cc := cc) (maxL := mL) (ret := some .boolean) hy rfl ?_
  intro p e s m args below meth c s₁ B hml hv
  obtain ⟨rfl, hsz, hWo⟩ := hv
  have hts := atoms_spec (ws := .code y cc mL (some .boolean) :: wsG) B.pre
  have hown : s.vm.findClass own = some m.cls := by rw [← hcl]; exact findClass_of_methodNamed B.named
  obtain ⟨ls, e1, e2⟩ := lv_in av mL ha
  rw [e1 m]
  refine body p e s m _ below meth c _ ls ⟨⟨B.exec, B.bytes, hml, hown, fun w hw => hts w (List.mem_cons_of_mem _ hw)⟩, hWo.2.1, hWo.2.2.2.1, hWo.2.2.2.2⟩ e2 (Wd_0 hsz hWo) ?_
  intro v pc ls H locs hd hr hw
  subst hr; subst hsz
  exact zretN B.exec B.bytes B.returns rfl (fun t ht hW => ⟨⟨v &&& 1, (), rfl, rfl, by show va_P (zD Z) vwCl (pW Z S2) t.heap; rw [ht]; exact hw.1⟩, hw.2.2.F ht⟩) hw.2.2.2.2 hd B.notSynchronized
theorem eL {r : Int64} (hy : plainName y.cls = true) (hcl : y.cls = own) (ha : (lg_sl av).length ≤ mL) (body : ∀ (p : Program) (e : Env) (s : State) (m : MethodId) (args : Array Value) (below : List Frame) (meth : Method) (c : Code) (Q : State → Prop) (ls : Array Slot), Cx p s m args c own cc mL Z → lv_has ls mL (lv_args 0 av) → Wd Z s S s.heap [] → (∀ (v : Int64) (pc : Nat) (ls : Array Slot) (H : Heap) (locs : List Loc), decode cc pc = .ok (.lreturn, 1) → v = r → Wd Z s S2 H locs → W p l e { frames := fr, cells := 0, slots := 0, locals := lo } s m args below meth c H locs 0 0 Q (F0 m pc ls [.long v])) → W p l e { frames := fr, cells := 0, slots := 0, locals := lo } s m args below meth c s.heap [] 0 0 Q (F0 m 0 ls [])) : CL l Z y cc mL fr lo av S r S2 := by
  intro sz
  refine Met.ofW (cc := cc) (maxL := mL) (ret := some .long) hy rfl ?_
  intro p e s m args below meth c s₁ B hml hv
  obtain ⟨rfl, hsz, hWo⟩ := hv
  have hts := atoms_spec (ws := .code y cc mL (some .long) :: wsG) B.pre
  have hown : s.vm.findClass own = some m.cls := by rw [← hcl]; exact findClass_of_methodNamed B.named
  obtain ⟨ls, e1, e2⟩ := lv_in av mL ha
  rw [e1 m]
  refine body p e s m _ below meth c _ ls ⟨⟨B.exec, B.bytes, hml, hown, fun w hw => hts w (List.mem_cons_of_mem _ hw)⟩, hWo.2.1, hWo.2.2.2.1, hWo.2.2.2.2⟩ e2 (Wd_0 hsz hWo) ?_
  intro v pc ls H locs hd hr hw
  subst hr; subst hsz
  exact W.lret B.exec B.bytes B.returns (fun t ht hW => ⟨⟨v, (), rfl, rfl, by show va_P (zD Z) vwCl (pW Z S2) t.heap; rw [ht]; exact hw.1⟩, hw.2.2.F ht⟩) hw.2.2.2.2 hd B.notSynchronized
theorem eV (hy : plainName y.cls = true) (hcl : y.cls = own) (ha : (lg_sl av).length ≤ mL) (body : ∀ (p : Program) (e : Env) (s : State) (m : MethodId) (args : Array Value) (below : List Frame) (meth : Method) (c : Code) (Q : State → Prop) (ls : Array Slot), Cx p s m args c own cc mL Z → lv_has ls mL (lv_args 0 av) → Wd Z s S s.heap [] → (∀ (pc : Nat) (ls : Array Slot) (H : Heap) (locs : List Loc), decode cc pc = .ok (.return_, 1) → Wd Z s S2 H locs → W p l e { frames := fr, cells := 0, slots := 0, locals := lo } s m args below meth c H locs 0 0 Q (F0 m pc ls [])) → W p l e { frames := fr, cells := 0, slots := 0, locals := lo } s m args below meth c s.heap [] 0 0 Q (F0 m 0 ls [])) : CV l Z y cc mL fr lo av S S2 := by
  intro sz
  refine Met.ofW (cc := cc) (maxL := mL) (ret := none) hy rfl ?_
  intro p e s m args below meth c s₁ B hml hv
  obtain ⟨rfl, hsz, hWo⟩ := hv
  have hts := atoms_spec (ws := .code y cc mL none :: wsG) B.pre
  have hown : s.vm.findClass own = some m.cls := by rw [← hcl]; exact findClass_of_methodNamed B.named
  obtain ⟨ls, e1, e2⟩ := lv_in av mL ha
  rw [e1 m]
  refine body p e s m _ below meth c _ ls ⟨⟨B.exec, B.bytes, hml, hown, fun w hw => hts w (List.mem_cons_of_mem _ hw)⟩, hWo.2.1, hWo.2.2.2.1, hWo.2.2.2.2⟩ e2 (Wd_0 hsz hWo) ?_
  intro pc ls H locs hd hw
  subst hsz
  exact W.vret B.exec B.bytes B.returns (fun t ht hW => ⟨⟨(), rfl, trivial, by show va_P (zD Z) vwCl (pW Z S2) t.heap; rw [ht]; exact hw.1⟩, hw.2.2.F ht⟩) hw.2.2.2.2 hd B.notSynchronized
theorem eQ {C : String} {r : Option Nat} (hy : plainName y.cls = true) (hcl : y.cls = own) (ha : (lg_sl av).length ≤ mL) (body : ∀ (p : Program) (e : Env) (s : State) (m : MethodId) (args : Array Value) (below : List Frame) (meth : Method) (c : Code) (Q : State → Prop) (ls : Array Slot), Cx p s m args c own cc mL Z → lv_has ls mL (lv_args 0 av) → Wd Z s S s.heap [] → (∀ (v : Option Nat) (pc : Nat) (ls : Array Slot) (H : Heap) (locs : List Loc), decode cc pc = .ok (.areturn, 1) → v = r → Wd Z s S2 H locs → W p l e { frames := fr, cells := 0, slots := 0, locals := lo } s m args below meth c H locs 0 0 Q (F0 m pc ls [va_rf (v.map (za Z))])) → W p l e { frames := fr, cells := 0, slots := 0, locals := lo } s m args below meth c s.heap [] 0 0 Q (F0 m 0 ls [])) : CQ l Z y cc mL (.object C) fr lo av S r S2 := by
  intro sz
  refine Met.ofW (cc := cc) (maxL := mL) (ret := some (.object C)) hy rfl ?_
  intro p e s m args below meth c s₁ B hml hv
  obtain ⟨rfl, hsz, hWo⟩ := hv
  have hts := atoms_spec (ws := .code y cc mL (some (.object C)) :: wsG) B.pre
  have hown : s.vm.findClass own = some m.cls := by rw [← hcl]; exact findClass_of_methodNamed B.named
  obtain ⟨ls, e1, e2⟩ := lv_in av mL ha
  rw [e1 m]
  refine body p e s m _ below meth c _ ls ⟨⟨B.exec, B.bytes, hml, hown, fun w hw => hts w (List.mem_cons_of_mem _ hw)⟩, hWo.2.1, hWo.2.2.2.1, hWo.2.2.2.2⟩ e2 (Wd_0 hsz hWo) ?_
  intro v pc ls H locs hd hr hw
  subst hr; subst hsz
  exact W.aret B.exec B.bytes B.returns (Or.inl ⟨_, rfl⟩) (by cases v with
    | none => exact Or.inl rfl
    | some a => exact Or.inr ⟨_, rfl⟩) (fun t ht hW => ⟨⟨v.map (za Z), (), rfl, rfl, by show va_P (zD Z) vwCl (pW Z S2) t.heap; rw [ht]; exact hw.1⟩, hw.2.2.F ht⟩) hw.2.2.2.2 hd B.notSynchronized
/-! references that may be null -/
theorem aldQ {o : Option Nat} {i : Nat} (hexec : p.tables.exec = Jvm.exec) (hb : c.code = cc) (hdg : decode cc pc = .ok (.aload i, 2)) (hl : ls[i]? = some (.val (va_rf o))) (kk : W p l e R s m args below meth c H locs cells slots Q (F0 m (pc + 2) ls (va_rf o :: rest))) : W p l e R s m args below meth c H locs cells slots Q (F0 m pc ls rest) := by
  cases o with
  | none => exact lv_aloadN hexec hb hdg hl kk
  | some a => exact lv_aload hexec hb hdg hl kk
theorem aldQn {o : Option Nat} {q : Fin 4} {i : Nat} (hexec : p.tables.exec = Jvm.exec) (hb : c.code = cc) (hdg : decode cc pc = .ok (.aload_n q, 1)) (hi : (q : Nat) = i) (hl : ls[i]? = some (.val (va_rf o))) (kk : W p l e R s m args below meth c H locs cells slots Q (F0 m (pc + 1) ls (va_rf o :: rest))) : W p l e R s m args below meth c H locs cells slots Q (F0 m pc ls rest) := by
  cases o with
  | none => exact lv_aload_nN hexec hb hdg hi hl kk
  | some a => exact lv_aload_n hexec hb hdg hi hl kk
theorem astQ {o : Option Nat} {i nL : Nat} {lv lv' : List (Nat × Value)} (hexec : p.tables.exec = Jvm.exec) (hb : c.code = cc) (hdg : decode cc pc = .ok (.astore i, 2)) (h : lv_has ls nL lv) (hn : i < nL) (hl : (i, va_rf o) :: lv.filter (fun q => !(q.1 == i) && !(q.1 + 1 == i && q.2.category == 2)) = lv')
    (kk : ∀ ls' : Array Slot, lv_has ls' nL lv' → W p l e R s m args below meth c H locs cells slots Q (F0 m (pc + 2) ls' rest)) : W p l e R s m args below meth c H locs cells slots Q (F0 m pc ls (va_rf o :: rest)) := by
  cases o with
  | none => exact lv_astoreN hexec hb hdg h hn hl kk
  | some a => exact lv_astore hexec hb hdg h hn hl kk
theorem astQn {o : Option Nat} {q : Fin 4} {i nL : Nat} {lv lv' : List (Nat × Value)} (hexec : p.tables.exec = Jvm.exec) (hb : c.code = cc) (hdg : decode cc pc = .ok (.astore_n q, 1)) (hi : (q : Nat) = i) (h : lv_has ls nL lv) (hn : i < nL) (hl : (i, va_rf o) :: lv.filter (fun q => !(q.1 == i) && !(q.1 + 1 == i && q.2.category == 2)) = lv')
    (kk : ∀ ls' : Array Slot, lv_has ls' nL lv' → W p l e R s m args below meth c H locs cells slots Q (F0 m (pc + 1) ls' rest)) : W p l e R s m args below meth c H locs cells slots Q (F0 m pc ls (va_rf o :: rest)) := by
  cases o with
  | none => exact lv_astore_nN hexec hb hdg hi h hn hl kk
  | some a => exact lv_astore_n hexec hb hdg hi h hn hl kk
theorem ifnQ {o : Option Nat} {off : Int} {tgt : Nat} (hexec : p.tables.exec = Jvm.exec) (hb : c.code = cc) (hdg : decode cc pc = .ok (.ifnull off, 3)) (ht : (pc : Int) + off = (tgt : Int)) (kn : o = none → W p l e R s m args below meth c H locs cells slots Q (F0 m tgt ls rest)) (ks : ∀ x, o = some x → W p l e R s m args below meth c H locs cells slots Q (F0 m (pc + 3) ls rest)) : W p l e R s m args below meth c H locs cells slots Q (F0 m pc ls (va_rf (o.map (za Z)) :: rest)) := by
  cases o with
  | none => exact lv_ifnullN hexec hb hdg ht (kn rfl)
  | some a => exact lv_ifnull hexec hb hdg (ks a rfl)
theorem ifnnQ {o : Option Nat} {off : Int} {tgt : Nat} (hexec : p.tables.exec = Jvm.exec) (hb : c.code = cc) (hdg : decode cc pc = .ok (.ifnonnull off, 3)) (ht : (pc : Int) + off = (tgt : Int)) (kn : o = none → W p l e R s m args below meth c H locs cells slots Q (F0 m (pc + 3) ls rest)) (ks : ∀ x, o = some x → W p l e R s m args below meth c H locs cells slots Q (F0 m tgt ls rest)) : W p l e R s m args below meth c H locs cells slots Q (F0 m pc ls (va_rf (o.map (za Z)) :: rest)) := by
  cases o with
  | none => exact lv_ifnonnullN hexec hb hdg (kn rfl)
  | some a => exact lv_ifnonnull hexec hb hdg ht (ks a rfl)
/-! Math -/
theorem xmax (G : Cx p s m args c own cc nL Z) (hls : ls.size = nL) (hlk : Cond.methodLink own index Lib.Math.max.name ∈ wsG) (hfr : 1 ≤ R.frames) (hlo : (rest.map fun v => v.category).sum + 13 ≤ R.locals) (hcs : cells ≤ R.cells ∧ slots ≤ R.slots) {x y : Int32} (hdg : decode cc pc = .ok (.invokestatic index, 3)) (kk : W p l e R s m args below meth c H locs cells slots Q (F0 m (pc + 3) ls (.int (jmax x y) :: rest))) : W p l e R s m args below meth c H locs cells slots Q (F0 m pc ls (.int y :: .int x :: rest)) :=
  va_mmax G.1.1 G.1.2.1 (G.1.2.2.1.trans hls.symm) G.1.2.2.2.1 (G.1.2.2.2.2 _ hlk) (G.1.2.2.2.2 _ st_J9_max_7cf53) (G.1.2.2.2.2 _ in_J9) (G.1.2.2.2.2 _ co_J9_max_7cf53) hfr hlo hcs.1 hcs.2 hdg kk
theorem xmin (G : Cx p s m args c own cc nL Z) (hls : ls.size = nL) (hlk : Cond.methodLink own index Lib.Math.min.name ∈ wsG) (hfr : 1 ≤ R.frames) (hlo : (rest.map fun v => v.category).sum + 13 ≤ R.locals) (hcs : cells ≤ R.cells ∧ slots ≤ R.slots) {x y : Int32} (hdg : decode cc pc = .ok (.invokestatic index, 3)) (kk : W p l e R s m args below meth c H locs cells slots Q (F0 m (pc + 3) ls (.int (jmin x y) :: rest))) : W p l e R s m args below meth c H locs cells slots Q (F0 m pc ls (.int y :: .int x :: rest)) :=
  va_mmin G.1.1 G.1.2.1 (G.1.2.2.1.trans hls.symm) G.1.2.2.2.1 (G.1.2.2.2.2 _ hlk) (G.1.2.2.2.2 _ st_J9_min_7cf53) (G.1.2.2.2.2 _ in_J9) (G.1.2.2.2.2 _ co_J9_min_7cf53) hfr hlo hcs.1 hcs.2 hdg kk
def jabs (x : Int32) : Int32 := if 0 ≤ x then x else 0 - x
def jabl (x : Int64) : Int64 := if 0 < x then x else -x
theorem xabs (G : Cx p s m args c own cc nL Z) (hls : ls.size = nL) (hlk : Cond.methodLink own index Lib.Math.abs.name ∈ wsG) (hfr : 1 ≤ R.frames) (hlo : (rest.map fun v => v.category).sum + 13 ≤ R.locals) (hcs : cells ≤ R.cells ∧ slots ≤ R.slots) {x : Int32} (hdg : decode cc pc = .ok (.invokestatic index, 3)) (kk : W p l e R s m args below meth c H locs cells slots Q (F0 m (pc + 3) ls (.int (jabs x) :: rest))) : W p l e R s m args below meth c H locs cells slots Q (F0 m pc ls (.int x :: rest)) :=
  va_mabs G.1.1 G.1.2.1 (G.1.2.2.1.trans hls.symm) G.1.2.2.2.1 (G.1.2.2.2.2 _ hlk) (G.1.2.2.2.2 _ st_J9_abs_0f7a4) (G.1.2.2.2.2 _ in_J9) (G.1.2.2.2.2 _ co_J9_abs_0f7a4) hfr hlo hcs.1 hcs.2 hdg kk
theorem xabl (G : Cx p s m args c own cc nL Z) (hls : ls.size = nL) (hlk : Cond.methodLink own index Lib.MathLoose.abs_long.x ∈ wsG) (hfr : 1 ≤ R.frames) (hlo : (rest.map fun v => v.category).sum + 14 ≤ R.locals) (hcs : cells ≤ R.cells ∧ slots ≤ R.slots) {x : Int64} (hdg : decode cc pc = .ok (.invokestatic index, 3)) (kk : W p l e R s m args below meth c H locs cells slots Q (F0 m (pc + 3) ls (.long (jabl x) :: rest))) : W p l e R s m args below meth c H locs cells slots Q (F0 m pc ls (.long x :: rest)) :=
  va_mabs_long G.1.1 G.1.2.1 (G.1.2.2.1.trans hls.symm) G.1.2.2.2.1 (G.1.2.2.2.2 _ hlk) (G.1.2.2.2.2 _ st_J9_abs_067f4) (G.1.2.2.2.2 _ in_J9) (G.1.2.2.2.2 _ co_J9_abs_067f4) hfr (by omega) hcs.1 hcs.2 hdg kk
end PE

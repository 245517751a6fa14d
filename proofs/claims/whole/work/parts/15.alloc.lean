/-! the calls that make an object on their way: the contract says what Z becomes -/
def CIn (l : Launch) (Z : pZ) (y : MethodName) (cc : ByteArray) (mL : Nat) (rt : FieldType) (fr lo mc ms : Nat) (av : List Value) (S : pS) (r : Int32) (k0 n : Nat) (S2 : pS) : Prop := ∀ sz : Nat, Met l y (.code y cc mL (some rt) :: wsG) { frames := fr, cells := mc, slots := ms, locals := lo } (va_Pc av (fun U => U.heap.size = sz ∧ Wo Z S U ∧ va_AO RX8 U ∧ AOI U)) (va_Qi (fun (r' : Int32) (_ : Nat × (Nat → Nat)) => r' = r) (fun u t => va_P (zD Z) vwCl (pW (zx Z k0 n u.1 u.2) S2) t.heap ∧ va_D (pA Z sz) (pW (zx Z k0 n u.1 u.2) S2)) (pA Z sz)) mc ms (pA Z sz)
section PA
variable {l : Launch} {cc : ByteArray} {mL fr lo mc ms k0 n : Nat} {Z : pZ} {S S2 : pS} {own : String} {y : MethodName} {av : List Value}
theorem eZn {r : Int32} (hy : plainName y.cls = true) (hcl : y.cls = own) (ha : (lg_sl av).length ≤ mL) (body : ∀ (p : Program) (e : Env) (s : State) (m : MethodId) (args : Array Value) (below : List Frame) (meth : Method) (c : Code) (Q : State → Prop) (ls : Array Slot), Cx p s m args c own cc mL Z → va_AO RX8 s → AOI s → lv_has ls mL (lv_args 0 av) → Wd Z s S s.heap [] → (∀ (v : Int32) (pc : Nat) (ls : Array Slot) (H : Heap) (locs : List Loc) (q : Nat) (b : Nat → Nat), decode cc pc = .ok (.ireturn, 1) → v &&& 1 = r → Wd (zx Z k0 n q b) s S2 H locs → pA (zx Z k0 n q b) s.heap.size = pA Z s.heap.size → W p l e { frames := fr, cells := mc, slots := ms, locals := lo } s m args below meth c H locs mc ms Q (F0 m pc ls [.int v])) → W p l e { frames := fr, cells := mc, slots := ms, locals := lo } s m args below meth c s.heap [] 0 0 Q (F0 m 0 ls [])) : CIn l Z y cc mL .boolean fr lo mc ms av S r k0 n S2 := by
  intro sz
  refine Met.ofW (cc := cc) (maxL := mL) (ret := some .boolean) hy rfl ?_
  intro p e s m args below meth c s₁ B hml hv
  obtain ⟨rfl, hsz, hWo, hAO, hAI⟩ := hv
  have hts := atoms_spec (ws := .code y cc mL (some .boolean) :: wsG) B.pre
  have hown : s.vm.findClass own = some m.cls := by rw [← hcl]; exact findClass_of_methodNamed B.named
  obtain ⟨ls, e1, e2⟩ := lv_in av mL ha
  rw [e1 m]
  refine body p e s m _ below meth c _ ls ⟨⟨B.exec, B.bytes, hml, hown, fun w hw => hts w (List.mem_cons_of_mem _ hw)⟩, hWo.2.1, hWo.2.2.2.1, hWo.2.2.2.2⟩ hAO hAI e2 (Wd_0 hsz hWo) ?_
  intro v pc ls H locs q b hd hr hw hA
  subst hr; subst hsz
  have hS : va_S (pA Z s.heap.size) s.heap H locs := by rw [← hA]; exact hw.2.2
  have hD : va_D (pA Z s.heap.size) (pW (zx Z k0 n q b) S2) := by rw [← hA]; exact hw.2.1
  exact zretN B.exec B.bytes B.returns rfl (fun t ht hW => ⟨⟨v &&& 1, (q, b), rfl, rfl, by show va_P (zD Z) vwCl (pW (zx Z k0 n q b) S2) t.heap; rw [ht]; exact hw.1, hD⟩, hS.F ht⟩) hS.2.2 hd B.notSynchronized
end PA
theorem wX11_image0 {l : Launch} {Z : pZ} (hZ : CC Z) (S : pS) (h0 : isA Z K_PF 0) (hn : pmu (S 0 5) = none) : CI l Z yX11_image cX11_image 2 .boolean 5 103 [.ref (za Z 0), .int 0] S 0 S := by
  refine eZ (own := RX11) (by decide) rfl (Nat.le_of_ble_eq_true rfl) (fun p e s m args below meth c Q ls G hl hw hret => ?_)
  obtain ⟨hx, hb, hml, hown, hts⟩ := G.1
  have hl : lv_has ls 2 [(0, .ref (za Z 0)), (1, .int 0)] := hl
  refine lv_iload_n hx hb dX11_image_0 rfl (lv_at hl 1 rfl) ?_
  refine lv_if_ne (tgt := 33) hx hb dX11_image_1 (by decide) (fun c_5 => absurd rfl c_5) (fun c_5 => ?_)
  refine lv_aload_n hx hb dX11_image_4 rfl (lv_at hl 0 rfl) ?_
  refine gM G hw h0 KX11 5 (by decide) rfl fl_X11_289 dX11_image_5 ?_
  rw [hn]
  refine lv_ifnonnullN hx hb dX11_image_8 ?_
  refine lv_iconst hx hb dX11_image_11 ki_0 ?_
  exact hret _ _ _ _ _ dX11_image_12 (by decide) hw

/-! the calls that make an object on their way: the contract says what Z becomes -/
def CIn (l : Launch) (Z : pZ) (y : MethodName) (cc : ByteArray) (mL : Nat) (rt : FieldType) (fr lo mc ms : Nat) (av : List Value) (S : pS) (r : Int32) (k0 n : Nat) (S2 : pS) : Prop := ∀ sz : Nat, Met l y (.code y cc mL (some rt) :: wsG) { frames := fr, cells := mc, slots := ms, locals := lo } (va_Pc av (fun U => U.heap.size = sz ∧ Wo Z S U ∧ va_AO RX8 U ∧ AOI U)) (va_Qi (fun (r' : Int32) (_ : Nat × (Nat → Nat)) => r' = r) (fun u t => va_P (zD Z) vwCl (pW (zx Z k0 n u.1 u.2) S2) t.heap ∧ va_D (pA Z sz) (pW (zx Z k0 n u.1 u.2) S2)) (pA Z sz)) mc ms (pA Z sz)
section PA
variable {l : Launch} {cc : ByteArray} {mL fr lo mc ms k0 n : Nat} {Z : pZ} {S S2 : pS} {own : String} {y : MethodName} {av : List Value}
theorem eZn {r : Int32} (hy : plainName y.cls = true) (hcl : y.cls = own) (ha : (lg_sl av).length ≤ mL) (body : ∀ (p : Program) (e : Env) (s : State) (m : MethodId) (args : Array Value) (below : List Frame) (meth : Method) (c : Code) (Q : State → Prop) (ls : Array Slot), Cx p s m args c own cc mL Z → va_AO RX8 s → AOI s → lv_has ls mL (lv_args 0 av) → Wd Z s S s.heap [] → (∀ (v : Int32) (pc : Nat) (ls : Array Slot) (H : Heap) (locs : List Loc) (q : Nat) (b : Nat → Nat), decode cc pc = .ok (.ireturn, 1) → v &&& 1 = r → Wd (zx Z k0 n q b) s S2 H locs → pA (zx Z k0 n q b) s.heap.size = pA Z s.heap.size → W p l e { frames := fr, cells := mc, slots := ms, locals := lo } s m args below meth c H locs mc ms Q (F0 m pc ls [.int v])) → W p l e { frames := fr, cells := mc, slots := ms, locals := lo } s m args below meth c s.heap [] 0 0 Q (F0 m 0 ls [])) : CIn l Z y cc mL .boolean fr lo mc ms av S r k0 n S2 := by
  intro sz
  refine Met.ofW (cc := cc) (maxL := mL) (ret := some .boolean) hy rfl ?_
  intro p e s m args below meth c s₁ B hml hv
  obtain ⟨rfl, hsz, hWo, hAO, hAI⟩ := hv
  have hts := atoms_spec (ws := .code y cc mL (some .boolean) :: wsG) B.pre
  have hown : s.vm.findClass own = some m.cls := by rw [← hcl]; exact findClass_of_methodNamed B.named
  obtain ⟨ls, e1, e2⟩ := lv_in av mL ha
  rw [e1 m]
  refine body p e s m _ below meth c _ ls ⟨⟨B.exec, B.bytes, hml, hown, fun w hw => hts w (List.mem_cons_of_mem _ hw)⟩, hWo.2.1, hWo.2.2.2.1, hWo.2.2.2.2⟩ hAO hAI e2 (Wd_0 hsz hWo) ?_
  intro v pc ls H locs q b hd hr hw hA
  subst hr; subst hsz
  have hS : va_S (pA Z s.heap.size) s.heap H locs := by rw [← hA]; exact hw.2.2
  have hD : va_D (pA Z s.heap.size) (pW (zx Z k0 n q b) S2) := by rw [← hA]; exact hw.2.1
  exact zretN B.exec B.bytes B.returns rfl (fun t ht hW => ⟨⟨v &&& 1, (q, b), rfl, rfl, by show va_P (zD Z) vwCl (pW (zx Z k0 n q b) S2) t.heap; rw [ht]; exact hw.1, hD⟩, hS.F ht⟩) hS.2.2 hd B.notSynchronized
end PA
theorem wX11_image0 {l : Launch} {Z : pZ} (hZ : CC Z) (S : pS) (h0 : isA Z K_PF 0) (hn : pmu (S 0 5) = none) : CI l Z yX11_image cX11_image 2 .boolean 5 103 [.ref (za Z 0), .int 0] S 0 S := by
  refine eZ (own := RX11) (by decide) rfl (Nat.le_of_ble_eq_true rfl) (fun p e s m args below meth c Q ls G hl hw hret => ?_)
  obtain ⟨hx, hb, hml, hown, hts⟩ := G.1
  have hl : lv_has ls 2 [(0, .ref (za Z 0)), (1, .int 0)] := hl
  refine lv_iload_n hx hb dX11_image_0 rfl (lv_at hl 1 rfl) ?_
  refine lv_if_ne (tgt := 33) hx hb dX11_image_1 (by decide) (fun c_5 => absurd rfl c_5) (fun c_5 => ?_)
  refine lv_aload_n hx hb dX11_image_4 rfl (lv_at hl 0 rfl) ?_
  refine gM G hw h0 KX11 5 (by decide) rfl fl_X11_289 dX11_image_5 ?_
  rw [hn]
  refine lv_ifnonnullN hx hb dX11_image_8 ?_
  refine lv_iconst hx hb dX11_image_11 ki_0 ?_
  exact hret _ _ _ _ _ dX11_image_12 (by decide) hw
set_option maxRecDepth 100000 in
set_option maxHeartbeats 4000000 in
theorem wX11_imageN {l : Launch} {Z : pZ} (hZ : CC Z) (S : pS) (a1 : Int32) (r : Int32) (S2 : pS) (h0 : isA Z K_PF 0) (hout : ∀ k, k ∈ zL Z → ¬ (75 ≤ k ∧ k < 75 + 44)) (hm : ∀ k, k ∈ zL Z → ∀ ci qs j o, zk Z k = .inr (ci, qs) → qs[j]? = some 1 → pmu (S k j) = some o → ¬ (75 ≤ o ∧ o < 75 + 44)) (ha : a1 ≠ 0) (hn : pmu (S 0 5) = none) (hf : F11_image (sU (sx S 75 44 rWorld) 0 5 75) a1 = some (r, S2)) : CIn l Z yX11_image cX11_image 2 .boolean 5 103 44 3050 [.ref (za Z 0), .int a1] S r 75 44 S2 := by
  unfold F11_image at hf
  refine eZn (own := RX11) (by decide) rfl (Nat.le_of_ble_eq_true rfl) (fun p e s m args below meth c Q ls G hAO hAI hl hw hret => ?_)
  obtain ⟨hx, hb, hml, hown, hts⟩ := G.1
  have hl : lv_has ls 2 [(0, .ref (za Z 0)), (1, .int a1)] := hl
  refine lv_iload_n hx hb dX11_image_0 rfl (lv_at hl 1 rfl) ?_
  refine lv_if_ne (tgt := 33) hx hb dX11_image_1 (by decide) (fun c_5 => ?_) (fun c_5 => absurd c_5 ha)
  have hf := (if_neg c_5).symm.trans hf
  refine lv_aload_n hx hb dX11_image_33 rfl (lv_at hl 0 rfl) ?_
  refine gM G hw h0 KX11 5 (by decide) rfl fl_X11_289 dX11_image_34 ?_
  rw [hn]
  refine lv_ifnonnullN hx hb dX11_image_37 ?_
  refine lv_aload_n hx hb dX11_image_40 rfl (lv_at hl 0 rfl) ?_
  have G1 := Cx_Cn G hAO hAI
  have hA : ∀ a, s.heap.size ≤ a → pA Z s.heap.size a := fun a h => Or.inr (Or.inr h)
  refine cN G1 (Wd_Hn hw) hA KX10 kl_X11_7 ia_X10 in_X10 (fs := [.int 0, .int 0, .int 0, .int 0, .int 0, .int 0, .int 0, .int 0, .null, .null, .null, .null, .null, .null, .null, .null, .null]) (by decide +kernel) (Nat.le_of_ble_eq_true rfl) (Nat.le_of_ble_eq_true rfl) dX11_image_41 (fun q H hw => ?_)
  refine lv_dup hx hb dX11_image_44 rfl ?_
  refine cK (rest := [.ref q, .ref (za Z 0)]) G1 hw hA (nX10 l (zD Z) (zd Z)) ml_X11_9 im_X10_init in_X10 co_X10_init rfl ⟨nh_X10.1, nh_X10.2, pd_0⟩ ⟨Nat.le_of_ble_eq_true rfl, Nat.le_of_ble_eq_true rfl⟩ hl.1 (Nat.le_of_ble_eq_true rfl) ⟨Nat.le_of_ble_eq_true rfl, Nat.le_of_ble_eq_true rfl⟩ dX11_image_45 (fun b H locs hw => ?_)
  obtain ⟨hw, hpA⟩ := zx_Wd (S2 := sx S 75 44 rWorld) (q := q) (b := b) hZ hout (fun k hk => sx_out (hout k hk)) hm (wWorld hZ.1 (fun i hi => sx_in hi)) hw
  have G := zx_Cx hpA G
  have hZ : CC (zx Z 75 44 q b) := zx_C hZ (by decide +kernel)
  have e0 : za (zx Z 75 44 q b) 0 = za Z 0 := zx_out (by decide)
  have h0 : isA (zx Z 75 44 q b) K_PF 0 := ⟨h0.1, List.mem_append.mpr (Or.inl h0.2)⟩
  have h75 : isA (zx Z 75 44 q b) K_World 75 := ⟨by rw [hZ.1]; rfl, List.mem_append.mpr (Or.inr (List.mem_map.mpr ⟨0, by decide, rfl⟩))⟩
  rw [← e0] at hl ⊢
  refine pM (x := 75) (z := 75) G hw h0 KX11 5 (by decide) rfl (by decide) rfl rfl rfl rfl fl_X11_289 dX11_image_48 (fun H locs hw => ?_)
  obtain ⟨hg1, hf⟩ := bG_e hf
  obtain ⟨j51, ej, hf⟩ := bL_e hf
  have hf := (congrFun ej _).symm.trans hf
  refine lv_aload_n hx hb dX11_image_51 rfl (lv_at hl 0 rfl) ?_
  obtain ⟨hg1, hf⟩ := bG_e hf
  refine gMs G hw h0 KX11 5 (by decide) rfl hg1 fl_X11_289 dX11_image_52 ?_
  refine lv_aload_n hx hb dX11_image_55 rfl (lv_at hl 0 rfl) ?_
  refine gF G hw h0 KX11 0 (k2 := 1) rfl (by decide) rfl fl_X11_10 dX11_image_56 ?_
  obtain ⟨S_2, hS_2, hf⟩ := bB_e hf
  refine kVv (rest := []) G hw (wX10_copy hZ _ 75 1 S_2 h75 (sub_PF_now hZ h0) hS_2) cw_X11_292 h75 KX10 ⟨Nat.le_of_ble_eq_true rfl, Nat.le_of_ble_eq_true rfl⟩ rfl hl.1 rfl (Nat.le_of_ble_eq_true rfl) ⟨Nat.le_of_ble_eq_true rfl, Nat.le_of_ble_eq_true rfl⟩ dX11_image_59 (fun H locs hw => ?_)
  refine lv_iconst hx hb dX11_image_62 ki_1 ?_
  obtain ⟨e1, e2⟩ := Prod.mk.inj (Option.some.inj hf)
  exact hret _ _ _ _ _ _ _ dX11_image_63 ((by decide : (1 : Int32) &&& 1 = 1).trans e1) (by rw [← e2]; exact hw) hpA

/-! the first train and the first chance: their objects are made on the way -/
section PB
variable {l : Launch} {cc : ByteArray} {mL fr lo mc ms k0 n : Nat} {Z : pZ} {S S2 : pS} {own : String} {y : MethodName} {av : List Value}
theorem eIn {r : Int32} (hy : plainName y.cls = true) (hcl : y.cls = own) (ha : (lg_sl av).length ≤ mL) (body : ∀ (p : Program) (e : Env) (s : State) (m : MethodId) (args : Array Value) (below : List Frame) (meth : Method) (c : Code) (Q : State → Prop) (ls : Array Slot), Cx p s m args c own cc mL Z → va_AO RX8 s → AOI s → lv_has ls mL (lv_args 0 av) → Wd Z s S s.heap [] → (∀ (v : Int32) (pc : Nat) (ls : Array Slot) (H : Heap) (locs : List Loc) (q : Nat) (b : Nat → Nat), decode cc pc = .ok (.ireturn, 1) → v = r → Wd (zx Z k0 n q b) s S2 H locs → pA (zx Z k0 n q b) s.heap.size = pA Z s.heap.size → W p l e { frames := fr, cells := mc, slots := ms, locals := lo } s m args below meth c H locs mc ms Q (F0 m pc ls [.int v])) → W p l e { frames := fr, cells := mc, slots := ms, locals := lo } s m args below meth c s.heap [] 0 0 Q (F0 m 0 ls [])) : CIn l Z y cc mL .int fr lo mc ms av S r k0 n S2 := by
  intro sz
  refine Met.ofW (cc := cc) (maxL := mL) (ret := some .int) hy rfl ?_
  intro p e s m args below meth c s₁ B hml hv
  obtain ⟨rfl, hsz, hWo, hAO, hAI⟩ := hv
  have hts := atoms_spec (ws := .code y cc mL (some .int) :: wsG) B.pre
  have hown : s.vm.findClass own = some m.cls := by rw [← hcl]; exact findClass_of_methodNamed B.named
  obtain ⟨ls, e1, e2⟩ := lv_in av mL ha
  rw [e1 m]
  refine body p e s m _ below meth c _ ls ⟨⟨B.exec, B.bytes, hml, hown, fun w hw => hts w (List.mem_cons_of_mem _ hw)⟩, hWo.2.1, hWo.2.2.2.1, hWo.2.2.2.2⟩ hAO hAI e2 (Wd_0 hsz hWo) ?_
  intro v pc ls H locs q b hd hr hw hA
  subst hr; subst hsz
  have hS : va_S (pA Z s.heap.size) s.heap H locs := by rw [← hA]; exact hw.2.2
  have hD : va_D (pA Z s.heap.size) (pW (zx Z k0 n q b) S2) := by rw [← hA]; exact hw.2.1
  exact W.iret B.exec B.bytes B.returns (fun t ht hW => ⟨⟨v, (q, b), rfl, rfl, by show va_P (zD Z) vwCl (pW (zx Z k0 n q b) S2) t.heap; rw [ht]; exact hw.1, hD⟩, hS.F ht⟩) hS.2.2 hd B.notSynchronized
end PB
set_option maxRecDepth 100000 in
set_option maxHeartbeats 4000000 in
theorem wX11_trainN {l : Launch} {Z : pZ} (hZ : CC Z) (S : pS) (a1 : Int32) (a2 : Int32) (a3 : Int32) (a4 : Int32) (r : Int32) (S2 : pS) (o : Nat) (h0 : isA Z K_PF 0)  (hout : ∀ k, k ∈ zL Z → ¬ (131 ≤ k ∧ k < 131 + 4)) (hm : ∀ k, k ∈ zL Z → ∀ ci qs j o, zk Z k = .inr (ci, qs) → qs[j]? = some 1 → pmu (S k j) = some o → ¬ (131 ≤ o ∧ o < 131 + 4)) (hn : pmu (S 0 7) = none) (hr0 : F10_one S 1 a1 = some (some o)) (hr1 : F10_one (sU (sx S 131 4 rTraining) 0 7 131) 1 a1 = F10_one S 1 a1) (hw1 : ¬ F11_within a2 1 12 = 0) (hw2 : ¬ F11_within a3 0 1000 = 0) (hw3 : ¬ F11_within a4 0 1 = 0) (hf : F11_train (sU (sx S 131 4 rTraining) 0 7 131) a1 a2 a3 a4 = some (r, S2)) : CIn l Z yX11_train cX11_train 7 .int 8 189 4 12609 [.ref (za Z 0), .int a1, .int a2, .int a3, .int a4] S r 131 4 S2 := by
  unfold F11_train at hf
  refine eIn (own := RX11) (by decide) rfl (Nat.le_of_ble_eq_true rfl) (fun p e s m args below meth c Q ls G hAO hAI hl hw hret => ?_)
  obtain ⟨hx, hb, hml, hown, hts⟩ := G.1
  have hl : lv_has ls 7 [(0, .ref (za Z 0)), (1, .int a1), (2, .int a2), (3, .int a3), (4, .int a4)] := hl
  refine lv_aload_n hx hb dX11_train_0 rfl (lv_at hl 0 rfl) ?_
  refine gF G hw h0 KX11 0 (k2 := 1) rfl (by decide) rfl fl_X11_10 dX11_train_1 ?_
  refine lv_iload_n hx hb dX11_train_4 rfl (lv_at hl 1 rfl) ?_
  obtain ⟨r_1, hr_1, hf⟩ := bB_e hf
  rw [hr1] at hr_1
  refine kVq (rest := []) G hw (wX10_one hZ S 1 a1 r_1 (sub_PF_now hZ h0) hr_1) cw_X11_80 (sub_PF_now hZ h0) KX10 ⟨Nat.le_of_ble_eq_true rfl, Nat.le_of_ble_eq_true rfl⟩ rfl hl.1 rfl (Nat.le_of_ble_eq_true rfl) ⟨Nat.le_of_ble_eq_true rfl, Nat.le_of_ble_eq_true rfl⟩ dX11_train_5 (fun H locs hw => ?_)
  refine astQ (lv' := [(5, va_rf (Option.map (za Z) r_1)), (0, .ref (za Z 0)), (1, .int a1), (2, .int a2), (3, .int a3), (4, .int a4)]) hx hb dX11_train_8 hl (by decide) rfl (fun ls hl => ?_)
  refine aldQ hx hb dX11_train_10 (lv_at hl 0 rfl) ?_
  refine ifnQ (tgt := 46) hx hb dX11_train_12 (by decide) (fun e_17 => ?_) (fun o_2 e_17 => ?_)
  · exact absurd (hr0.symm.trans (hr_1.trans (congrArg some e_17))) (by simp)
  · subst e_17
    have hf := bO_s rfl hf
    have ho_2 := ret_X10_one hZ S 1 a1 (sub_PF_now hZ h0) (hr_1.trans (congrArg some rfl))
    refine lv_iload_n hx hb dX11_train_15 rfl (lv_at hl 3 rfl) ?_
    refine lv_iconst hx hb dX11_train_16 ki_1 ?_
    refine lv_bipush hx hb dX11_train_17 kb_12 ?_
    refine kSi (rest := []) G hw (wX11_within hZ S a2 1 12 (F11_within a2 1 12) rfl) cw_X11_51 ⟨Nat.le_of_ble_eq_true rfl, Nat.le_of_ble_eq_true rfl⟩ rfl hl.1 rfl (Nat.le_of_ble_eq_true rfl) ⟨Nat.le_of_ble_eq_true rfl, Nat.le_of_ble_eq_true rfl⟩ dX11_train_19 (fun H locs hw => ?_)
    refine lv_if_eq (tgt := 46) hx hb dX11_train_22 (by decide) (fun c_16 => ?_) (fun c_16 => ?_)
    · first | exact absurd c_16 hw1 | exact absurd c_16 hw2 | exact absurd c_16 hw3
    · have hf := (if_neg c_16).symm.trans hf
      refine lv_iload_n hx hb dX11_train_25 rfl (lv_at hl 4 rfl) ?_
      refine lv_iconst hx hb dX11_train_26 ki_0 ?_
      refine lv_sipush hx hb dX11_train_27 ks_1000 ?_
      refine kSi (rest := []) G hw (wX11_within hZ S a3 0 1000 (F11_within a3 0 1000) rfl) cw_X11_51 ⟨Nat.le_of_ble_eq_true rfl, Nat.le_of_ble_eq_true rfl⟩ rfl hl.1 rfl (Nat.le_of_ble_eq_true rfl) ⟨Nat.le_of_ble_eq_true rfl, Nat.le_of_ble_eq_true rfl⟩ dX11_train_30 (fun H locs hw => ?_)
      refine lv_if_eq (tgt := 46) hx hb dX11_train_33 (by decide) (fun c_15 => ?_) (fun c_15 => ?_)
      · first | exact absurd c_15 hw1 | exact absurd c_15 hw2 | exact absurd c_15 hw3
      · have hf := (if_neg c_15).symm.trans hf
        refine lv_iload hx hb dX11_train_36 (lv_at hl 5 rfl) ?_
        refine lv_iconst hx hb dX11_train_38 ki_0 ?_
        refine lv_iconst hx hb dX11_train_39 ki_1 ?_
        refine kSi (rest := []) G hw (wX11_within hZ S a4 0 1 (F11_within a4 0 1) rfl) cw_X11_51 ⟨Nat.le_of_ble_eq_true rfl, Nat.le_of_ble_eq_true rfl⟩ rfl hl.1 rfl (Nat.le_of_ble_eq_true rfl) ⟨Nat.le_of_ble_eq_true rfl, Nat.le_of_ble_eq_true rfl⟩ dX11_train_40 (fun H locs hw => ?_)
        refine lv_if_ne (tgt := 48) hx hb dX11_train_43 (by decide) (fun c_14 => ?_) (fun c_14 => ?_)
        · have hf := (if_neg c_14).symm.trans hf
          refine lv_aload_n hx hb dX11_train_48 rfl (lv_at hl 1 rfl) ?_
          refine gM G hw h0 KX11 7 (by decide) rfl fl_X11_401 dX11_train_49 ?_
          rw [hn]
          refine lv_ifnonnullN hx hb dX11_train_52 ?_
          refine lv_aload_n hx hb dX11_train_55 rfl (lv_at hl 1 rfl) ?_
          have G1 := Cx_Cn G hAO hAI
          have hA : ∀ a, s.heap.size ≤ a → pA Z s.heap.size a := fun a h => Or.inr (Or.inr h)
          refine cN G1 (Wd_Hn hw) hA KX9 kl_X11_404 ia_X9 in_X9 (fs := [.int 0, .int 0, .null, .null, .null]) (by decide +kernel) (Nat.le_of_ble_eq_true rfl) (Nat.le_of_ble_eq_true rfl) dX11_train_56 (fun q H hw => ?_)
          refine lv_dup hx hb dX11_train_59 rfl ?_
          refine cK (rest := [.ref q, .ref (za Z 0)]) G1 hw hA (nX9 l (zD Z) (zd Z)) ml_X11_406 im_X9_init in_X9 co_X9_init rfl ⟨nh_X9.1, nh_X9.2, pd_0⟩ ⟨Nat.le_of_ble_eq_true rfl, Nat.le_of_ble_eq_true rfl⟩ hl.1 (Nat.le_of_ble_eq_true rfl) ⟨Nat.le_of_ble_eq_true rfl, Nat.le_of_ble_eq_true rfl⟩ dX11_train_60 (fun b H locs hw => ?_)
          obtain ⟨hw, hpA⟩ := zx_Wd (S2 := sx S 131 4 rTraining) (q := q) (b := b) hZ hout (fun k hk => sx_out (hout k hk)) hm (wTraining hZ.1 (fun i hi => sx_in hi)) hw
          have G := zx_Cx hpA G
          have hZ : CC (zx Z 131 4 q b) := zx_C hZ (by decide +kernel)
          have eo : za (zx Z 131 4 q b) o_2 = za Z o_2 := zx_out (hout _ ho_2.2)
          have e0 : za (zx Z 131 4 q b) 0 = za Z 0 := zx_out (by decide)
          have h0 : isA (zx Z 131 4 q b) K_PF 0 := ⟨h0.1, List.mem_append.mpr (Or.inl h0.2)⟩
          have ho_2 : isA (zx Z 131 4 q b) K_Thrower o_2 := ⟨ho_2.1, List.mem_append.mpr (Or.inl ho_2.2)⟩
          have h131 : isA (zx Z 131 4 q b) K_Training (131 + 0) := ⟨by rw [hZ.1]; rfl, List.mem_append.mpr (Or.inr (List.mem_map.mpr ⟨0, by decide, rfl⟩))⟩
          have h132 : isA (zx Z 131 4 q b) K_J6300 (131 + 1) := ⟨by rw [hZ.1]; rfl, List.mem_append.mpr (Or.inr (List.mem_map.mpr ⟨1, by decide, rfl⟩))⟩
          have h133 : isA (zx Z 131 4 q b) K_J6300 (131 + 2) := ⟨by rw [hZ.1]; rfl, List.mem_append.mpr (Or.inr (List.mem_map.mpr ⟨2, by decide, rfl⟩))⟩
          rw [← e0] at hl ⊢
          rw [show va_rf (Option.map (za Z) (some o_2)) = Value.ref (za (zx Z 131 4 q b) o_2) from by rw [eo]; rfl] at hl
          refine pM (x := 131) (z := 131) G hw h0 KX11 7 (by decide) rfl (by decide) rfl rfl rfl rfl fl_X11_401 dX11_train_63 (fun H locs hw => ?_)
          obtain ⟨hg1, hf⟩ := bG_e hf
          obtain ⟨j66, ej, hf⟩ := bL_e hf
          have R66 : ∀ (S_3 : pS) (H : Heap) (locs : List Loc) (ls : Array Slot), Wd (zx Z 131 4 q b) s S_3 H locs → lv_has ls 7 [(0, .ref (za (zx Z 131 4 q b) 0)), (2, .int a2), (3, .int a3), (4, .int a4), (5, .ref (za (zx Z 131 4 q b) o_2))] → j66 S_3 = some (r, S2) → W p l e { frames := 8, cells := 4, slots := 12609, locals := 189 } s m args below meth c H locs 4 12609 Q (F0 m 66 ls []) := by
            intro S_3 H locs ls hw hl hf
            have hf := (congrFun ej S_3).symm.trans hf
            refine lv_aload_n hx hb dX11_train_66 rfl (lv_at hl 0 rfl) ?_
            obtain ⟨hg1, hf⟩ := bG_e hf
            refine gMs G hw h0 KX11 7 (by decide) rfl hg1 fl_X11_401 dX11_train_67 ?_
            refine lv_aload hx hb dX11_train_70 (lv_at hl 4 rfl) ?_
            refine gI G hw ho_2 KX8 0 (by decide) rfl fl_X11_84 dX11_train_72 ?_
            refine lv_aload hx hb dX11_train_75 (lv_at hl 4 rfl) ?_
            refine gI G hw ho_2 KX8 1 (by decide) rfl fl_X11_89 dX11_train_77 ?_
            obtain ⟨S_4, hS_4, hf⟩ := bB_e hf
            refine kVv (rest := []) G hw (wX9_begin hZ S_3 131 (S_3 o_2 0) (S_3 o_2 1) S_4 h131 h132 h133 hS_4) cw_X11_407 h131 KX9 ⟨Nat.le_of_ble_eq_true rfl, Nat.le_of_ble_eq_true rfl⟩ rfl hl.1 rfl (Nat.le_of_ble_eq_true rfl) ⟨Nat.le_of_ble_eq_true rfl, Nat.le_of_ble_eq_true rfl⟩ dX11_train_80 (fun H locs hw => ?_)
            refine lv_iconst hx hb dX11_train_83 ki_0 ?_
            refine lv_istore (lv' := [(6, .int 0), (0, .ref (za (zx Z 131 4 q b) 0)), (2, .int a2), (3, .int a3), (4, .int a4), (5, .ref (za (zx Z 131 4 q b) o_2))]) hx hb dX11_train_84 hl (by decide) rfl (fun ls hl => ?_)
            obtain ⟨g115_86, ej, hf⟩ := bL_e hf
            have R115_86 : ∀ (S_5 : pS) (H : Heap) (locs : List Loc) (ls : Array Slot), Wd (zx Z 131 4 q b) s S_5 H locs → lv_has ls 7 [(0, .ref (za (zx Z 131 4 q b) 0)), (4, .int a4)] → g115_86 S_5 = some (r, S2) → W p l e { frames := 8, cells := 4, slots := 12609, locals := 189 } s m args below meth c H locs 4 12609 Q (F0 m 115 ls []) := by
              intro S_5 H locs ls hw hl hf
              have hf := (congrFun ej S_5).symm.trans hf
              refine lv_aload_n hx hb dX11_train_115 rfl (lv_at hl 0 rfl) ?_
              obtain ⟨hg1, hf⟩ := bG_e hf
              refine gMs G hw h0 KX11 7 (by decide) rfl hg1 fl_X11_401 dX11_train_116 ?_
              obtain ⟨S_6, hS_6, hf⟩ := bB_e hf
              refine kVv (rest := []) G hw (wX9_judge hZ S_5 131 S_6 h131 h132 h133 hS_6) cw_X11_413 h131 KX9 ⟨Nat.le_of_ble_eq_true rfl, Nat.le_of_ble_eq_true rfl⟩ rfl hl.1 rfl (Nat.le_of_ble_eq_true rfl) ⟨Nat.le_of_ble_eq_true rfl, Nat.le_of_ble_eq_true rfl⟩ dX11_train_119 (fun H locs hw => ?_)
              refine lv_iload hx hb dX11_train_122 (lv_at hl 1 rfl) ?_
              refine lv_if_ne (tgt := 137) hx hb dX11_train_124 (by decide) (fun c_7 => ?_) (fun c_7 => ?_)
              · have hf := (if_neg c_7).symm.trans hf
                refine lv_aload_n hx hb dX11_train_137 rfl (lv_at hl 0 rfl) ?_
                obtain ⟨hg1, hf⟩ := bG_e hf
                refine gMs G hw h0 KX11 7 (by decide) rfl hg1 fl_X11_401 dX11_train_138 ?_
                refine gI G hw h131 KX9 1 (by decide) rfl fl_X11_417 dX11_train_141 ?_
                obtain ⟨e1, e2⟩ := Prod.mk.inj (Option.some.inj hf)
                exact hret _ _ _ _ _ _ _ dX11_train_144 e1 (by rw [← e2]; exact hw) hpA
              · have hf := (if_pos c_7).symm.trans hf
                refine lv_aload_n hx hb dX11_train_127 rfl (lv_at hl 0 rfl) ?_
                obtain ⟨hg1, hf⟩ := bG_e hf
                refine gMs G hw h0 KX11 7 (by decide) rfl hg1 fl_X11_401 dX11_train_128 ?_
                refine gI G hw h131 KX9 0 (by decide) rfl fl_X11_416 dX11_train_131 ?_
                refine lv_goto (tgt := 144) hx hb dX11_train_134 (by decide) ?_
                obtain ⟨e1, e2⟩ := Prod.mk.inj (Option.some.inj hf)
                exact hret _ _ _ _ _ _ _ dX11_train_144 e1 (by rw [← e2]; exact hw) hpA
            clear ej
            obtain ⟨b86, eb, hf⟩ := bL_e hf
            have RL86 : ∀ (n : Nat) z, (u1 g115_86) z = some (r, S2) → ∀ (l6_8 : Int32) (S_9 : pS) (H : Heap) (locs : List Loc) (ls : Array Slot), Wd (zx Z 131 4 q b) s S_9 H locs → lv_has ls 7 [(0, .ref (za (zx Z 131 4 q b) 0)), (2, .int a2), (3, .int a3), (4, .int a4), (6, .int l6_8)] → bPn b86 n (l6_8, S_9) = some z → W p l e { frames := 8, cells := 4, slots := 12609, locals := 189 } s m args below meth c H locs 4 12609 Q (F0 m 86 ls []) := by
              intro n
              induction n with
              | zero =>
                intro z hg l6_8 S_9 H locs ls hw hl hz
                exact bPn_0 hz
              | succ n ih =>
                intro z hg l6_8 S_9 H locs ls hw hl hz
                obtain ⟨q_10, hf, hz⟩ := bPn_e hz
                have hf := u2_e ((congrFun eb _).symm.trans hf)
                refine lv_iload hx hb dX11_train_86 (lv_at hl 4 rfl) ?_
                refine lv_iload_n hx hb dX11_train_88 rfl (lv_at hl 1 rfl) ?_
                refine lv_icmp_ge (tgt := 115) hx hb dX11_train_89 (by decide) (fun c_13 => ?_) (fun c_13 => ?_)
                · have hf := (if_pos c_13).symm.trans hf
                  obtain rfl := Option.some.inj hf
                  obtain rfl := Option.some.inj (hz : some _ = some _)
                  exact R115_86 _ _ _ _ hw (lv_sub hl [0, 3] rfl) hg
                · have hf := (if_neg c_13).symm.trans hf
                  refine lv_aload_n hx hb dX11_train_92 rfl (lv_at hl 0 rfl) ?_
                  obtain ⟨hg1, hf⟩ := bG_e hf
                  refine gMs G hw h0 KX11 7 (by decide) rfl hg1 fl_X11_401 dX11_train_93 ?_
                  refine lv_aload_n hx hb dX11_train_96 rfl (lv_at hl 0 rfl) ?_
                  refine gF G hw h0 KX11 0 (k2 := 1) rfl (by decide) rfl fl_X11_10 dX11_train_97 ?_
                  refine gF G hw (sub_PF_now hZ h0) KX10 16 (k2 := 22) rfl (by decide) rfl fl_X11_136 dX11_train_100 ?_
                  refine lv_iload hx hb dX11_train_103 (lv_at hl 4 rfl) ?_
                  refine lv_iload_n hx hb dX11_train_105 rfl (lv_at hl 2 rfl) ?_
                  obtain ⟨S_11, hS_11, hf⟩ := bB_e hf
                  refine kVv (rest := []) G hw (wX9_week hZ S_9 131 22 l6_8 a3 S_11 h131 (sub_World_training hZ (sub_PF_now hZ h0)) h132 h133 hS_11) cw_X11_409 h131 KX9 ⟨Nat.le_of_ble_eq_true rfl, Nat.le_of_ble_eq_true rfl⟩ rfl hl.1 rfl (Nat.le_of_ble_eq_true rfl) ⟨Nat.le_of_ble_eq_true rfl, Nat.le_of_ble_eq_true rfl⟩ dX11_train_106 (fun H locs hw => ?_)
                  obtain ⟨l6_12, el6_12, hf⟩ := bL_e hf
                  refine lv_iinc (v := l6_12) (lv' := [(6, .int l6_12), (0, .ref (za (zx Z 131 4 q b) 0)), (2, .int a2), (3, .int a3), (4, .int a4)]) hx hb dX11_train_109 hl (k := 4) rfl (by rw [el6_12]; rfl) (by decide) rfl (fun ls hl => ?_)
                  refine lv_goto (tgt := 86) hx hb dX11_train_112 (by decide) ?_
                  obtain rfl := Option.some.inj hf
                  exact ih _ hg _ _ _ _ _ hw (lv_sub hl [1, 2, 3, 4, 0] rfl) hz
            clear eb
            obtain ⟨z, hz, hf⟩ := bB_e hf
            obtain ⟨n, hz⟩ := bP_e hz
            exact RL86 n z hf _ _ _ _ _ hw (lv_sub hl [1, 2, 3, 4, 0] rfl) hz
          clear ej
          exact R66 _ _ _ _ hw (lv_sub hl [1, 3, 4, 5, 0] rfl) hf
        · first | exact absurd c_14 hw1 | exact absurd c_14 hw2 | exact absurd c_14 hw3
set_option maxRecDepth 100000 in
set_option maxHeartbeats 4000000 in
theorem wX11_chanceN {l : Launch} {Z : pZ} (hZ : CC Z) (S : pS) (a1 : Int32) (a2 : Int32) (a3 : Int32) (a4 : Int32) (a5 : Int32) (a6 : Int32) (r : Int32) (S2 : pS) (o : Nat) (h0 : isA Z K_PF 0) (h15 : isA Z K_Law 15) (hout : ∀ k, k ∈ zL Z → ¬ (119 ≤ k ∧ k < 119 + 12)) (hm : ∀ k, k ∈ zL Z → ∀ ci qs j o, zk Z k = .inr (ci, qs) → qs[j]? = some 1 → pmu (S k j) = some o → ¬ (119 ≤ o ∧ o < 119 + 12)) (hn : pmu (S 0 6) = none) (hr0 : F10_one S 1 a1 = some (some o)) (hr1 : F10_one (sU (sx S 119 12 rChances) 0 6 119) 1 a1 = F10_one S 1 a1) (hw1 : ¬ F11_within a3 0 6 = 0) (hw2 : ¬ F11_canThrow (sU (sx S 119 12 rChances) 0 6 119) 0 a4 a5 = 0) (hr2 : F11_canThrow (sU (sx S 119 12 rChances) 0 6 119) 0 a4 a5 = F11_canThrow S 0 a4 a5) (hw3 : ¬ F11_within a6 0 1 = 0) (hf : F11_chance (sU (sx S 119 12 rChances) 0 6 119) a1 a2 a3 a4 a5 a6 = some (r, S2)) : CIn l Z yX11_chance cX11_chance 10 .int 49 2605 12 7035 [.ref (za Z 0), .int a1, .int a2, .int a3, .int a4, .int a5, .int a6] S r 119 12 S2 := by
  unfold F11_chance at hf
  refine eIn (own := RX11) (by decide) rfl (Nat.le_of_ble_eq_true rfl) (fun p e s m args below meth c Q ls G hAO hAI hl hw hret => ?_)
  obtain ⟨hx, hb, hml, hown, hts⟩ := G.1
  have hl : lv_has ls 10 [(0, .ref (za Z 0)), (1, .int a1), (2, .int a2), (3, .int a3), (4, .int a4), (5, .int a5), (6, .int a6)] := hl
  refine lv_aload_n hx hb dX11_chance_0 rfl (lv_at hl 0 rfl) ?_
  refine gF G hw h0 KX11 0 (k2 := 1) rfl (by decide) rfl fl_X11_10 dX11_chance_1 ?_
  refine lv_iload_n hx hb dX11_chance_4 rfl (lv_at hl 1 rfl) ?_
  obtain ⟨r_1, hr_1, hf⟩ := bB_e hf
  rw [hr1] at hr_1
  refine kVq (rest := []) G hw (wX10_one hZ S 1 a1 r_1 (sub_PF_now hZ h0) hr_1) cw_X11_80 (sub_PF_now hZ h0) KX10 ⟨Nat.le_of_ble_eq_true rfl, Nat.le_of_ble_eq_true rfl⟩ rfl hl.1 rfl (Nat.le_of_ble_eq_true rfl) ⟨Nat.le_of_ble_eq_true rfl, Nat.le_of_ble_eq_true rfl⟩ dX11_chance_5 (fun H locs hw => ?_)
  refine astQ (lv' := [(7, va_rf (Option.map (za Z) r_1)), (0, .ref (za Z 0)), (1, .int a1), (2, .int a2), (3, .int a3), (4, .int a4), (5, .int a5), (6, .int a6)]) hx hb dX11_chance_8 hl (by decide) rfl (fun ls hl => ?_)
  refine aldQ hx hb dX11_chance_10 (lv_at hl 0 rfl) ?_
  refine ifnQ (tgt := 47) hx hb dX11_chance_12 (by decide) (fun e_22 => ?_) (fun o_2 e_22 => ?_)
  · exact absurd (hr0.symm.trans (hr_1.trans (congrArg some e_22))) (by simp)
  · subst e_22
    have hf := bO_s rfl hf
    have ho_2 := ret_X10_one hZ S 1 a1 (sub_PF_now hZ h0) (hr_1.trans (congrArg some rfl))
    refine lv_iload_n hx hb dX11_chance_15 rfl (lv_at hl 4 rfl) ?_
    refine lv_iconst hx hb dX11_chance_16 ki_0 ?_
    refine lv_bipush hx hb dX11_chance_17 kb_6 ?_
    refine kSi (rest := []) G hw (wX11_within hZ S a3 0 6 (F11_within a3 0 6) rfl) cw_X11_51 ⟨Nat.le_of_ble_eq_true rfl, Nat.le_of_ble_eq_true rfl⟩ rfl hl.1 rfl (Nat.le_of_ble_eq_true rfl) ⟨Nat.le_of_ble_eq_true rfl, Nat.le_of_ble_eq_true rfl⟩ dX11_chance_19 (fun H locs hw => ?_)
    refine lv_if_eq (tgt := 47) hx hb dX11_chance_22 (by decide) (fun c_21 => ?_) (fun c_21 => ?_)
    · first | exact absurd c_21 hw1 | exact absurd c_21 hw2 | exact absurd c_21 hw3
    · have hf := (if_neg c_21).symm.trans hf
      refine lv_aload_n hx hb dX11_chance_25 rfl (lv_at hl 1 rfl) ?_
      refine lv_iconst hx hb dX11_chance_26 ki_0 ?_
      refine lv_iload hx hb dX11_chance_27 (lv_at hl 5 rfl) ?_
      refine lv_iload hx hb dX11_chance_29 (lv_at hl 6 rfl) ?_
      refine kVi (rest := []) G hw (wX11_canThrow hZ S 0 a4 a5 (F11_canThrow S 0 a4 a5) h0 rfl) cw_X11_186 h0 KX11 ⟨Nat.le_of_ble_eq_true rfl, Nat.le_of_ble_eq_true rfl⟩ rfl hl.1 rfl (Nat.le_of_ble_eq_true rfl) ⟨Nat.le_of_ble_eq_true rfl, Nat.le_of_ble_eq_true rfl⟩ dX11_chance_31 (fun H locs hw => ?_)
      refine lv_if_eq (tgt := 47) hx hb dX11_chance_34 (by decide) (fun c_20 => ?_) (fun c_20 => ?_)
      · first | exact absurd c_20 hw1 | exact absurd c_20 hw2 | exact absurd c_20 hw3
      · have hf := (if_neg c_20).symm.trans hf
        refine lv_iload hx hb dX11_chance_37 (lv_at hl 7 rfl) ?_
        refine lv_iconst hx hb dX11_chance_39 ki_0 ?_
        refine lv_iconst hx hb dX11_chance_40 ki_1 ?_
        refine kSi (rest := []) G hw (wX11_within hZ S a6 0 1 (F11_within a6 0 1) rfl) cw_X11_51 ⟨Nat.le_of_ble_eq_true rfl, Nat.le_of_ble_eq_true rfl⟩ rfl hl.1 rfl (Nat.le_of_ble_eq_true rfl) ⟨Nat.le_of_ble_eq_true rfl, Nat.le_of_ble_eq_true rfl⟩ dX11_chance_41 (fun H locs hw => ?_)
        refine lv_if_ne (tgt := 49) hx hb dX11_chance_44 (by decide) (fun c_19 => ?_) (fun c_19 => ?_)
        · have hf := (if_neg c_19).symm.trans hf
          refine lv_aload_n hx hb dX11_chance_49 rfl (lv_at hl 1 rfl) ?_
          refine gM G hw h0 KX11 6 (by decide) rfl fl_X11_371 dX11_chance_50 ?_
          rw [hn]
          refine lv_ifnonnullN hx hb dX11_chance_53 ?_
          refine lv_aload_n hx hb dX11_chance_56 rfl (lv_at hl 1 rfl) ?_
          have G1 := Cx_Cn G hAO hAI
          have hA : ∀ a, s.heap.size ≤ a → pA Z s.heap.size a := fun a h => Or.inr (Or.inr h)
          refine cN G1 (Wd_Hn hw) hA KX1 kl_X11_375 ia_X1 in_X1 (fs := [.null, .int 0, .int 0, .null, .null, .null, .int 0, .int 0, .int 0]) (by decide +kernel) (Nat.le_of_ble_eq_true rfl) (Nat.le_of_ble_eq_true rfl) dX11_chance_57 (fun q H hw => ?_)
          refine lv_dup hx hb dX11_chance_60 rfl ?_
          refine cK (rest := [.ref q, .ref (za Z 0)]) G1 hw hA (nX1 l (zD Z) (zd Z)) ml_X11_377 im_X1_init in_X1 co_X1_init rfl ⟨nh_X1.1, nh_X1.2, pd_0⟩ ⟨Nat.le_of_ble_eq_true rfl, Nat.le_of_ble_eq_true rfl⟩ hl.1 (Nat.le_of_ble_eq_true rfl) ⟨Nat.le_of_ble_eq_true rfl, Nat.le_of_ble_eq_true rfl⟩ dX11_chance_61 (fun b H locs hw => ?_)
          obtain ⟨hw, hpA⟩ := zx_Wd (S2 := sx S 119 12 rChances) (q := q) (b := b) hZ hout (fun k hk => sx_out (hout k hk)) hm (wChances hZ.1 (fun i hi => sx_in hi)) hw
          have G := zx_Cx hpA G
          have hZ : CC (zx Z 119 12 q b) := zx_C hZ (by decide +kernel)
          have eo : za (zx Z 119 12 q b) o_2 = za Z o_2 := zx_out (hout _ ho_2.2)
          have e0 : za (zx Z 119 12 q b) 0 = za Z 0 := zx_out (by decide)
          have h0 : isA (zx Z 119 12 q b) K_PF 0 := ⟨h0.1, List.mem_append.mpr (Or.inl h0.2)⟩
          have ho_2 : isA (zx Z 119 12 q b) K_Thrower o_2 := ⟨ho_2.1, List.mem_append.mpr (Or.inl ho_2.2)⟩
          have h15 : isA (zx Z 119 12 q b) K_Law 15 := ⟨h15.1, List.mem_append.mpr (Or.inl h15.2)⟩
          have h119 : isA (zx Z 119 12 q b) K_Chances (119 + 0) := ⟨by rw [hZ.1]; rfl, List.mem_append.mpr (Or.inr (List.mem_map.mpr ⟨0, by decide, rfl⟩))⟩
          rw [← e0] at hl ⊢
          rw [show va_rf (Option.map (za Z) (some o_2)) = Value.ref (za (zx Z 119 12 q b) o_2) from by rw [eo]; rfl] at hl
          refine pM (x := 119) (z := 119) G hw h0 KX11 6 (by decide) rfl (by decide) rfl rfl rfl rfl fl_X11_371 dX11_chance_64 (fun H locs hw => ?_)
          obtain ⟨hg1, hf⟩ := bG_e hf
          obtain ⟨j67, ej, hf⟩ := bL_e hf
          have R67 : ∀ (S_3 : pS) (H : Heap) (locs : List Loc) (ls : Array Slot), Wd (zx Z 119 12 q b) s S_3 H locs → lv_has ls 10 [(0, .ref (za (zx Z 119 12 q b) 0)), (2, .int a2), (3, .int a3), (4, .int a4), (5, .int a5), (6, .int a6), (7, .ref (za (zx Z 119 12 q b) o_2))] → j67 S_3 = some (r, S2) → W p l e { frames := 49, cells := 12, slots := 7035, locals := 2605 } s m args below meth c H locs 12 7035 Q (F0 m 67 ls []) := by
            intro S_3 H locs ls hw hl hf
            have hf := (congrFun ej S_3).symm.trans hf
            refine lv_iconst hx hb dX11_chance_67 ki_0 ?_
            refine lv_istore (lv' := [(8, .int 0), (0, .ref (za (zx Z 119 12 q b) 0)), (2, .int a2), (3, .int a3), (4, .int a4), (5, .int a5), (6, .int a6), (7, .ref (za (zx Z 119 12 q b) o_2))]) hx hb dX11_chance_68 hl (by decide) rfl (fun ls hl => ?_)
            obtain ⟨g141_70, ej, hf⟩ := bL_e hf
            have R141_70 : ∀ (S_4 : pS) (H : Heap) (locs : List Loc) (ls : Array Slot), Wd (zx Z 119 12 q b) s S_4 H locs → lv_has ls 10 [(0, .ref (za (zx Z 119 12 q b) 0)), (3, .int a3), (4, .int a4), (6, .int a6), (7, .ref (za (zx Z 119 12 q b) o_2))] → g141_70 S_4 = some (r, S2) → W p l e { frames := 49, cells := 12, slots := 7035, locals := 2605 } s m args below meth c H locs 12 7035 Q (F0 m 141 ls []) := by
              intro S_4 H locs ls hw hl hf
              have hf := (congrFun ej S_4).symm.trans hf
              refine lv_aload_n hx hb dX11_chance_141 rfl (lv_at hl 0 rfl) ?_
              obtain ⟨hg1, hf⟩ := bG_e hf
              refine gMs G hw h0 KX11 6 (by decide) rfl hg1 fl_X11_371 dX11_chance_142 ?_
              refine lv_aload_n hx hb dX11_chance_145 rfl (lv_at hl 0 rfl) ?_
              refine gF G hw h0 KX11 0 (k2 := 1) rfl (by decide) rfl fl_X11_10 dX11_chance_146 ?_
              refine lv_aload hx hb dX11_chance_149 (lv_at hl 4 rfl) ?_
              refine lv_iload_n hx hb dX11_chance_151 rfl (lv_at hl 1 rfl) ?_
              refine lv_iload hx hb dX11_chance_152 (lv_at hl 2 rfl) ?_
              obtain ⟨S_5, hS_5, hf⟩ := bB_e hf
              refine kVv (rest := []) G hw (wX1_weigh hZ S_4 119 1 o_2 a3 a4 S_5 h119 (sub_PF_now hZ h0) ho_2 h15 hS_5) cw_X11_388 h119 KX1 ⟨Nat.le_of_ble_eq_true rfl, Nat.le_of_ble_eq_true rfl⟩ rfl hl.1 rfl (Nat.le_of_ble_eq_true rfl) ⟨Nat.le_of_ble_eq_true rfl, Nat.le_of_ble_eq_true rfl⟩ dX11_chance_154 (fun H locs hw => ?_)
              refine lv_iload hx hb dX11_chance_157 (lv_at hl 3 rfl) ?_
              refine lv_if_ne (tgt := 172) hx hb dX11_chance_159 (by decide) (fun c_6 => ?_) (fun c_6 => ?_)
              · have hf := (if_neg c_6).symm.trans hf
                refine lv_aload_n hx hb dX11_chance_172 rfl (lv_at hl 0 rfl) ?_
                obtain ⟨hg1, hf⟩ := bG_e hf
                refine gMs G hw h0 KX11 6 (by decide) rfl hg1 fl_X11_371 dX11_chance_173 ?_
                refine gI G hw h119 KX1 2 (by decide) rfl fl_X11_395 dX11_chance_176 ?_
                obtain ⟨e1, e2⟩ := Prod.mk.inj (Option.some.inj hf)
                exact hret _ _ _ _ _ _ _ dX11_chance_179 e1 (by rw [← e2]; exact hw) hpA
              · have hf := (if_pos c_6).symm.trans hf
                refine lv_aload_n hx hb dX11_chance_162 rfl (lv_at hl 0 rfl) ?_
                obtain ⟨hg1, hf⟩ := bG_e hf
                refine gMs G hw h0 KX11 6 (by decide) rfl hg1 fl_X11_371 dX11_chance_163 ?_
                refine gI G hw h119 KX1 1 (by decide) rfl fl_X11_392 dX11_chance_166 ?_
                refine lv_goto (tgt := 179) hx hb dX11_chance_169 (by decide) ?_
                obtain ⟨e1, e2⟩ := Prod.mk.inj (Option.some.inj hf)
                exact hret _ _ _ _ _ _ _ dX11_chance_179 e1 (by rw [← e2]; exact hw) hpA
            clear ej
            obtain ⟨b70, eb, hf⟩ := bL_e hf
            have RL70 : ∀ (n : Nat) z, (u1 g141_70) z = some (r, S2) → ∀ (l8_7 : Int32) (S_8 : pS) (H : Heap) (locs : List Loc) (ls : Array Slot), Wd (zx Z 119 12 q b) s S_8 H locs → lv_has ls 10 [(0, .ref (za (zx Z 119 12 q b) 0)), (2, .int a2), (3, .int a3), (4, .int a4), (5, .int a5), (6, .int a6), (7, .ref (za (zx Z 119 12 q b) o_2)), (8, .int l8_7)] → bPn b70 n (l8_7, S_8) = some z → W p l e { frames := 49, cells := 12, slots := 7035, locals := 2605 } s m args below meth c H locs 12 7035 Q (F0 m 70 ls []) := by
              intro n
              induction n with
              | zero =>
                intro z hg l8_7 S_8 H locs ls hw hl hz
                exact bPn_0 hz
              | succ n ih =>
                intro z hg l8_7 S_8 H locs ls hw hl hz
                obtain ⟨q_9, hf, hz⟩ := bPn_e hz
                have hf := u2_e ((congrFun eb _).symm.trans hf)
                refine lv_iload hx hb dX11_chance_70 (lv_at hl 7 rfl) ?_
                refine lv_bipush hx hb dX11_chance_72 kb_10 ?_
                refine lv_icmp_ge (tgt := 141) hx hb dX11_chance_74 (by decide) (fun c_18 => ?_) (fun c_18 => ?_)
                · have hf := (if_pos c_18).symm.trans hf
                  obtain rfl := Option.some.inj hf
                  obtain rfl := Option.some.inj (hz : some _ = some _)
                  exact R141_70 _ _ _ _ hw (lv_sub hl [0, 2, 3, 5, 6] rfl) hg
                · have hf := (if_neg c_18).symm.trans hf
                  refine lv_aload_n hx hb dX11_chance_77 rfl (lv_at hl 0 rfl) ?_
                  refine gF G hw h0 KX11 2 (k2 := 59) rfl (by decide) rfl fl_X11_26 dX11_chance_78 ?_
                  refine lv_aload_n hx hb dX11_chance_81 rfl (lv_at hl 0 rfl) ?_
                  refine gF G hw h0 KX11 0 (k2 := 1) rfl (by decide) rfl fl_X11_10 dX11_chance_82 ?_
                  refine lv_iload hx hb dX11_chance_85 (lv_at hl 7 rfl) ?_
                  refine kTi (rest := [.ref (za (zx Z 119 12 q b) 1), .ref (za (zx Z 119 12 q b) 59)]) G hw (wX1_choice hZ S_8 l8_7 (F1_choice l8_7) rfl) cw_X11_378 ⟨Nat.le_of_ble_eq_true rfl, Nat.le_of_ble_eq_true rfl⟩ rfl hl.1 rfl (Nat.le_of_ble_eq_true rfl) ⟨Nat.le_of_ble_eq_true rfl, Nat.le_of_ble_eq_true rfl⟩ dX11_chance_87 (fun H locs hw => ?_)
                  refine lv_iload hx hb dX11_chance_90 (lv_at hl 3 rfl) ?_
                  refine lv_iload hx hb dX11_chance_92 (lv_at hl 4 rfl) ?_
                  refine lv_aload_n hx hb dX11_chance_94 rfl (lv_at hl 0 rfl) ?_
                  refine gF G hw h0 KX11 0 (k2 := 1) rfl (by decide) rfl fl_X11_10 dX11_chance_95 ?_
                  refine gF G hw (sub_PF_now hZ h0) KX10 8 (k2 := 2) rfl (by decide) rfl fl_X11_222 dX11_chance_98 ?_
                  refine lv_iconst hx hb dX11_chance_101 ki_0 ?_
                  refine aI G hw (sub_World_told hZ (sub_PF_now hZ h0)) (vin_e (by decide)) (j := 0) (by decide) dX11_chance_102 ?_
                  obtain ⟨r_10, S_11, hr_10, hf⟩ := bB2_e hf
                  refine kVi (rest := []) G hw (wX7_goodFar hZ S_8 59 1 (F1_choice l8_7) a4 a5 (S_8 2 0) r_10 S_11 (sub_PF_thought hZ h0) (sub_PF_now hZ h0) hr_10) cw_X11_381 (sub_PF_thought hZ h0) KX7 ⟨Nat.le_of_ble_eq_true rfl, Nat.le_of_ble_eq_true rfl⟩ rfl hl.1 rfl (Nat.le_of_ble_eq_true rfl) ⟨Nat.le_of_ble_eq_true rfl, Nat.le_of_ble_eq_true rfl⟩ dX11_chance_103 (fun H locs hw => ?_)
                  refine lv_istore (lv' := [(9, .int r_10), (0, .ref (za (zx Z 119 12 q b) 0)), (2, .int a2), (3, .int a3), (4, .int a4), (5, .int a5), (6, .int a6), (7, .ref (za (zx Z 119 12 q b) o_2)), (8, .int l8_7)]) hx hb dX11_chance_106 hl (by decide) rfl (fun ls hl => ?_)
                  refine lv_aload_n hx hb dX11_chance_108 rfl (lv_at hl 1 rfl) ?_
                  obtain ⟨hg1, hf⟩ := bG_e hf
                  refine gMs G hw h0 KX11 6 (by decide) rfl hg1 fl_X11_371 dX11_chance_109 ?_
                  refine gF G hw h119 KX1 0 (k2 := 120) rfl (by decide) rfl fl_X11_384 dX11_chance_112 ?_
                  refine lv_iload hx hb dX11_chance_115 (lv_at hl 8 rfl) ?_
                  refine lv_iload hx hb dX11_chance_117 (lv_at hl 0 rfl) ?_
                  refine lv_iconst hx hb dX11_chance_119 ki_m1 ?_
                  obtain ⟨j134, ej, hf⟩ := bL_e hf
                  have R134 : ∀ (t_12 : Int32) (H : Heap) (locs : List Loc) (ls : Array Slot), Wd (zx Z 119 12 q b) s S_11 H locs → lv_has ls 10 [(0, .ref (za (zx Z 119 12 q b) 0)), (2, .int a2), (3, .int a3), (4, .int a4), (5, .int a5), (6, .int a6), (7, .ref (za (zx Z 119 12 q b) o_2)), (8, .int l8_7)] → j134 t_12 = some q_9 → W p l e { frames := 49, cells := 12, slots := 7035, locals := 2605 } s m args below meth c H locs 12 7035 Q (F0 m 134 ls [.int t_12, .int l8_7, .ref (za (zx Z 119 12 q b) 120)]) := by
                    intro t_12 H locs ls hw hl hf
                    have hf := (congrFun ej t_12).symm.trans hf
                    obtain ⟨hg_13, hf⟩ := bG_e hf
                    obtain ⟨S_14, eS_14, hf⟩ := bL_e hf
                    refine sZ G hw (sub_Chances_reaches hZ h119) hg_13 (j := l8_7.toNatClampNeg) rfl eS_14 dX11_chance_134 (fun H locs hw => ?_)
                    obtain ⟨l8_15, el8_15, hf⟩ := bL_e hf
                    refine lv_iinc (v := l8_15) (lv' := [(8, .int l8_15), (0, .ref (za (zx Z 119 12 q b) 0)), (2, .int a2), (3, .int a3), (4, .int a4), (5, .int a5), (6, .int a6), (7, .ref (za (zx Z 119 12 q b) o_2))]) hx hb dX11_chance_135 hl (k := 7) rfl (by rw [el8_15]; rfl) (by decide) rfl (fun ls hl => ?_)
                    refine lv_goto (tgt := 70) hx hb dX11_chance_138 (by decide) ?_
                    obtain rfl := Option.some.inj hf
                    exact ih _ hg _ _ _ _ _ hw (lv_sub hl [1, 2, 3, 4, 5, 6, 7, 0] rfl) hz
                  clear ej
                  obtain ⟨j133, ej, hf⟩ := bL_e hf
                  have R133 : ∀ (H : Heap) (locs : List Loc) (ls : Array Slot), Wd (zx Z 119 12 q b) s S_11 H locs → lv_has ls 10 [(0, .ref (za (zx Z 119 12 q b) 0)), (2, .int a2), (3, .int a3), (4, .int a4), (5, .int a5), (6, .int a6), (7, .ref (za (zx Z 119 12 q b) o_2)), (8, .int l8_7)] → j133 () = some q_9 → W p l e { frames := 49, cells := 12, slots := 7035, locals := 2605 } s m args below meth c H locs 12 7035 Q (F0 m 133 ls [.int l8_7, .ref (za (zx Z 119 12 q b) 120)]) := by
                    intro  H locs ls hw hl hf
                    have hf := (congrFun ej ()).symm.trans hf
                    refine lv_iconst hx hb dX11_chance_133 ki_0 ?_
                    exact R134 _ _ _ _ hw (lv_sub hl [0, 1, 2, 3, 4, 5, 6, 7] rfl) hf
                  clear ej
                  refine lv_icmp_eq (tgt := 133) hx hb dX11_chance_120 (by decide) (fun c_17 => ?_) (fun c_17 => ?_)
                  · have hf := (if_pos c_17).symm.trans hf
                    exact R133 _ _ _ hw (lv_sub hl [1, 2, 3, 4, 5, 6, 7, 8] rfl) hf
                  · have hf := (if_neg c_17).symm.trans hf
                    refine lv_iload hx hb dX11_chance_123 (lv_at hl 0 rfl) ?_
                    refine lv_iload_n hx hb dX11_chance_125 rfl (lv_at hl 2 rfl) ?_
                    refine lv_icmp_lt (tgt := 133) hx hb dX11_chance_126 (by decide) (fun c_16 => ?_) (fun c_16 => ?_)
                    · have hf := (if_pos c_16).symm.trans hf
                      exact R133 _ _ _ hw (lv_sub hl [1, 2, 3, 4, 5, 6, 7, 8] rfl) hf
                    · have hf := (if_neg c_16).symm.trans hf
                      refine lv_iconst hx hb dX11_chance_129 ki_1 ?_
                      refine lv_goto (tgt := 134) hx hb dX11_chance_130 (by decide) ?_
                      exact R134 _ _ _ _ hw (lv_sub hl [1, 2, 3, 4, 5, 6, 7, 8] rfl) hf
            clear eb
            obtain ⟨z, hz, hf⟩ := bB_e hf
            obtain ⟨n, hz⟩ := bP_e hz
            exact RL70 n z hf _ _ _ _ _ hw (lv_sub hl [1, 2, 3, 4, 5, 6, 7, 0] rfl) hz
          clear ej
          exact R67 _ _ _ _ hw (lv_sub hl [1, 3, 4, 5, 6, 7, 0] rfl) hf
        · first | exact absurd c_19 hw1 | exact absurd c_19 hw2 | exact absurd c_19 hw3

def bGrid (d : Nat → ClassId) (n k : Nat) (q : Nat) (r : Nat → Nat) : va_W := (q, .inl (d 5, n, .inr (.inr (.inr (.inr (fun i => if i < n then some (r i) else none)))))) :: (List.range n).map (fun i => (r i, .inl (d 0, k, .inl (fun _ => 0))))
theorem gGrid {d : Nat → ClassId} {n k q : Nat} {b b2 : Nat → Nat} (h : ∀ j, j < n → b j = b2 j) : bGrid d n k q b = bGrid d n k q b2 := by
  unfold bGrid
  refine congr (congrArg _ ?_) ?_
  · have e : (fun i => if i < n then some (b i) else none) = (fun i => if i < n then some (b2 i) else none) := funext fun i => by by_cases hi : i < n <;> simp [hi, h]
    rw [e]
  · exact List.map_congr_left fun i hi => by rw [h i (List.mem_range.mp hi)]
def bLaw (d : Nat → ClassId) (q : Nat) (b : Nat → Nat) : va_W := [(q, .inr (3, [.int 0, .int 0, .ref (b 1), .ref (b 2), .ref (b 3), .ref (b 4), .ref (b 5), .ref (b 6)])), ((b 1), .inl (d 0, 16, .inl (fun _ => 0))), ((b 2), .inl (d 0, 16, .inl (fun _ => 0))), ((b 3), .inl (d 0, 16, .inl (fun _ => 0))), ((b 4), .inl (d 0, 16, .inl (fun _ => 0))), ((b 5), .inl (d 0, 400, .inl (fun _ => 0))), ((b 6), .inl (d 0, 32, .inl (fun _ => 0)))] ++ []
theorem gLaw {d : Nat → ClassId} {q : Nat} {b b2 : Nat → Nat} (h : ∀ j, 1 ≤ j → j < 7 → b j = b2 j) : bLaw d q b = bLaw d q b2 := by
  simp only [bLaw, h 1 (by decide) (by decide), h 2 (by decide) (by decide), h 3 (by decide) (by decide), h 4 (by decide) (by decide), h 5 (by decide) (by decide), h 6 (by decide) (by decide)]
set_option maxRecDepth 100000 in
set_option maxHeartbeats 40000000 in
theorem nX3 (l : Launch) (D : va_G) (d : Nat → ClassId) : CNw l D d yX3_init cX3_init 1 3 60 6 496 3 [.int 0, .int 0, .null, .null, .null, .null, .null, .null] (bLaw d) := by
  refine eC (own := RX3) (by decide) rfl rfl (by decide) (fun p e s m args below meth c Q ls A W0 q G hin hl hA hw hret => ?_)
  obtain ⟨hx, hb, hml, hown, hts⟩ := G.1
  refine lv_aload_n hx hb dX3_init_0 rfl (lv_at hl 0 rfl) ?_
  refine cO G hl.1 ml_X3_1 (Nat.le_of_ble_eq_true rfl) (Nat.le_of_ble_eq_true rfl) dX3_init_1 ?_
  refine lv_aload_n hx hb dX3_init_4 rfl (lv_at hl 0 rfl) ?_
  refine lv_bipush hx hb dX3_init_5 kb_16 ?_
  refine cA G hw hA (at0 := .int) (ft := .int) rfl ac_int (t := 0) rfl (fun _ _ => rfl) (n := 16) (a0 := (16, .inl (fun _ => 0))) (fun _ => rfl) (by decide) (by decide) (Nat.le_of_ble_eq_true rfl) (Nat.le_of_ble_eq_true rfl) (Nat.le_of_ble_eq_true rfl) dX3_init_7 (fun q1 H hw => ?_)
  have hw := hw.eq ap_L
  refine cF G hin (li' := [(q, .inr (3, [.int 0, .int 0, .ref q1, .null, .null, .null, .null, .null])), (q1, .inl (d 0, 16, .inl (fun _ => 0)))]) hw rfl KX3 2 (Nat.le_of_ble_eq_true rfl) rfl rfl (Nat.le_of_ble_eq_true rfl) rfl rfl fl_X3_9 dX3_init_9 (fun H locs hw => ?_)
  refine lv_aload_n hx hb dX3_init_12 rfl (lv_at hl 0 rfl) ?_
  refine lv_bipush hx hb dX3_init_13 kb_16 ?_
  refine cA G hw hA (at0 := .int) (ft := .int) rfl ac_int (t := 0) rfl (fun _ _ => rfl) (n := 16) (a0 := (16, .inl (fun _ => 0))) (fun _ => rfl) (by decide) (by decide) (Nat.le_of_ble_eq_true rfl) (Nat.le_of_ble_eq_true rfl) (Nat.le_of_ble_eq_true rfl) dX3_init_15 (fun q2 H hw => ?_)
  have hw := hw.eq ap_L
  refine cF G hin (li' := [(q, .inr (3, [.int 0, .int 0, .ref q1, .ref q2, .null, .null, .null, .null])), (q1, .inl (d 0, 16, .inl (fun _ => 0))), (q2, .inl (d 0, 16, .inl (fun _ => 0)))]) hw rfl KX3 3 (Nat.le_of_ble_eq_true rfl) rfl rfl (Nat.le_of_ble_eq_true rfl) rfl rfl fl_X3_13 dX3_init_17 (fun H locs hw => ?_)
  refine lv_aload_n hx hb dX3_init_20 rfl (lv_at hl 0 rfl) ?_
  refine lv_bipush hx hb dX3_init_21 kb_16 ?_
  refine cA G hw hA (at0 := .int) (ft := .int) rfl ac_int (t := 0) rfl (fun _ _ => rfl) (n := 16) (a0 := (16, .inl (fun _ => 0))) (fun _ => rfl) (by decide) (by decide) (Nat.le_of_ble_eq_true rfl) (Nat.le_of_ble_eq_true rfl) (Nat.le_of_ble_eq_true rfl) dX3_init_23 (fun q3 H hw => ?_)
  have hw := hw.eq ap_L
  refine cF G hin (li' := [(q, .inr (3, [.int 0, .int 0, .ref q1, .ref q2, .ref q3, .null, .null, .null])), (q1, .inl (d 0, 16, .inl (fun _ => 0))), (q2, .inl (d 0, 16, .inl (fun _ => 0))), (q3, .inl (d 0, 16, .inl (fun _ => 0)))]) hw rfl KX3 4 (Nat.le_of_ble_eq_true rfl) rfl rfl (Nat.le_of_ble_eq_true rfl) rfl rfl fl_X3_16 dX3_init_25 (fun H locs hw => ?_)
  refine lv_aload_n hx hb dX3_init_28 rfl (lv_at hl 0 rfl) ?_
  refine lv_bipush hx hb dX3_init_29 kb_16 ?_
  refine cA G hw hA (at0 := .int) (ft := .int) rfl ac_int (t := 0) rfl (fun _ _ => rfl) (n := 16) (a0 := (16, .inl (fun _ => 0))) (fun _ => rfl) (by decide) (by decide) (Nat.le_of_ble_eq_true rfl) (Nat.le_of_ble_eq_true rfl) (Nat.le_of_ble_eq_true rfl) dX3_init_31 (fun q4 H hw => ?_)
  have hw := hw.eq ap_L
  refine cF G hin (li' := [(q, .inr (3, [.int 0, .int 0, .ref q1, .ref q2, .ref q3, .ref q4, .null, .null])), (q1, .inl (d 0, 16, .inl (fun _ => 0))), (q2, .inl (d 0, 16, .inl (fun _ => 0))), (q3, .inl (d 0, 16, .inl (fun _ => 0))), (q4, .inl (d 0, 16, .inl (fun _ => 0)))]) hw rfl KX3 5 (Nat.le_of_ble_eq_true rfl) rfl rfl (Nat.le_of_ble_eq_true rfl) rfl rfl fl_X3_19 dX3_init_33 (fun H locs hw => ?_)
  refine lv_aload_n hx hb dX3_init_36 rfl (lv_at hl 0 rfl) ?_
  refine lv_sipush hx hb dX3_init_37 ks_400 ?_
  refine cA G hw hA (at0 := .int) (ft := .int) rfl ac_int (t := 0) rfl (fun _ _ => rfl) (n := 400) (a0 := (400, .inl (fun _ => 0))) (fun _ => rfl) (by decide) (by decide) (Nat.le_of_ble_eq_true rfl) (Nat.le_of_ble_eq_true rfl) (Nat.le_of_ble_eq_true rfl) dX3_init_40 (fun q5 H hw => ?_)
  have hw := hw.eq ap_L
  refine cF G hin (li' := [(q, .inr (3, [.int 0, .int 0, .ref q1, .ref q2, .ref q3, .ref q4, .ref q5, .null])), (q1, .inl (d 0, 16, .inl (fun _ => 0))), (q2, .inl (d 0, 16, .inl (fun _ => 0))), (q3, .inl (d 0, 16, .inl (fun _ => 0))), (q4, .inl (d 0, 16, .inl (fun _ => 0))), (q5, .inl (d 0, 400, .inl (fun _ => 0)))]) hw rfl KX3 6 (Nat.le_of_ble_eq_true rfl) rfl rfl (Nat.le_of_ble_eq_true rfl) rfl rfl fl_X3_24 dX3_init_42 (fun H locs hw => ?_)
  refine lv_aload_n hx hb dX3_init_45 rfl (lv_at hl 0 rfl) ?_
  refine lv_bipush hx hb dX3_init_46 kb_32 ?_
  refine cA G hw hA (at0 := .int) (ft := .int) rfl ac_int (t := 0) rfl (fun _ _ => rfl) (n := 32) (a0 := (32, .inl (fun _ => 0))) (fun _ => rfl) (by decide) (by decide) (Nat.le_of_ble_eq_true rfl) (Nat.le_of_ble_eq_true rfl) (Nat.le_of_ble_eq_true rfl) dX3_init_48 (fun q6 H hw => ?_)
  have hw := hw.eq ap_L
  refine cF G hin (li' := [(q, .inr (3, [.int 0, .int 0, .ref q1, .ref q2, .ref q3, .ref q4, .ref q5, .ref q6])), (q1, .inl (d 0, 16, .inl (fun _ => 0))), (q2, .inl (d 0, 16, .inl (fun _ => 0))), (q3, .inl (d 0, 16, .inl (fun _ => 0))), (q4, .inl (d 0, 16, .inl (fun _ => 0))), (q5, .inl (d 0, 400, .inl (fun _ => 0))), (q6, .inl (d 0, 32, .inl (fun _ => 0)))]) hw rfl KX3 7 (Nat.le_of_ble_eq_true rfl) rfl rfl (Nat.le_of_ble_eq_true rfl) rfl rfl fl_X3_27 dX3_init_50 (fun H locs hw => ?_)
  refine W.widen (k := 6) (n := 496) (Nat.le_of_ble_eq_true rfl) (Nat.le_of_ble_eq_true rfl) ?_
  obtain ⟨B, hB⟩ : ∃ B : Nat → Nat, B = fun j => if j = 1 then q1 else if j = 2 then q2 else if j = 3 then q3 else if j = 4 then q4 else if j = 5 then q5 else if j = 6 then q6 else 0 := ⟨_, rfl⟩
  have f1 : B 1 = q1 := by rw [hB]; rfl
  have f2 : B 2 = q2 := by rw [hB]; rfl
  have f3 : B 3 = q3 := by rw [hB]; rfl
  have f4 : B 4 = q4 := by rw [hB]; rfl
  have f5 : B 5 = q5 := by rw [hB]; rfl
  have f6 : B 6 = q6 := by rw [hB]; rfl
  have e0 : bLaw d q B = [(q, .inr (3, [.int 0, .int 0, .ref q1, .ref q2, .ref q3, .ref q4, .ref q5, .ref q6])), (q1, .inl (d 0, 16, .inl (fun _ => 0))), (q2, .inl (d 0, 16, .inl (fun _ => 0))), (q3, .inl (d 0, 16, .inl (fun _ => 0))), (q4, .inl (d 0, 16, .inl (fun _ => 0))), (q5, .inl (d 0, 400, .inl (fun _ => 0))), (q6, .inl (d 0, 32, .inl (fun _ => 0)))] ++ [] := by simp only [bLaw, f1, f2, f3, f4, f5, f6]
  exact hret B _ _ _ _ dX3_init_53 (hw.eq (congrArg (fun z => W0 ++ z) e0.symm))
def bThrower (d : Nat → ClassId) (q : Nat) (b : Nat → Nat) : va_W := [(q, .inr (8, [.int 0, .int 0, .int 0, .int 0, .int 0, .int 0, .ref (b 1)])), ((b 1), .inl (d 0, 60, .inl (fun _ => 0)))] ++ []
theorem gThrower {d : Nat → ClassId} {q : Nat} {b b2 : Nat → Nat} (h : ∀ j, 1 ≤ j → j < 2 → b j = b2 j) : bThrower d q b = bThrower d q b2 := by
  simp only [bThrower, h 1 (by decide) (by decide)]
set_option maxRecDepth 100000 in
set_option maxHeartbeats 40000000 in
theorem nX8 (l : Launch) (D : va_G) (d : Nat → ClassId) : CNw l D d yX8_init cX8_init 1 3 60 1 60 8 [.int 0, .int 0, .int 0, .int 0, .int 0, .int 0, .null] (bThrower d) := by
  refine eC (own := RX8) (by decide) rfl rfl (by decide) (fun p e s m args below meth c Q ls A W0 q G hin hl hA hw hret => ?_)
  obtain ⟨hx, hb, hml, hown, hts⟩ := G.1
  refine lv_aload_n hx hb dX8_init_0 rfl (lv_at hl 0 rfl) ?_
  refine cO G hl.1 ml_X8_3 (Nat.le_of_ble_eq_true rfl) (Nat.le_of_ble_eq_true rfl) dX8_init_1 ?_
  refine lv_aload_n hx hb dX8_init_4 rfl (lv_at hl 0 rfl) ?_
  refine lv_bipush hx hb dX8_init_5 kb_60 ?_
  refine cA G hw hA (at0 := .int) (ft := .int) rfl ac_int (t := 0) rfl (fun _ _ => rfl) (n := 60) (a0 := (60, .inl (fun _ => 0))) (fun _ => rfl) (by decide) (by decide) (Nat.le_of_ble_eq_true rfl) (Nat.le_of_ble_eq_true rfl) (Nat.le_of_ble_eq_true rfl) dX8_init_7 (fun q1 H hw => ?_)
  have hw := hw.eq ap_L
  refine cF G hin (li' := [(q, .inr (8, [.int 0, .int 0, .int 0, .int 0, .int 0, .int 0, .ref q1])), (q1, .inl (d 0, 60, .inl (fun _ => 0)))]) hw rfl KX8 6 (Nat.le_of_ble_eq_true rfl) rfl rfl (Nat.le_of_ble_eq_true rfl) rfl rfl fl_X8_11 dX8_init_9 (fun H locs hw => ?_)
  refine W.widen (k := 1) (n := 60) (Nat.le_of_ble_eq_true rfl) (Nat.le_of_ble_eq_true rfl) ?_
  obtain ⟨B, hB⟩ : ∃ B : Nat → Nat, B = fun j => if j = 1 then q1 else 0 := ⟨_, rfl⟩
  have f1 : B 1 = q1 := by rw [hB]; rfl
  have e0 : bThrower d q B = [(q, .inr (8, [.int 0, .int 0, .int 0, .int 0, .int 0, .int 0, .ref q1])), (q1, .inl (d 0, 60, .inl (fun _ => 0)))] ++ [] := by simp only [bThrower, f1]
  exact hret B _ _ _ _ dX8_init_12 (hw.eq (congrArg (fun z => W0 ++ z) e0.symm))
def bArms (d : Nat → ClassId) (q : Nat) (b : Nat → Nat) : va_W := [(q, .inr (0, [.ref (b 1)])), ((b 1), .inl (d 0, 8, .inl (fun _ => 0)))] ++ []
theorem gArms {d : Nat → ClassId} {q : Nat} {b b2 : Nat → Nat} (h : ∀ j, 1 ≤ j → j < 2 → b j = b2 j) : bArms d q b = bArms d q b2 := by
  simp only [bArms, h 1 (by decide) (by decide)]
set_option maxRecDepth 100000 in
set_option maxHeartbeats 40000000 in
theorem nX0 (l : Launch) (D : va_G) (d : Nat → ClassId) : CNw l D d yX0_init cX0_init 1 3 60 1 8 0 [.null] (bArms d) := by
  refine eC (own := RX0) (by decide) rfl rfl (by decide) (fun p e s m args below meth c Q ls A W0 q G hin hl hA hw hret => ?_)
  obtain ⟨hx, hb, hml, hown, hts⟩ := G.1
  refine lv_aload_n hx hb dX0_init_0 rfl (lv_at hl 0 rfl) ?_
  refine cO G hl.1 ml_X0_1 (Nat.le_of_ble_eq_true rfl) (Nat.le_of_ble_eq_true rfl) dX0_init_1 ?_
  refine lv_aload_n hx hb dX0_init_4 rfl (lv_at hl 0 rfl) ?_
  refine lv_bipush hx hb dX0_init_5 kb_8 ?_
  refine cA G hw hA (at0 := .int) (ft := .int) rfl ac_int (t := 0) rfl (fun _ _ => rfl) (n := 8) (a0 := (8, .inl (fun _ => 0))) (fun _ => rfl) (by decide) (by decide) (Nat.le_of_ble_eq_true rfl) (Nat.le_of_ble_eq_true rfl) (Nat.le_of_ble_eq_true rfl) dX0_init_7 (fun q1 H hw => ?_)
  have hw := hw.eq ap_L
  refine cF G hin (li' := [(q, .inr (0, [.ref q1])), (q1, .inl (d 0, 8, .inl (fun _ => 0)))]) hw rfl KX0 0 (Nat.le_of_ble_eq_true rfl) rfl rfl (Nat.le_of_ble_eq_true rfl) rfl rfl fl_X0_7 dX0_init_9 (fun H locs hw => ?_)
  refine W.widen (k := 1) (n := 8) (Nat.le_of_ble_eq_true rfl) (Nat.le_of_ble_eq_true rfl) ?_
  obtain ⟨B, hB⟩ : ∃ B : Nat → Nat, B = fun j => if j = 1 then q1 else 0 := ⟨_, rfl⟩
  have f1 : B 1 = q1 := by rw [hB]; rfl
  have e0 : bArms d q B = [(q, .inr (0, [.ref q1])), (q1, .inl (d 0, 8, .inl (fun _ => 0)))] ++ [] := by simp only [bArms, f1]
  exact hret B _ _ _ _ dX0_init_12 (hw.eq (congrArg (fun z => W0 ++ z) e0.symm))
def bFlight (d : Nat → ClassId) (q : Nat) (b : Nat → Nat) : va_W := [(q, .inr (2, [.ref (b 1), .int 0, .int 0, .int 0, .int 0])), ((b 1), .inl (d 0, 9, .inl (fun _ => 0)))] ++ []
theorem gFlight {d : Nat → ClassId} {q : Nat} {b b2 : Nat → Nat} (h : ∀ j, 1 ≤ j → j < 2 → b j = b2 j) : bFlight d q b = bFlight d q b2 := by
  simp only [bFlight, h 1 (by decide) (by decide)]
set_option maxRecDepth 100000 in
set_option maxHeartbeats 40000000 in
theorem nX2 (l : Launch) (D : va_G) (d : Nat → ClassId) : CNw l D d yX2_init cX2_init 1 3 60 1 9 2 [.null, .int 0, .int 0, .int 0, .int 0] (bFlight d) := by
  refine eC (own := RX2) (by decide) rfl rfl (by decide) (fun p e s m args below meth c Q ls A W0 q G hin hl hA hw hret => ?_)
  obtain ⟨hx, hb, hml, hown, hts⟩ := G.1
  refine lv_aload_n hx hb dX2_init_0 rfl (lv_at hl 0 rfl) ?_
  refine cO G hl.1 ml_X2_3 (Nat.le_of_ble_eq_true rfl) (Nat.le_of_ble_eq_true rfl) dX2_init_1 ?_
  refine lv_aload_n hx hb dX2_init_4 rfl (lv_at hl 0 rfl) ?_
  refine lv_bipush hx hb dX2_init_5 kb_9 ?_
  refine cA G hw hA (at0 := .int) (ft := .int) rfl ac_int (t := 0) rfl (fun _ _ => rfl) (n := 9) (a0 := (9, .inl (fun _ => 0))) (fun _ => rfl) (by decide) (by decide) (Nat.le_of_ble_eq_true rfl) (Nat.le_of_ble_eq_true rfl) (Nat.le_of_ble_eq_true rfl) dX2_init_7 (fun q1 H hw => ?_)
  have hw := hw.eq ap_L
  refine cF G hin (li' := [(q, .inr (2, [.ref q1, .int 0, .int 0, .int 0, .int 0])), (q1, .inl (d 0, 9, .inl (fun _ => 0)))]) hw rfl KX2 0 (Nat.le_of_ble_eq_true rfl) rfl rfl (Nat.le_of_ble_eq_true rfl) rfl rfl fl_X2_9 dX2_init_9 (fun H locs hw => ?_)
  refine W.widen (k := 1) (n := 9) (Nat.le_of_ble_eq_true rfl) (Nat.le_of_ble_eq_true rfl) ?_
  obtain ⟨B, hB⟩ : ∃ B : Nat → Nat, B = fun j => if j = 1 then q1 else 0 := ⟨_, rfl⟩
  have f1 : B 1 = q1 := by rw [hB]; rfl
  have e0 : bFlight d q B = [(q, .inr (2, [.ref q1, .int 0, .int 0, .int 0, .int 0])), (q1, .inl (d 0, 9, .inl (fun _ => 0)))] ++ [] := by simp only [bFlight, f1]
  exact hret B _ _ _ _ dX2_init_12 (hw.eq (congrArg (fun z => W0 ++ z) e0.symm))
def bTape (d : Nat → ClassId) (q : Nat) (b : Nat → Nat) : va_W := [(q, .inr (6, [.int 0, .int 0, .int 0, .int 0, .ref (b 1), .int 0, .int 0, .ref (b 2), .ref (b 3), .ref (b 4)])), ((b 1), .inl (d 1, 400, .inl (fun _ => 0))), ((b 2), .inl (d 0, 401, .inl (fun _ => 0))), ((b 3), .inl (d 0, 401, .inl (fun _ => 0))), ((b 4), .inl (d 0, 401, .inl (fun _ => 0)))] ++ []
theorem gTape {d : Nat → ClassId} {q : Nat} {b b2 : Nat → Nat} (h : ∀ j, 1 ≤ j → j < 5 → b j = b2 j) : bTape d q b = bTape d q b2 := by
  simp only [bTape, h 1 (by decide) (by decide), h 2 (by decide) (by decide), h 3 (by decide) (by decide), h 4 (by decide) (by decide)]
set_option maxRecDepth 100000 in
set_option maxHeartbeats 40000000 in
theorem nX6 (l : Launch) (D : va_G) (d : Nat → ClassId) : CNw l D d yX6_init cX6_init 1 3 60 4 1603 6 [.int 0, .int 0, .int 0, .int 0, .null, .int 0, .int 0, .null, .null, .null] (bTape d) := by
  refine eC (own := RX6) (by decide) rfl rfl (by decide) (fun p e s m args below meth c Q ls A W0 q G hin hl hA hw hret => ?_)
  obtain ⟨hx, hb, hml, hown, hts⟩ := G.1
  refine lv_aload_n hx hb dX6_init_0 rfl (lv_at hl 0 rfl) ?_
  refine cO G hl.1 ml_X6_3 (Nat.le_of_ble_eq_true rfl) (Nat.le_of_ble_eq_true rfl) dX6_init_1 ?_
  refine lv_aload_n hx hb dX6_init_4 rfl (lv_at hl 0 rfl) ?_
  refine lv_sipush hx hb dX6_init_5 ks_400 ?_
  refine cA G hw hA (at0 := .byte) (ft := .byte) rfl ac_byte (t := 1) rfl (fun _ _ => rfl) (n := 400) (a0 := (400, .inl (fun _ => 0))) (fun _ => rfl) (by decide) (by decide) (Nat.le_of_ble_eq_true rfl) (Nat.le_of_ble_eq_true rfl) (Nat.le_of_ble_eq_true rfl) dX6_init_8 (fun q1 H hw => ?_)
  have hw := hw.eq ap_L
  refine cF G hin (li' := [(q, .inr (6, [.int 0, .int 0, .int 0, .int 0, .ref q1, .int 0, .int 0, .null, .null, .null])), (q1, .inl (d 1, 400, .inl (fun _ => 0)))]) hw rfl KX6 4 (Nat.le_of_ble_eq_true rfl) rfl rfl (Nat.le_of_ble_eq_true rfl) rfl rfl fl_X6_11 dX6_init_10 (fun H locs hw => ?_)
  refine lv_aload_n hx hb dX6_init_13 rfl (lv_at hl 0 rfl) ?_
  refine lv_sipush hx hb dX6_init_14 ks_401 ?_
  refine cA G hw hA (at0 := .int) (ft := .int) rfl ac_int (t := 0) rfl (fun _ _ => rfl) (n := 401) (a0 := (401, .inl (fun _ => 0))) (fun _ => rfl) (by decide) (by decide) (Nat.le_of_ble_eq_true rfl) (Nat.le_of_ble_eq_true rfl) (Nat.le_of_ble_eq_true rfl) dX6_init_17 (fun q2 H hw => ?_)
  have hw := hw.eq ap_L
  refine cF G hin (li' := [(q, .inr (6, [.int 0, .int 0, .int 0, .int 0, .ref q1, .int 0, .int 0, .ref q2, .null, .null])), (q1, .inl (d 1, 400, .inl (fun _ => 0))), (q2, .inl (d 0, 401, .inl (fun _ => 0)))]) hw rfl KX6 7 (Nat.le_of_ble_eq_true rfl) rfl rfl (Nat.le_of_ble_eq_true rfl) rfl rfl fl_X6_15 dX6_init_19 (fun H locs hw => ?_)
  refine lv_aload_n hx hb dX6_init_22 rfl (lv_at hl 0 rfl) ?_
  refine lv_sipush hx hb dX6_init_23 ks_401 ?_
  refine cA G hw hA (at0 := .int) (ft := .int) rfl ac_int (t := 0) rfl (fun _ _ => rfl) (n := 401) (a0 := (401, .inl (fun _ => 0))) (fun _ => rfl) (by decide) (by decide) (Nat.le_of_ble_eq_true rfl) (Nat.le_of_ble_eq_true rfl) (Nat.le_of_ble_eq_true rfl) dX6_init_26 (fun q3 H hw => ?_)
  have hw := hw.eq ap_L
  refine cF G hin (li' := [(q, .inr (6, [.int 0, .int 0, .int 0, .int 0, .ref q1, .int 0, .int 0, .ref q2, .ref q3, .null])), (q1, .inl (d 1, 400, .inl (fun _ => 0))), (q2, .inl (d 0, 401, .inl (fun _ => 0))), (q3, .inl (d 0, 401, .inl (fun _ => 0)))]) hw rfl KX6 8 (Nat.le_of_ble_eq_true rfl) rfl rfl (Nat.le_of_ble_eq_true rfl) rfl rfl fl_X6_19 dX6_init_28 (fun H locs hw => ?_)
  refine lv_aload_n hx hb dX6_init_31 rfl (lv_at hl 0 rfl) ?_
  refine lv_sipush hx hb dX6_init_32 ks_401 ?_
  refine cA G hw hA (at0 := .int) (ft := .int) rfl ac_int (t := 0) rfl (fun _ _ => rfl) (n := 401) (a0 := (401, .inl (fun _ => 0))) (fun _ => rfl) (by decide) (by decide) (Nat.le_of_ble_eq_true rfl) (Nat.le_of_ble_eq_true rfl) (Nat.le_of_ble_eq_true rfl) dX6_init_35 (fun q4 H hw => ?_)
  have hw := hw.eq ap_L
  refine cF G hin (li' := [(q, .inr (6, [.int 0, .int 0, .int 0, .int 0, .ref q1, .int 0, .int 0, .ref q2, .ref q3, .ref q4])), (q1, .inl (d 1, 400, .inl (fun _ => 0))), (q2, .inl (d 0, 401, .inl (fun _ => 0))), (q3, .inl (d 0, 401, .inl (fun _ => 0))), (q4, .inl (d 0, 401, .inl (fun _ => 0)))]) hw rfl KX6 9 (Nat.le_of_ble_eq_true rfl) rfl rfl (Nat.le_of_ble_eq_true rfl) rfl rfl fl_X6_22 dX6_init_37 (fun H locs hw => ?_)
  refine W.widen (k := 4) (n := 1603) (Nat.le_of_ble_eq_true rfl) (Nat.le_of_ble_eq_true rfl) ?_
  obtain ⟨B, hB⟩ : ∃ B : Nat → Nat, B = fun j => if j = 1 then q1 else if j = 2 then q2 else if j = 3 then q3 else if j = 4 then q4 else 0 := ⟨_, rfl⟩
  have f1 : B 1 = q1 := by rw [hB]; rfl
  have f2 : B 2 = q2 := by rw [hB]; rfl
  have f3 : B 3 = q3 := by rw [hB]; rfl
  have f4 : B 4 = q4 := by rw [hB]; rfl
  have e0 : bTape d q B = [(q, .inr (6, [.int 0, .int 0, .int 0, .int 0, .ref q1, .int 0, .int 0, .ref q2, .ref q3, .ref q4])), (q1, .inl (d 1, 400, .inl (fun _ => 0))), (q2, .inl (d 0, 401, .inl (fun _ => 0))), (q3, .inl (d 0, 401, .inl (fun _ => 0))), (q4, .inl (d 0, 401, .inl (fun _ => 0)))] ++ [] := by simp only [bTape, f1, f2, f3, f4]
  exact hret B _ _ _ _ dX6_init_40 (hw.eq (congrArg (fun z => W0 ++ z) e0.symm))
def bReader (d : Nat → ClassId) (q : Nat) (b : Nat → Nat) : va_W := [(q, .inr (5, [.ref (b 1), .int 0, .int (-1), .ref (b 6), .ref (b 13), .int 0, .int 0]))] ++ ((([] ++ bTape d (b 1) (fun j => b (j + 1))) ++ bLaw d (b 6) (fun j => b (j + 6))) ++ [(b 13, .inl (d 0, 60, .inl (fun _ => 0)))])
theorem gReader {d : Nat → ClassId} {q : Nat} {b b2 : Nat → Nat} (h : ∀ j, 1 ≤ j → j < 14 → b j = b2 j) : bReader d q b = bReader d q b2 := by
  simp only [bReader, h 1 (by decide) (by decide), h 6 (by decide) (by decide), h 13 (by decide) (by decide), gTape (b := fun j => b (j + 1)) (b2 := fun j => b2 (j + 1)) (fun j h1 h2 => h _ (by omega) (by omega)), gLaw (b := fun j => b (j + 6)) (b2 := fun j => b2 (j + 6)) (fun j h1 h2 => h _ (by omega) (by omega))]
set_option maxRecDepth 100000 in
set_option maxHeartbeats 40000000 in
theorem nX5 (l : Launch) (D : va_G) (d : Nat → ClassId) : CNw l D d yX5_init cX5_init 1 4 80 13 2177 5 [.null, .int 0, .int 0, .null, .null, .int 0, .int 0] (bReader d) := by
  refine eC (own := RX5) (by decide) rfl rfl (by decide) (fun p e s m args below meth c Q ls A W0 q G hin hl hA hw hret => ?_)
  obtain ⟨hx, hb, hml, hown, hts⟩ := G.1
  refine lv_aload_n hx hb dX5_init_0 rfl (lv_at hl 0 rfl) ?_
  refine cO G hl.1 ml_X5_5 (Nat.le_of_ble_eq_true rfl) (Nat.le_of_ble_eq_true rfl) dX5_init_1 ?_
  refine lv_aload_n hx hb dX5_init_4 rfl (lv_at hl 0 rfl) ?_
  refine cN G hw hA KX6 kl_X5_1 ia_X6 in_X6 (fs := [.int 0, .int 0, .int 0, .int 0, .null, .int 0, .int 0, .null, .null, .null]) (by decide +kernel) (Nat.le_of_ble_eq_true rfl) (Nat.le_of_ble_eq_true rfl) dX5_init_5 (fun q1 H hw => ?_)
  refine lv_dup hx hb dX5_init_8 rfl ?_
  refine cK (rest := [.ref q1, .ref q]) G hw hA (nX6 l D d) ml_X5_11 im_X6_init in_X6 co_X6_init rfl ⟨nh_X6.1, nh_X6.2, pd_0⟩ ⟨Nat.le_of_ble_eq_true rfl, Nat.le_of_ble_eq_true rfl⟩ hl.1 (Nat.le_of_ble_eq_true rfl) ⟨Nat.le_of_ble_eq_true rfl, Nat.le_of_ble_eq_true rfl⟩ dX5_init_9 (fun b1 H locs hw => ?_)
  have hw := hw.eq ap_T
  refine cF G hin (li' := [(q, .inr (5, [.ref q1, .int 0, .int 0, .null, .null, .int 0, .int 0]))]) hw rfl KX5 0 (Nat.le_of_ble_eq_true rfl) rfl rfl (Nat.le_of_ble_eq_true rfl) rfl rfl fl_X5_12 dX5_init_12 (fun H locs hw => ?_)
  refine lv_aload_n hx hb dX5_init_15 rfl (lv_at hl 0 rfl) ?_
  refine lv_iconst hx hb dX5_init_16 ki_m1 ?_
  refine cP G (li' := [(q, .inr (5, [.ref q1, .int 0, .int (-1), .null, .null, .int 0, .int 0]))]) hw rfl KX5 2 (Nat.le_of_ble_eq_true rfl) rfl rfl (Nat.le_of_ble_eq_true rfl) rfl rfl fl_X5_18 dX5_init_17 (fun H locs hw => ?_)
  refine lv_aload_n hx hb dX5_init_20 rfl (lv_at hl 0 rfl) ?_
  refine cN G hw hA KX3 kl_X5_22 ia_X3 in_X3 (fs := [.int 0, .int 0, .null, .null, .null, .null, .null, .null]) (by decide +kernel) (Nat.le_of_ble_eq_true rfl) (Nat.le_of_ble_eq_true rfl) dX5_init_21 (fun q2 H hw => ?_)
  refine lv_dup hx hb dX5_init_24 rfl ?_
  refine cK (rest := [.ref q2, .ref q]) G hw hA (nX3 l D d) ml_X5_24 im_X3_init in_X3 co_X3_init rfl ⟨nh_X3.1, nh_X3.2, pd_0⟩ ⟨Nat.le_of_ble_eq_true rfl, Nat.le_of_ble_eq_true rfl⟩ hl.1 (Nat.le_of_ble_eq_true rfl) ⟨Nat.le_of_ble_eq_true rfl, Nat.le_of_ble_eq_true rfl⟩ dX5_init_25 (fun b2 H locs hw => ?_)
  have hw := hw.eq ap_T
  refine cF G hin (li' := [(q, .inr (5, [.ref q1, .int 0, .int (-1), .ref q2, .null, .int 0, .int 0]))]) hw rfl KX5 3 (Nat.le_of_ble_eq_true rfl) rfl rfl (Nat.le_of_ble_eq_true rfl) rfl rfl fl_X5_25 dX5_init_28 (fun H locs hw => ?_)
  refine lv_aload_n hx hb dX5_init_31 rfl (lv_at hl 0 rfl) ?_
  refine lv_bipush hx hb dX5_init_32 kb_60 ?_
  refine cA G hw hA (at0 := .int) (ft := .int) rfl ac_int (t := 0) rfl (fun _ _ => rfl) (n := 60) (a0 := (60, .inl (fun _ => 0))) (fun _ => rfl) (by decide) (by decide) (Nat.le_of_ble_eq_true rfl) (Nat.le_of_ble_eq_true rfl) (Nat.le_of_ble_eq_true rfl) dX5_init_34 (fun q3 H hw => ?_)
  have hw := hw.eq ap_T
  refine cF G hin (li' := [(q, .inr (5, [.ref q1, .int 0, .int (-1), .ref q2, .ref q3, .int 0, .int 0]))]) hw rfl KX5 4 (Nat.le_of_ble_eq_true rfl) rfl rfl (Nat.le_of_ble_eq_true rfl) rfl rfl fl_X5_31 dX5_init_36 (fun H locs hw => ?_)
  refine W.widen (k := 13) (n := 2177) (Nat.le_of_ble_eq_true rfl) (Nat.le_of_ble_eq_true rfl) ?_
  obtain ⟨B, hB⟩ : ∃ B : Nat → Nat, B = fun j => if j = 1 then q1 else if j < 6 then b1 (j - 1) else if j = 6 then q2 else if j < 13 then b2 (j - 6) else if j = 13 then q3 else 0 := ⟨_, rfl⟩
  have f1 : B 1 = q1 := by rw [hB]; rfl
  have f6 : B 6 = q2 := by rw [hB]; rfl
  have f13 : B 13 = q3 := by rw [hB]; rfl
  have e0 : bTape d q1 (fun j => B (j + 1)) = bTape d q1 b1 := gTape (fun j h1 h2 => (by rw [hB]; dsimp only; rw [if_neg (show ¬ j + 1 = 1 by omega), if_pos (show j + 1 < 6 by omega)]; exact congrArg b1 (Nat.add_sub_cancel _ _)))
  have e1 : bLaw d q2 (fun j => B (j + 6)) = bLaw d q2 b2 := gLaw (fun j h1 h2 => (by rw [hB]; dsimp only; rw [if_neg (show ¬ j + 6 = 1 by omega), if_neg (show ¬ j + 6 < 6 by omega), if_neg (show ¬ j + 6 = 6 by omega), if_pos (show j + 6 < 13 by omega)]; exact congrArg b2 (Nat.add_sub_cancel _ _)))
  have e0 : bReader d q B = [(q, .inr (5, [.ref q1, .int 0, .int (-1), .ref q2, .ref q3, .int 0, .int 0]))] ++ ((([] ++ bTape d q1 b1) ++ bLaw d q2 b2) ++ [(q3, .inl (d 0, 60, .inl (fun _ => 0)))]) := by simp only [bReader, f1, f6, f13, e0, e1]
  exact hret B _ _ _ _ dX5_init_39 (hw.eq (congrArg (fun z => W0 ++ z) e0.symm))
def bThought (d : Nat → ClassId) (q : Nat) (b : Nat → Nat) : va_W := [(q, .inr (7, [.ref (b 1), .int 0, .int 0, .ref (b 3)]))] ++ (([] ++ bFlight d (b 1) (fun j => b (j + 1))) ++ [(b 3, .inl (d 0, 91, .inl (fun _ => 0)))])
theorem gThought {d : Nat → ClassId} {q : Nat} {b b2 : Nat → Nat} (h : ∀ j, 1 ≤ j → j < 4 → b j = b2 j) : bThought d q b = bThought d q b2 := by
  simp only [bThought, h 1 (by decide) (by decide), h 3 (by decide) (by decide), gFlight (b := fun j => b (j + 1)) (b2 := fun j => b2 (j + 1)) (fun j h1 h2 => h _ (by omega) (by omega))]
set_option maxRecDepth 100000 in
set_option maxHeartbeats 40000000 in
theorem nX7 (l : Launch) (D : va_G) (d : Nat → ClassId) : CNw l D d yX7_init cX7_init 1 4 80 3 105 7 [.null, .int 0, .int 0, .null] (bThought d) := by
  refine eC (own := RX7) (by decide) rfl rfl (by decide) (fun p e s m args below meth c Q ls A W0 q G hin hl hA hw hret => ?_)
  obtain ⟨hx, hb, hml, hown, hts⟩ := G.1
  refine lv_aload_n hx hb dX7_init_0 rfl (lv_at hl 0 rfl) ?_
  refine cO G hl.1 ml_X7_3 (Nat.le_of_ble_eq_true rfl) (Nat.le_of_ble_eq_true rfl) dX7_init_1 ?_
  refine lv_aload_n hx hb dX7_init_4 rfl (lv_at hl 0 rfl) ?_
  refine cN G hw hA KX2 kl_X7_9 ia_X2 in_X2 (fs := [.null, .int 0, .int 0, .int 0, .int 0]) (by decide +kernel) (Nat.le_of_ble_eq_true rfl) (Nat.le_of_ble_eq_true rfl) dX7_init_5 (fun q1 H hw => ?_)
  refine lv_dup hx hb dX7_init_8 rfl ?_
  refine cK (rest := [.ref q1, .ref q]) G hw hA (nX2 l D d) ml_X7_11 im_X2_init in_X2 co_X2_init rfl ⟨nh_X2.1, nh_X2.2, pd_0⟩ ⟨Nat.le_of_ble_eq_true rfl, Nat.le_of_ble_eq_true rfl⟩ hl.1 (Nat.le_of_ble_eq_true rfl) ⟨Nat.le_of_ble_eq_true rfl, Nat.le_of_ble_eq_true rfl⟩ dX7_init_9 (fun b1 H locs hw => ?_)
  have hw := hw.eq ap_T
  refine cF G hin (li' := [(q, .inr (7, [.ref q1, .int 0, .int 0, .null]))]) hw rfl KX7 0 (Nat.le_of_ble_eq_true rfl) rfl rfl (Nat.le_of_ble_eq_true rfl) rfl rfl fl_X7_12 dX7_init_12 (fun H locs hw => ?_)
  refine lv_aload_n hx hb dX7_init_15 rfl (lv_at hl 0 rfl) ?_
  refine lv_bipush hx hb dX7_init_16 kb_91 ?_
  refine cA G hw hA (at0 := .int) (ft := .int) rfl ac_int (t := 0) rfl (fun _ _ => rfl) (n := 91) (a0 := (91, .inl (fun _ => 0))) (fun _ => rfl) (by decide) (by decide) (Nat.le_of_ble_eq_true rfl) (Nat.le_of_ble_eq_true rfl) (Nat.le_of_ble_eq_true rfl) dX7_init_18 (fun q2 H hw => ?_)
  have hw := hw.eq ap_T
  refine cF G hin (li' := [(q, .inr (7, [.ref q1, .int 0, .int 0, .ref q2]))]) hw rfl KX7 3 (Nat.le_of_ble_eq_true rfl) rfl rfl (Nat.le_of_ble_eq_true rfl) rfl rfl fl_X7_18 dX7_init_20 (fun H locs hw => ?_)
  refine W.widen (k := 3) (n := 105) (Nat.le_of_ble_eq_true rfl) (Nat.le_of_ble_eq_true rfl) ?_
  obtain ⟨B, hB⟩ : ∃ B : Nat → Nat, B = fun j => if j = 1 then q1 else if j < 3 then b1 (j - 1) else if j = 3 then q2 else 0 := ⟨_, rfl⟩
  have f1 : B 1 = q1 := by rw [hB]; rfl
  have f3 : B 3 = q2 := by rw [hB]; rfl
  have e0 : bFlight d q1 (fun j => B (j + 1)) = bFlight d q1 b1 := gFlight (fun j h1 h2 => (by rw [hB]; dsimp only; rw [if_neg (show ¬ j + 1 = 1 by omega), if_pos (show j + 1 < 3 by omega)]; exact congrArg b1 (Nat.add_sub_cancel _ _)))
  have e0 : bThought d q B = [(q, .inr (7, [.ref q1, .int 0, .int 0, .ref q2]))] ++ (([] ++ bFlight d q1 b1) ++ [(q2, .inl (d 0, 91, .inl (fun _ => 0)))]) := by simp only [bThought, f1, f3, e0]
  exact hret B _ _ _ _ dX7_init_23 (hw.eq (congrArg (fun z => W0 ++ z) e0.symm))
def bPast (d : Nat → ClassId) (q : Nat) (b : Nat → Nat) : va_W := [(q, .inr (4, [.int 0, .int 0, .ref (b 1)]))] ++ ([] ++ bGrid d 8 8 (b 1) (fun j => b (j + 2)))
theorem gPast {d : Nat → ClassId} {q : Nat} {b b2 : Nat → Nat} (h : ∀ j, 1 ≤ j → j < 10 → b j = b2 j) : bPast d q b = bPast d q b2 := by
  simp only [bPast, h 1 (by decide) (by decide), gGrid (n := 8) (b := fun j => b (j + 2)) (b2 := fun j => b2 (j + 2)) (fun j h1 => h _ (by omega) (by omega))]
set_option maxRecDepth 100000 in
set_option maxHeartbeats 40000000 in
theorem nX4 (l : Launch) (D : va_G) (d : Nat → ClassId) : CNw l D d yX4_init cX4_init 1 3 60 9 72 4 [.int 0, .int 0, .null] (bPast d) := by
  refine eC (own := RX4) (by decide) rfl rfl (by decide) (fun p e s m args below meth c Q ls A W0 q G hin hl hA hw hret => ?_)
  obtain ⟨hx, hb, hml, hown, hts⟩ := G.1
  refine lv_aload_n hx hb dX4_init_0 rfl (lv_at hl 0 rfl) ?_
  refine cO G hl.1 ml_X4_1 (Nat.le_of_ble_eq_true rfl) (Nat.le_of_ble_eq_true rfl) dX4_init_1 ?_
  refine lv_aload_n hx hb dX4_init_4 rfl (lv_at hl 0 rfl) ?_
  refine lv_bipush hx hb dX4_init_5 kb_8 ?_
  refine lv_bipush hx hb dX4_init_7 kb_8 ?_
  refine cG G hw hA kl_X4_9 (n := 8) (k := 8) (by decide) (by decide) (by decide) (by decide) (Nat.le_of_ble_eq_true rfl) (Nat.le_of_ble_eq_true rfl) (Nat.le_of_ble_eq_true rfl) (Nat.le_of_ble_eq_true rfl) (Nat.le_of_ble_eq_true rfl) dX4_init_9 (fun q1 r1 H hw => ?_)
  have hw := hw.eq ap_T
  refine cF G hin (li' := [(q, .inr (4, [.int 0, .int 0, .ref q1]))]) hw rfl KX4 2 (Nat.le_of_ble_eq_true rfl) rfl rfl (Nat.le_of_ble_eq_true rfl) rfl rfl fl_X4_11 dX4_init_13 (fun H locs hw => ?_)
  refine W.widen (k := 9) (n := 72) (Nat.le_of_ble_eq_true rfl) (Nat.le_of_ble_eq_true rfl) ?_
  obtain ⟨B, hB⟩ : ∃ B : Nat → Nat, B = fun j => if j = 1 then q1 else if j < 10 then r1 (j - 2) else 0 := ⟨_, rfl⟩
  have f1 : B 1 = q1 := by rw [hB]; rfl
  have e0 : bGrid d 8 8 q1 (fun j => B (j + 2)) = bGrid d 8 8 q1 r1 := gGrid (fun j h1 => (by rw [hB]; dsimp only; rw [if_neg (show ¬ j + 2 = 1 by omega), if_pos (show j + 2 < 10 by omega)]; exact congrArg r1 (Nat.add_sub_cancel _ _)))
  have e0 : bPast d q B = [(q, .inr (4, [.int 0, .int 0, .ref q1]))] ++ ([] ++ bGrid d 8 8 q1 r1) := by simp only [bPast, f1, e0]
  exact hret B _ _ _ _ dX4_init_16 (hw.eq (congrArg (fun z => W0 ++ z) e0.symm))
def bWorld (d : Nat → ClassId) (q : Nat) (b : Nat → Nat) : va_W := [(q, .inr (10, [.int 0, .int 0, .int 0, .int 0, .int 0, .int 0, .int 0, .int 0, .ref (b 1), .ref (b 2), .ref (b 3), .ref (b 4), .ref (b 5), .ref (b 6), .ref (b 7), .ref (b 14), .ref (b 21)])), ((b 1), .inl (d 0, 5, .inl (upd (fun _ => 0) 4 7))), ((b 2), .inl (d 0, 6, .inl (fun _ => 0))), ((b 3), .inl (d 0, 6, .inl (fun _ => 0))), ((b 4), .inl (d 4, 8, .inr (.inr (.inr (.inr (va_up (va_up (va_up (va_up (va_up (va_up (va_up (va_up (fun _ => none) 0 (some (b 28))) 1 (some (b 30))) 2 (some (b 32))) 3 (some (b 34))) 4 (some (b 36))) 5 (some (b 38))) 6 (some (b 40))) 7 (some (b 42)))))))), ((b 5), .inl (d 0, 900, .inl (fun _ => 0))), ((b 6), .inl (d 0, 60, .inl (fun _ => 0)))] ++ ((((((((((([] ++ bLaw d (b 7) (fun j => b (j + 7))) ++ bLaw d (b 14) (fun j => b (j + 14))) ++ bLaw d (b 21) (fun j => b (j + 21))) ++ bThrower d (b 28) (fun j => b (j + 28))) ++ bThrower d (b 30) (fun j => b (j + 30))) ++ bThrower d (b 32) (fun j => b (j + 32))) ++ bThrower d (b 34) (fun j => b (j + 34))) ++ bThrower d (b 36) (fun j => b (j + 36))) ++ bThrower d (b 38) (fun j => b (j + 38))) ++ bThrower d (b 40) (fun j => b (j + 40))) ++ bThrower d (b 42) (fun j => b (j + 42)))
theorem gWorld {d : Nat → ClassId} {q : Nat} {b b2 : Nat → Nat} (h : ∀ j, 1 ≤ j → j < 44 → b j = b2 j) : bWorld d q b = bWorld d q b2 := by
  simp only [bWorld, h 1 (by decide) (by decide), h 2 (by decide) (by decide), h 3 (by decide) (by decide), h 4 (by decide) (by decide), h 5 (by decide) (by decide), h 6 (by decide) (by decide), h 7 (by decide) (by decide), h 14 (by decide) (by decide), h 21 (by decide) (by decide), h 28 (by decide) (by decide), h 30 (by decide) (by decide), h 32 (by decide) (by decide), h 34 (by decide) (by decide), h 36 (by decide) (by decide), h 38 (by decide) (by decide), h 40 (by decide) (by decide), h 42 (by decide) (by decide), gLaw (b := fun j => b (j + 7)) (b2 := fun j => b2 (j + 7)) (fun j h1 h2 => h _ (by omega) (by omega)), gLaw (b := fun j => b (j + 14)) (b2 := fun j => b2 (j + 14)) (fun j h1 h2 => h _ (by omega) (by omega)), gLaw (b := fun j => b (j + 21)) (b2 := fun j => b2 (j + 21)) (fun j h1 h2 => h _ (by omega) (by omega)), gThrower (b := fun j => b (j + 28)) (b2 := fun j => b2 (j + 28)) (fun j h1 h2 => h _ (by omega) (by omega)), gThrower (b := fun j => b (j + 30)) (b2 := fun j => b2 (j + 30)) (fun j h1 h2 => h _ (by omega) (by omega)), gThrower (b := fun j => b (j + 32)) (b2 := fun j => b2 (j + 32)) (fun j h1 h2 => h _ (by omega) (by omega)), gThrower (b := fun j => b (j + 34)) (b2 := fun j => b2 (j + 34)) (fun j h1 h2 => h _ (by omega) (by omega)), gThrower (b := fun j => b (j + 36)) (b2 := fun j => b2 (j + 36)) (fun j h1 h2 => h _ (by omega) (by omega)), gThrower (b := fun j => b (j + 38)) (b2 := fun j => b2 (j + 38)) (fun j h1 h2 => h _ (by omega) (by omega)), gThrower (b := fun j => b (j + 40)) (b2 := fun j => b2 (j + 40)) (fun j h1 h2 => h _ (by omega) (by omega)), gThrower (b := fun j => b (j + 42)) (b2 := fun j => b2 (j + 42)) (fun j h1 h2 => h _ (by omega) (by omega))]
set_option maxRecDepth 100000 in
set_option maxHeartbeats 40000000 in
theorem nX10 (l : Launch) (D : va_G) (d : Nat → ClassId) : CNw l D d yX10_init cX10_init 2 4 80 43 3033 10 [.int 0, .int 0, .int 0, .int 0, .int 0, .int 0, .int 0, .int 0, .null, .null, .null, .null, .null, .null, .null, .null, .null] (bWorld d) := by
  refine eC (own := RX10) (by decide) rfl rfl (by decide) (fun p e s m args below meth c Q ls A W0 q G hin hl hA hw hret => ?_)
  obtain ⟨hx, hb, hml, hown, hts⟩ := G.1
  refine lv_aload_n hx hb dX10_init_0 rfl (lv_at hl 0 rfl) ?_
  refine cO G hl.1 ml_X10_3 (Nat.le_of_ble_eq_true rfl) (Nat.le_of_ble_eq_true rfl) dX10_init_1 ?_
  refine lv_aload_n hx hb dX10_init_4 rfl (lv_at hl 0 rfl) ?_
  refine lv_iconst hx hb dX10_init_5 ki_5 ?_
  refine cA G hw hA (at0 := .int) (ft := .int) rfl ac_int (t := 0) rfl (fun _ _ => rfl) (n := 5) (a0 := (5, .inl (fun _ => 0))) (fun _ => rfl) (by decide) (by decide) (Nat.le_of_ble_eq_true rfl) (Nat.le_of_ble_eq_true rfl) (Nat.le_of_ble_eq_true rfl) dX10_init_6 (fun q1 H hw => ?_)
  have hw := hw.eq ap_L
  refine cF G hin (li' := [(q, .inr (10, [.int 0, .int 0, .int 0, .int 0, .int 0, .int 0, .int 0, .int 0, .ref q1, .null, .null, .null, .null, .null, .null, .null, .null])), (q1, .inl (d 0, 5, .inl (fun _ => 0)))]) hw rfl KX10 8 (Nat.le_of_ble_eq_true rfl) rfl rfl (Nat.le_of_ble_eq_true rfl) rfl rfl fl_X10_9 dX10_init_8 (fun H locs hw => ?_)
  refine lv_aload_n hx hb dX10_init_11 rfl (lv_at hl 0 rfl) ?_
  refine lv_bipush hx hb dX10_init_12 kb_6 ?_
  refine cA G hw hA (at0 := .int) (ft := .int) rfl ac_int (t := 0) rfl (fun _ _ => rfl) (n := 6) (a0 := (6, .inl (fun _ => 0))) (fun _ => rfl) (by decide) (by decide) (Nat.le_of_ble_eq_true rfl) (Nat.le_of_ble_eq_true rfl) (Nat.le_of_ble_eq_true rfl) dX10_init_14 (fun q2 H hw => ?_)
  have hw := hw.eq ap_L
  refine cF G hin (li' := [(q, .inr (10, [.int 0, .int 0, .int 0, .int 0, .int 0, .int 0, .int 0, .int 0, .ref q1, .ref q2, .null, .null, .null, .null, .null, .null, .null])), (q1, .inl (d 0, 5, .inl (fun _ => 0))), (q2, .inl (d 0, 6, .inl (fun _ => 0)))]) hw rfl KX10 9 (Nat.le_of_ble_eq_true rfl) rfl rfl (Nat.le_of_ble_eq_true rfl) rfl rfl fl_X10_15 dX10_init_16 (fun H locs hw => ?_)
  refine lv_aload_n hx hb dX10_init_19 rfl (lv_at hl 0 rfl) ?_
  refine lv_bipush hx hb dX10_init_20 kb_6 ?_
  refine cA G hw hA (at0 := .int) (ft := .int) rfl ac_int (t := 0) rfl (fun _ _ => rfl) (n := 6) (a0 := (6, .inl (fun _ => 0))) (fun _ => rfl) (by decide) (by decide) (Nat.le_of_ble_eq_true rfl) (Nat.le_of_ble_eq_true rfl) (Nat.le_of_ble_eq_true rfl) dX10_init_22 (fun q3 H hw => ?_)
  have hw := hw.eq ap_L
  refine cF G hin (li' := [(q, .inr (10, [.int 0, .int 0, .int 0, .int 0, .int 0, .int 0, .int 0, .int 0, .ref q1, .ref q2, .ref q3, .null, .null, .null, .null, .null, .null])), (q1, .inl (d 0, 5, .inl (fun _ => 0))), (q2, .inl (d 0, 6, .inl (fun _ => 0))), (q3, .inl (d 0, 6, .inl (fun _ => 0)))]) hw rfl KX10 10 (Nat.le_of_ble_eq_true rfl) rfl rfl (Nat.le_of_ble_eq_true rfl) rfl rfl fl_X10_18 dX10_init_24 (fun H locs hw => ?_)
  refine lv_aload_n hx hb dX10_init_27 rfl (lv_at hl 0 rfl) ?_
  refine lv_bipush hx hb dX10_init_28 kb_8 ?_
  refine cR G hw hA kl_X10_21 (n := 8) (by decide) (by decide) (Nat.le_of_ble_eq_true rfl) (Nat.le_of_ble_eq_true rfl) (Nat.le_of_ble_eq_true rfl) dX10_init_30 (fun q4 H hw => ?_)
  have hw := hw.eq ap_L
  refine cF G hin (li' := [(q, .inr (10, [.int 0, .int 0, .int 0, .int 0, .int 0, .int 0, .int 0, .int 0, .ref q1, .ref q2, .ref q3, .ref q4, .null, .null, .null, .null, .null])), (q1, .inl (d 0, 5, .inl (fun _ => 0))), (q2, .inl (d 0, 6, .inl (fun _ => 0))), (q3, .inl (d 0, 6, .inl (fun _ => 0))), (q4, .inl (d 4, 8, .inr (.inr (.inr (.inr (fun _ => none))))))]) hw rfl KX10 11 (Nat.le_of_ble_eq_true rfl) rfl rfl (Nat.le_of_ble_eq_true rfl) rfl rfl fl_X10_23 dX10_init_33 (fun H locs hw => ?_)
  refine lv_aload_n hx hb dX10_init_36 rfl (lv_at hl 0 rfl) ?_
  refine lv_sipush hx hb dX10_init_37 ks_900 ?_
  refine cA G hw hA (at0 := .int) (ft := .int) rfl ac_int (t := 0) rfl (fun _ _ => rfl) (n := 900) (a0 := (900, .inl (fun _ => 0))) (fun _ => rfl) (by decide) (by decide) (Nat.le_of_ble_eq_true rfl) (Nat.le_of_ble_eq_true rfl) (Nat.le_of_ble_eq_true rfl) dX10_init_40 (fun q5 H hw => ?_)
  have hw := hw.eq ap_L
  refine cF G hin (li' := [(q, .inr (10, [.int 0, .int 0, .int 0, .int 0, .int 0, .int 0, .int 0, .int 0, .ref q1, .ref q2, .ref q3, .ref q4, .ref q5, .null, .null, .null, .null])), (q1, .inl (d 0, 5, .inl (fun _ => 0))), (q2, .inl (d 0, 6, .inl (fun _ => 0))), (q3, .inl (d 0, 6, .inl (fun _ => 0))), (q4, .inl (d 4, 8, .inr (.inr (.inr (.inr (fun _ => none)))))), (q5, .inl (d 0, 900, .inl (fun _ => 0)))]) hw rfl KX10 12 (Nat.le_of_ble_eq_true rfl) rfl rfl (Nat.le_of_ble_eq_true rfl) rfl rfl fl_X10_27 dX10_init_42 (fun H locs hw => ?_)
  refine lv_aload_n hx hb dX10_init_45 rfl (lv_at hl 0 rfl) ?_
  refine lv_bipush hx hb dX10_init_46 kb_60 ?_
  refine cA G hw hA (at0 := .int) (ft := .int) rfl ac_int (t := 0) rfl (fun _ _ => rfl) (n := 60) (a0 := (60, .inl (fun _ => 0))) (fun _ => rfl) (by decide) (by decide) (Nat.le_of_ble_eq_true rfl) (Nat.le_of_ble_eq_true rfl) (Nat.le_of_ble_eq_true rfl) dX10_init_48 (fun q6 H hw => ?_)
  have hw := hw.eq ap_L
  refine cF G hin (li' := [(q, .inr (10, [.int 0, .int 0, .int 0, .int 0, .int 0, .int 0, .int 0, .int 0, .ref q1, .ref q2, .ref q3, .ref q4, .ref q5, .ref q6, .null, .null, .null])), (q1, .inl (d 0, 5, .inl (fun _ => 0))), (q2, .inl (d 0, 6, .inl (fun _ => 0))), (q3, .inl (d 0, 6, .inl (fun _ => 0))), (q4, .inl (d 4, 8, .inr (.inr (.inr (.inr (fun _ => none)))))), (q5, .inl (d 0, 900, .inl (fun _ => 0))), (q6, .inl (d 0, 60, .inl (fun _ => 0)))]) hw rfl KX10 13 (Nat.le_of_ble_eq_true rfl) rfl rfl (Nat.le_of_ble_eq_true rfl) rfl rfl fl_X10_30 dX10_init_50 (fun H locs hw => ?_)
  refine lv_aload_n hx hb dX10_init_53 rfl (lv_at hl 0 rfl) ?_
  refine cN G hw hA KX3 kl_X10_33 ia_X3 in_X3 (fs := [.int 0, .int 0, .null, .null, .null, .null, .null, .null]) (by decide +kernel) (Nat.le_of_ble_eq_true rfl) (Nat.le_of_ble_eq_true rfl) dX10_init_54 (fun q7 H hw => ?_)
  refine lv_dup hx hb dX10_init_57 rfl ?_
  refine cK (rest := [.ref q7, .ref q]) G hw hA (nX3 l D d) ml_X10_35 im_X3_init in_X3 co_X3_init rfl ⟨nh_X3.1, nh_X3.2, pd_0⟩ ⟨Nat.le_of_ble_eq_true rfl, Nat.le_of_ble_eq_true rfl⟩ hl.1 (Nat.le_of_ble_eq_true rfl) ⟨Nat.le_of_ble_eq_true rfl, Nat.le_of_ble_eq_true rfl⟩ dX10_init_58 (fun b7 H locs hw => ?_)
  have hw := hw.eq ap_T
  refine cF G hin (li' := [(q, .inr (10, [.int 0, .int 0, .int 0, .int 0, .int 0, .int 0, .int 0, .int 0, .ref q1, .ref q2, .ref q3, .ref q4, .ref q5, .ref q6, .ref q7, .null, .null])), (q1, .inl (d 0, 5, .inl (fun _ => 0))), (q2, .inl (d 0, 6, .inl (fun _ => 0))), (q3, .inl (d 0, 6, .inl (fun _ => 0))), (q4, .inl (d 4, 8, .inr (.inr (.inr (.inr (fun _ => none)))))), (q5, .inl (d 0, 900, .inl (fun _ => 0))), (q6, .inl (d 0, 60, .inl (fun _ => 0)))]) hw rfl KX10 14 (Nat.le_of_ble_eq_true rfl) rfl rfl (Nat.le_of_ble_eq_true rfl) rfl rfl fl_X10_36 dX10_init_61 (fun H locs hw => ?_)
  refine lv_aload_n hx hb dX10_init_64 rfl (lv_at hl 0 rfl) ?_
  refine cN G hw hA KX3 kl_X10_33 ia_X3 in_X3 (fs := [.int 0, .int 0, .null, .null, .null, .null, .null, .null]) (by decide +kernel) (Nat.le_of_ble_eq_true rfl) (Nat.le_of_ble_eq_true rfl) dX10_init_65 (fun q8 H hw => ?_)
  refine lv_dup hx hb dX10_init_68 rfl ?_
  refine cK (rest := [.ref q8, .ref q]) G hw hA (nX3 l D d) ml_X10_35 im_X3_init in_X3 co_X3_init rfl ⟨nh_X3.1, nh_X3.2, pd_0⟩ ⟨Nat.le_of_ble_eq_true rfl, Nat.le_of_ble_eq_true rfl⟩ hl.1 (Nat.le_of_ble_eq_true rfl) ⟨Nat.le_of_ble_eq_true rfl, Nat.le_of_ble_eq_true rfl⟩ dX10_init_69 (fun b8 H locs hw => ?_)
  have hw := hw.eq ap_T
  refine cF G hin (li' := [(q, .inr (10, [.int 0, .int 0, .int 0, .int 0, .int 0, .int 0, .int 0, .int 0, .ref q1, .ref q2, .ref q3, .ref q4, .ref q5, .ref q6, .ref q7, .ref q8, .null])), (q1, .inl (d 0, 5, .inl (fun _ => 0))), (q2, .inl (d 0, 6, .inl (fun _ => 0))), (q3, .inl (d 0, 6, .inl (fun _ => 0))), (q4, .inl (d 4, 8, .inr (.inr (.inr (.inr (fun _ => none)))))), (q5, .inl (d 0, 900, .inl (fun _ => 0))), (q6, .inl (d 0, 60, .inl (fun _ => 0)))]) hw rfl KX10 15 (Nat.le_of_ble_eq_true rfl) rfl rfl (Nat.le_of_ble_eq_true rfl) rfl rfl fl_X10_40 dX10_init_72 (fun H locs hw => ?_)
  refine lv_aload_n hx hb dX10_init_75 rfl (lv_at hl 0 rfl) ?_
  refine cN G hw hA KX3 kl_X10_33 ia_X3 in_X3 (fs := [.int 0, .int 0, .null, .null, .null, .null, .null, .null]) (by decide +kernel) (Nat.le_of_ble_eq_true rfl) (Nat.le_of_ble_eq_true rfl) dX10_init_76 (fun q9 H hw => ?_)
  refine lv_dup hx hb dX10_init_79 rfl ?_
  refine cK (rest := [.ref q9, .ref q]) G hw hA (nX3 l D d) ml_X10_35 im_X3_init in_X3 co_X3_init rfl ⟨nh_X3.1, nh_X3.2, pd_0⟩ ⟨Nat.le_of_ble_eq_true rfl, Nat.le_of_ble_eq_true rfl⟩ hl.1 (Nat.le_of_ble_eq_true rfl) ⟨Nat.le_of_ble_eq_true rfl, Nat.le_of_ble_eq_true rfl⟩ dX10_init_80 (fun b9 H locs hw => ?_)
  have hw := hw.eq ap_T
  refine cF G hin (li' := [(q, .inr (10, [.int 0, .int 0, .int 0, .int 0, .int 0, .int 0, .int 0, .int 0, .ref q1, .ref q2, .ref q3, .ref q4, .ref q5, .ref q6, .ref q7, .ref q8, .ref q9])), (q1, .inl (d 0, 5, .inl (fun _ => 0))), (q2, .inl (d 0, 6, .inl (fun _ => 0))), (q3, .inl (d 0, 6, .inl (fun _ => 0))), (q4, .inl (d 4, 8, .inr (.inr (.inr (.inr (fun _ => none)))))), (q5, .inl (d 0, 900, .inl (fun _ => 0))), (q6, .inl (d 0, 60, .inl (fun _ => 0)))]) hw rfl KX10 16 (Nat.le_of_ble_eq_true rfl) rfl rfl (Nat.le_of_ble_eq_true rfl) rfl rfl fl_X10_43 dX10_init_83 (fun H locs hw => ?_)
  refine lv_aload_n hx hb dX10_init_86 rfl (lv_at hl 0 rfl) ?_
  refine cT G hw rfl KX10 8 (Nat.le_of_ble_eq_true rfl) rfl fl_X10_9 dX10_init_87 ?_
  refine lv_iconst hx hb dX10_init_90 ki_4 ?_
  refine lv_bipush hx hb dX10_init_91 kb_7 ?_
  refine cI G (li' := [(q, .inr (10, [.int 0, .int 0, .int 0, .int 0, .int 0, .int 0, .int 0, .int 0, .ref q1, .ref q2, .ref q3, .ref q4, .ref q5, .ref q6, .ref q7, .ref q8, .ref q9])), (q1, .inl (d 0, 5, .inl (upd (fun _ => 0) 4 7))), (q2, .inl (d 0, 6, .inl (fun _ => 0))), (q3, .inl (d 0, 6, .inl (fun _ => 0))), (q4, .inl (d 4, 8, .inr (.inr (.inr (.inr (fun _ => none)))))), (q5, .inl (d 0, 900, .inl (fun _ => 0))), (q6, .inl (d 0, 60, .inl (fun _ => 0)))]) hw 1 rfl (vin_e (by decide)) (k := 4) (by decide) rfl dX10_init_93 (fun H locs hw => ?_)
  refine lv_iconst hx hb dX10_init_94 ki_0 ?_
  refine lv_istore_n (lv' := [(1, .int 0), (0, .ref q)]) hx hb dX10_init_95 rfl hl (by decide) rfl (fun ls hl => ?_)
  refine lv_iload_n hx hb dX10_init_96 rfl (lv_at hl 0 rfl) ?_
  refine lv_bipush hx hb dX10_init_97 kb_8 ?_
  refine lv_icmp_ge (tgt := 121) hx hb dX10_init_99 (by decide) (fun q => absurd q (by decide)) (fun _ => ?_)
  refine lv_aload_n hx hb dX10_init_102 rfl (lv_at hl 1 rfl) ?_
  refine cT G hw rfl KX10 11 (Nat.le_of_ble_eq_true rfl) rfl fl_X10_23 dX10_init_103 ?_
  refine lv_iload_n hx hb dX10_init_106 rfl (lv_at hl 0 rfl) ?_
  refine cN G hw hA KX8 kl_X10_21 ia_X8 in_X8 (fs := [.int 0, .int 0, .int 0, .int 0, .int 0, .int 0, .null]) (by decide +kernel) (Nat.le_of_ble_eq_true rfl) (Nat.le_of_ble_eq_true rfl) dX10_init_107 (fun q10 H hw => ?_)
  refine lv_dup hx hb dX10_init_110 rfl ?_
  refine cK (rest := [.ref q10, .int 0, .ref q4]) G hw hA (nX8 l D d) ml_X10_46 im_X8_init in_X8 co_X8_init rfl ⟨nh_X8.1, nh_X8.2, pd_0⟩ ⟨Nat.le_of_ble_eq_true rfl, Nat.le_of_ble_eq_true rfl⟩ hl.1 (Nat.le_of_ble_eq_true rfl) ⟨Nat.le_of_ble_eq_true rfl, Nat.le_of_ble_eq_true rfl⟩ dX10_init_111 (fun b10 H locs hw => ?_)
  have hw := hw.eq ap_T
  refine cQ G (li' := [(q, .inr (10, [.int 0, .int 0, .int 0, .int 0, .int 0, .int 0, .int 0, .int 0, .ref q1, .ref q2, .ref q3, .ref q4, .ref q5, .ref q6, .ref q7, .ref q8, .ref q9])), (q1, .inl (d 0, 5, .inl (upd (fun _ => 0) 4 7))), (q2, .inl (d 0, 6, .inl (fun _ => 0))), (q3, .inl (d 0, 6, .inl (fun _ => 0))), (q4, .inl (d 4, 8, .inr (.inr (.inr (.inr (va_up (fun _ => none) 0 (some q10))))))), (q5, .inl (d 0, 900, .inl (fun _ => 0))), (q6, .inl (d 0, 60, .inl (fun _ => 0)))]) hw 4 rfl (vin_e (by decide)) (k := 0) (by decide) rfl dX10_init_114 (fun H locs hw => ?_)
  refine lv_iinc (v := 1) (lv' := [(1, .int 1), (0, .ref q)]) hx hb dX10_init_115 hl (k := 0) rfl (by decide) (by decide) rfl (fun ls hl => ?_)
  refine lv_goto (tgt := 96) hx hb dX10_init_118 (by decide) ?_
  refine lv_iload_n hx hb dX10_init_96 rfl (lv_at hl 0 rfl) ?_
  refine lv_bipush hx hb dX10_init_97 kb_8 ?_
  refine lv_icmp_ge (tgt := 121) hx hb dX10_init_99 (by decide) (fun q => absurd q (by decide)) (fun _ => ?_)
  refine lv_aload_n hx hb dX10_init_102 rfl (lv_at hl 1 rfl) ?_
  refine cT G hw rfl KX10 11 (Nat.le_of_ble_eq_true rfl) rfl fl_X10_23 dX10_init_103 ?_
  refine lv_iload_n hx hb dX10_init_106 rfl (lv_at hl 0 rfl) ?_
  refine cN G hw hA KX8 kl_X10_21 ia_X8 in_X8 (fs := [.int 0, .int 0, .int 0, .int 0, .int 0, .int 0, .null]) (by decide +kernel) (Nat.le_of_ble_eq_true rfl) (Nat.le_of_ble_eq_true rfl) dX10_init_107 (fun q11 H hw => ?_)
  refine lv_dup hx hb dX10_init_110 rfl ?_
  refine cK (rest := [.ref q11, .int 1, .ref q4]) G hw hA (nX8 l D d) ml_X10_46 im_X8_init in_X8 co_X8_init rfl ⟨nh_X8.1, nh_X8.2, pd_0⟩ ⟨Nat.le_of_ble_eq_true rfl, Nat.le_of_ble_eq_true rfl⟩ hl.1 (Nat.le_of_ble_eq_true rfl) ⟨Nat.le_of_ble_eq_true rfl, Nat.le_of_ble_eq_true rfl⟩ dX10_init_111 (fun b11 H locs hw => ?_)
  have hw := hw.eq ap_T
  refine cQ G (li' := [(q, .inr (10, [.int 0, .int 0, .int 0, .int 0, .int 0, .int 0, .int 0, .int 0, .ref q1, .ref q2, .ref q3, .ref q4, .ref q5, .ref q6, .ref q7, .ref q8, .ref q9])), (q1, .inl (d 0, 5, .inl (upd (fun _ => 0) 4 7))), (q2, .inl (d 0, 6, .inl (fun _ => 0))), (q3, .inl (d 0, 6, .inl (fun _ => 0))), (q4, .inl (d 4, 8, .inr (.inr (.inr (.inr (va_up (va_up (fun _ => none) 0 (some q10)) 1 (some q11))))))), (q5, .inl (d 0, 900, .inl (fun _ => 0))), (q6, .inl (d 0, 60, .inl (fun _ => 0)))]) hw 4 rfl (vin_e (by decide)) (k := 1) (by decide) rfl dX10_init_114 (fun H locs hw => ?_)
  refine lv_iinc (v := 2) (lv' := [(1, .int 2), (0, .ref q)]) hx hb dX10_init_115 hl (k := 0) rfl (by decide) (by decide) rfl (fun ls hl => ?_)
  refine lv_goto (tgt := 96) hx hb dX10_init_118 (by decide) ?_
  refine lv_iload_n hx hb dX10_init_96 rfl (lv_at hl 0 rfl) ?_
  refine lv_bipush hx hb dX10_init_97 kb_8 ?_
  refine lv_icmp_ge (tgt := 121) hx hb dX10_init_99 (by decide) (fun q => absurd q (by decide)) (fun _ => ?_)
  refine lv_aload_n hx hb dX10_init_102 rfl (lv_at hl 1 rfl) ?_
  refine cT G hw rfl KX10 11 (Nat.le_of_ble_eq_true rfl) rfl fl_X10_23 dX10_init_103 ?_
  refine lv_iload_n hx hb dX10_init_106 rfl (lv_at hl 0 rfl) ?_
  refine cN G hw hA KX8 kl_X10_21 ia_X8 in_X8 (fs := [.int 0, .int 0, .int 0, .int 0, .int 0, .int 0, .null]) (by decide +kernel) (Nat.le_of_ble_eq_true rfl) (Nat.le_of_ble_eq_true rfl) dX10_init_107 (fun q12 H hw => ?_)
  refine lv_dup hx hb dX10_init_110 rfl ?_
  refine cK (rest := [.ref q12, .int 2, .ref q4]) G hw hA (nX8 l D d) ml_X10_46 im_X8_init in_X8 co_X8_init rfl ⟨nh_X8.1, nh_X8.2, pd_0⟩ ⟨Nat.le_of_ble_eq_true rfl, Nat.le_of_ble_eq_true rfl⟩ hl.1 (Nat.le_of_ble_eq_true rfl) ⟨Nat.le_of_ble_eq_true rfl, Nat.le_of_ble_eq_true rfl⟩ dX10_init_111 (fun b12 H locs hw => ?_)
  have hw := hw.eq ap_T
  refine cQ G (li' := [(q, .inr (10, [.int 0, .int 0, .int 0, .int 0, .int 0, .int 0, .int 0, .int 0, .ref q1, .ref q2, .ref q3, .ref q4, .ref q5, .ref q6, .ref q7, .ref q8, .ref q9])), (q1, .inl (d 0, 5, .inl (upd (fun _ => 0) 4 7))), (q2, .inl (d 0, 6, .inl (fun _ => 0))), (q3, .inl (d 0, 6, .inl (fun _ => 0))), (q4, .inl (d 4, 8, .inr (.inr (.inr (.inr (va_up (va_up (va_up (fun _ => none) 0 (some q10)) 1 (some q11)) 2 (some q12))))))), (q5, .inl (d 0, 900, .inl (fun _ => 0))), (q6, .inl (d 0, 60, .inl (fun _ => 0)))]) hw 4 rfl (vin_e (by decide)) (k := 2) (by decide) rfl dX10_init_114 (fun H locs hw => ?_)
  refine lv_iinc (v := 3) (lv' := [(1, .int 3), (0, .ref q)]) hx hb dX10_init_115 hl (k := 0) rfl (by decide) (by decide) rfl (fun ls hl => ?_)
  refine lv_goto (tgt := 96) hx hb dX10_init_118 (by decide) ?_
  refine lv_iload_n hx hb dX10_init_96 rfl (lv_at hl 0 rfl) ?_
  refine lv_bipush hx hb dX10_init_97 kb_8 ?_
  refine lv_icmp_ge (tgt := 121) hx hb dX10_init_99 (by decide) (fun q => absurd q (by decide)) (fun _ => ?_)
  refine lv_aload_n hx hb dX10_init_102 rfl (lv_at hl 1 rfl) ?_
  refine cT G hw rfl KX10 11 (Nat.le_of_ble_eq_true rfl) rfl fl_X10_23 dX10_init_103 ?_
  refine lv_iload_n hx hb dX10_init_106 rfl (lv_at hl 0 rfl) ?_
  refine cN G hw hA KX8 kl_X10_21 ia_X8 in_X8 (fs := [.int 0, .int 0, .int 0, .int 0, .int 0, .int 0, .null]) (by decide +kernel) (Nat.le_of_ble_eq_true rfl) (Nat.le_of_ble_eq_true rfl) dX10_init_107 (fun q13 H hw => ?_)
  refine lv_dup hx hb dX10_init_110 rfl ?_
  refine cK (rest := [.ref q13, .int 3, .ref q4]) G hw hA (nX8 l D d) ml_X10_46 im_X8_init in_X8 co_X8_init rfl ⟨nh_X8.1, nh_X8.2, pd_0⟩ ⟨Nat.le_of_ble_eq_true rfl, Nat.le_of_ble_eq_true rfl⟩ hl.1 (Nat.le_of_ble_eq_true rfl) ⟨Nat.le_of_ble_eq_true rfl, Nat.le_of_ble_eq_true rfl⟩ dX10_init_111 (fun b13 H locs hw => ?_)
  have hw := hw.eq ap_T
  refine cQ G (li' := [(q, .inr (10, [.int 0, .int 0, .int 0, .int 0, .int 0, .int 0, .int 0, .int 0, .ref q1, .ref q2, .ref q3, .ref q4, .ref q5, .ref q6, .ref q7, .ref q8, .ref q9])), (q1, .inl (d 0, 5, .inl (upd (fun _ => 0) 4 7))), (q2, .inl (d 0, 6, .inl (fun _ => 0))), (q3, .inl (d 0, 6, .inl (fun _ => 0))), (q4, .inl (d 4, 8, .inr (.inr (.inr (.inr (va_up (va_up (va_up (va_up (fun _ => none) 0 (some q10)) 1 (some q11)) 2 (some q12)) 3 (some q13))))))), (q5, .inl (d 0, 900, .inl (fun _ => 0))), (q6, .inl (d 0, 60, .inl (fun _ => 0)))]) hw 4 rfl (vin_e (by decide)) (k := 3) (by decide) rfl dX10_init_114 (fun H locs hw => ?_)
  refine lv_iinc (v := 4) (lv' := [(1, .int 4), (0, .ref q)]) hx hb dX10_init_115 hl (k := 0) rfl (by decide) (by decide) rfl (fun ls hl => ?_)
  refine lv_goto (tgt := 96) hx hb dX10_init_118 (by decide) ?_
  refine lv_iload_n hx hb dX10_init_96 rfl (lv_at hl 0 rfl) ?_
  refine lv_bipush hx hb dX10_init_97 kb_8 ?_
  refine lv_icmp_ge (tgt := 121) hx hb dX10_init_99 (by decide) (fun q => absurd q (by decide)) (fun _ => ?_)
  refine lv_aload_n hx hb dX10_init_102 rfl (lv_at hl 1 rfl) ?_
  refine cT G hw rfl KX10 11 (Nat.le_of_ble_eq_true rfl) rfl fl_X10_23 dX10_init_103 ?_
  refine lv_iload_n hx hb dX10_init_106 rfl (lv_at hl 0 rfl) ?_
  refine cN G hw hA KX8 kl_X10_21 ia_X8 in_X8 (fs := [.int 0, .int 0, .int 0, .int 0, .int 0, .int 0, .null]) (by decide +kernel) (Nat.le_of_ble_eq_true rfl) (Nat.le_of_ble_eq_true rfl) dX10_init_107 (fun q14 H hw => ?_)
  refine lv_dup hx hb dX10_init_110 rfl ?_
  refine cK (rest := [.ref q14, .int 4, .ref q4]) G hw hA (nX8 l D d) ml_X10_46 im_X8_init in_X8 co_X8_init rfl ⟨nh_X8.1, nh_X8.2, pd_0⟩ ⟨Nat.le_of_ble_eq_true rfl, Nat.le_of_ble_eq_true rfl⟩ hl.1 (Nat.le_of_ble_eq_true rfl) ⟨Nat.le_of_ble_eq_true rfl, Nat.le_of_ble_eq_true rfl⟩ dX10_init_111 (fun b14 H locs hw => ?_)
  have hw := hw.eq ap_T
  refine cQ G (li' := [(q, .inr (10, [.int 0, .int 0, .int 0, .int 0, .int 0, .int 0, .int 0, .int 0, .ref q1, .ref q2, .ref q3, .ref q4, .ref q5, .ref q6, .ref q7, .ref q8, .ref q9])), (q1, .inl (d 0, 5, .inl (upd (fun _ => 0) 4 7))), (q2, .inl (d 0, 6, .inl (fun _ => 0))), (q3, .inl (d 0, 6, .inl (fun _ => 0))), (q4, .inl (d 4, 8, .inr (.inr (.inr (.inr (va_up (va_up (va_up (va_up (va_up (fun _ => none) 0 (some q10)) 1 (some q11)) 2 (some q12)) 3 (some q13)) 4 (some q14))))))), (q5, .inl (d 0, 900, .inl (fun _ => 0))), (q6, .inl (d 0, 60, .inl (fun _ => 0)))]) hw 4 rfl (vin_e (by decide)) (k := 4) (by decide) rfl dX10_init_114 (fun H locs hw => ?_)
  refine lv_iinc (v := 5) (lv' := [(1, .int 5), (0, .ref q)]) hx hb dX10_init_115 hl (k := 0) rfl (by decide) (by decide) rfl (fun ls hl => ?_)
  refine lv_goto (tgt := 96) hx hb dX10_init_118 (by decide) ?_
  refine lv_iload_n hx hb dX10_init_96 rfl (lv_at hl 0 rfl) ?_
  refine lv_bipush hx hb dX10_init_97 kb_8 ?_
  refine lv_icmp_ge (tgt := 121) hx hb dX10_init_99 (by decide) (fun q => absurd q (by decide)) (fun _ => ?_)
  refine lv_aload_n hx hb dX10_init_102 rfl (lv_at hl 1 rfl) ?_
  refine cT G hw rfl KX10 11 (Nat.le_of_ble_eq_true rfl) rfl fl_X10_23 dX10_init_103 ?_
  refine lv_iload_n hx hb dX10_init_106 rfl (lv_at hl 0 rfl) ?_
  refine cN G hw hA KX8 kl_X10_21 ia_X8 in_X8 (fs := [.int 0, .int 0, .int 0, .int 0, .int 0, .int 0, .null]) (by decide +kernel) (Nat.le_of_ble_eq_true rfl) (Nat.le_of_ble_eq_true rfl) dX10_init_107 (fun q15 H hw => ?_)
  refine lv_dup hx hb dX10_init_110 rfl ?_
  refine cK (rest := [.ref q15, .int 5, .ref q4]) G hw hA (nX8 l D d) ml_X10_46 im_X8_init in_X8 co_X8_init rfl ⟨nh_X8.1, nh_X8.2, pd_0⟩ ⟨Nat.le_of_ble_eq_true rfl, Nat.le_of_ble_eq_true rfl⟩ hl.1 (Nat.le_of_ble_eq_true rfl) ⟨Nat.le_of_ble_eq_true rfl, Nat.le_of_ble_eq_true rfl⟩ dX10_init_111 (fun b15 H locs hw => ?_)
  have hw := hw.eq ap_T
  refine cQ G (li' := [(q, .inr (10, [.int 0, .int 0, .int 0, .int 0, .int 0, .int 0, .int 0, .int 0, .ref q1, .ref q2, .ref q3, .ref q4, .ref q5, .ref q6, .ref q7, .ref q8, .ref q9])), (q1, .inl (d 0, 5, .inl (upd (fun _ => 0) 4 7))), (q2, .inl (d 0, 6, .inl (fun _ => 0))), (q3, .inl (d 0, 6, .inl (fun _ => 0))), (q4, .inl (d 4, 8, .inr (.inr (.inr (.inr (va_up (va_up (va_up (va_up (va_up (va_up (fun _ => none) 0 (some q10)) 1 (some q11)) 2 (some q12)) 3 (some q13)) 4 (some q14)) 5 (some q15))))))), (q5, .inl (d 0, 900, .inl (fun _ => 0))), (q6, .inl (d 0, 60, .inl (fun _ => 0)))]) hw 4 rfl (vin_e (by decide)) (k := 5) (by decide) rfl dX10_init_114 (fun H locs hw => ?_)
  refine lv_iinc (v := 6) (lv' := [(1, .int 6), (0, .ref q)]) hx hb dX10_init_115 hl (k := 0) rfl (by decide) (by decide) rfl (fun ls hl => ?_)
  refine lv_goto (tgt := 96) hx hb dX10_init_118 (by decide) ?_
  refine lv_iload_n hx hb dX10_init_96 rfl (lv_at hl 0 rfl) ?_
  refine lv_bipush hx hb dX10_init_97 kb_8 ?_
  refine lv_icmp_ge (tgt := 121) hx hb dX10_init_99 (by decide) (fun q => absurd q (by decide)) (fun _ => ?_)
  refine lv_aload_n hx hb dX10_init_102 rfl (lv_at hl 1 rfl) ?_
  refine cT G hw rfl KX10 11 (Nat.le_of_ble_eq_true rfl) rfl fl_X10_23 dX10_init_103 ?_
  refine lv_iload_n hx hb dX10_init_106 rfl (lv_at hl 0 rfl) ?_
  refine cN G hw hA KX8 kl_X10_21 ia_X8 in_X8 (fs := [.int 0, .int 0, .int 0, .int 0, .int 0, .int 0, .null]) (by decide +kernel) (Nat.le_of_ble_eq_true rfl) (Nat.le_of_ble_eq_true rfl) dX10_init_107 (fun q16 H hw => ?_)
  refine lv_dup hx hb dX10_init_110 rfl ?_
  refine cK (rest := [.ref q16, .int 6, .ref q4]) G hw hA (nX8 l D d) ml_X10_46 im_X8_init in_X8 co_X8_init rfl ⟨nh_X8.1, nh_X8.2, pd_0⟩ ⟨Nat.le_of_ble_eq_true rfl, Nat.le_of_ble_eq_true rfl⟩ hl.1 (Nat.le_of_ble_eq_true rfl) ⟨Nat.le_of_ble_eq_true rfl, Nat.le_of_ble_eq_true rfl⟩ dX10_init_111 (fun b16 H locs hw => ?_)
  have hw := hw.eq ap_T
  refine cQ G (li' := [(q, .inr (10, [.int 0, .int 0, .int 0, .int 0, .int 0, .int 0, .int 0, .int 0, .ref q1, .ref q2, .ref q3, .ref q4, .ref q5, .ref q6, .ref q7, .ref q8, .ref q9])), (q1, .inl (d 0, 5, .inl (upd (fun _ => 0) 4 7))), (q2, .inl (d 0, 6, .inl (fun _ => 0))), (q3, .inl (d 0, 6, .inl (fun _ => 0))), (q4, .inl (d 4, 8, .inr (.inr (.inr (.inr (va_up (va_up (va_up (va_up (va_up (va_up (va_up (fun _ => none) 0 (some q10)) 1 (some q11)) 2 (some q12)) 3 (some q13)) 4 (some q14)) 5 (some q15)) 6 (some q16))))))), (q5, .inl (d 0, 900, .inl (fun _ => 0))), (q6, .inl (d 0, 60, .inl (fun _ => 0)))]) hw 4 rfl (vin_e (by decide)) (k := 6) (by decide) rfl dX10_init_114 (fun H locs hw => ?_)
  refine lv_iinc (v := 7) (lv' := [(1, .int 7), (0, .ref q)]) hx hb dX10_init_115 hl (k := 0) rfl (by decide) (by decide) rfl (fun ls hl => ?_)
  refine lv_goto (tgt := 96) hx hb dX10_init_118 (by decide) ?_
  refine lv_iload_n hx hb dX10_init_96 rfl (lv_at hl 0 rfl) ?_
  refine lv_bipush hx hb dX10_init_97 kb_8 ?_
  refine lv_icmp_ge (tgt := 121) hx hb dX10_init_99 (by decide) (fun q => absurd q (by decide)) (fun _ => ?_)
  refine lv_aload_n hx hb dX10_init_102 rfl (lv_at hl 1 rfl) ?_
  refine cT G hw rfl KX10 11 (Nat.le_of_ble_eq_true rfl) rfl fl_X10_23 dX10_init_103 ?_
  refine lv_iload_n hx hb dX10_init_106 rfl (lv_at hl 0 rfl) ?_
  refine cN G hw hA KX8 kl_X10_21 ia_X8 in_X8 (fs := [.int 0, .int 0, .int 0, .int 0, .int 0, .int 0, .null]) (by decide +kernel) (Nat.le_of_ble_eq_true rfl) (Nat.le_of_ble_eq_true rfl) dX10_init_107 (fun q17 H hw => ?_)
  refine lv_dup hx hb dX10_init_110 rfl ?_
  refine cK (rest := [.ref q17, .int 7, .ref q4]) G hw hA (nX8 l D d) ml_X10_46 im_X8_init in_X8 co_X8_init rfl ⟨nh_X8.1, nh_X8.2, pd_0⟩ ⟨Nat.le_of_ble_eq_true rfl, Nat.le_of_ble_eq_true rfl⟩ hl.1 (Nat.le_of_ble_eq_true rfl) ⟨Nat.le_of_ble_eq_true rfl, Nat.le_of_ble_eq_true rfl⟩ dX10_init_111 (fun b17 H locs hw => ?_)
  have hw := hw.eq ap_T
  refine cQ G (li' := [(q, .inr (10, [.int 0, .int 0, .int 0, .int 0, .int 0, .int 0, .int 0, .int 0, .ref q1, .ref q2, .ref q3, .ref q4, .ref q5, .ref q6, .ref q7, .ref q8, .ref q9])), (q1, .inl (d 0, 5, .inl (upd (fun _ => 0) 4 7))), (q2, .inl (d 0, 6, .inl (fun _ => 0))), (q3, .inl (d 0, 6, .inl (fun _ => 0))), (q4, .inl (d 4, 8, .inr (.inr (.inr (.inr (va_up (va_up (va_up (va_up (va_up (va_up (va_up (va_up (fun _ => none) 0 (some q10)) 1 (some q11)) 2 (some q12)) 3 (some q13)) 4 (some q14)) 5 (some q15)) 6 (some q16)) 7 (some q17))))))), (q5, .inl (d 0, 900, .inl (fun _ => 0))), (q6, .inl (d 0, 60, .inl (fun _ => 0)))]) hw 4 rfl (vin_e (by decide)) (k := 7) (by decide) rfl dX10_init_114 (fun H locs hw => ?_)
  refine lv_iinc (v := 8) (lv' := [(1, .int 8), (0, .ref q)]) hx hb dX10_init_115 hl (k := 0) rfl (by decide) (by decide) rfl (fun ls hl => ?_)
  refine lv_goto (tgt := 96) hx hb dX10_init_118 (by decide) ?_
  refine lv_iload_n hx hb dX10_init_96 rfl (lv_at hl 0 rfl) ?_
  refine lv_bipush hx hb dX10_init_97 kb_8 ?_
  refine lv_icmp_ge (tgt := 121) hx hb dX10_init_99 (by decide) (fun _ => ?_) (fun q => absurd (by decide) q)
  refine W.widen (k := 43) (n := 3033) (Nat.le_of_ble_eq_true rfl) (Nat.le_of_ble_eq_true rfl) ?_
  obtain ⟨B, hB⟩ : ∃ B : Nat → Nat, B = fun j => if j = 1 then q1 else if j = 2 then q2 else if j = 3 then q3 else if j = 4 then q4 else if j = 5 then q5 else if j = 6 then q6 else if j = 7 then q7 else if j < 14 then b7 (j - 7) else if j = 14 then q8 else if j < 21 then b8 (j - 14) else if j = 21 then q9 else if j < 28 then b9 (j - 21) else if j = 28 then q10 else if j < 30 then b10 (j - 28) else if j = 30 then q11 else if j < 32 then b11 (j - 30) else if j = 32 then q12 else if j < 34 then b12 (j - 32) else if j = 34 then q13 else if j < 36 then b13 (j - 34) else if j = 36 then q14 else if j < 38 then b14 (j - 36) else if j = 38 then q15 else if j < 40 then b15 (j - 38) else if j = 40 then q16 else if j < 42 then b16 (j - 40) else if j = 42 then q17 else if j < 44 then b17 (j - 42) else 0 := ⟨_, rfl⟩
  have f1 : B 1 = q1 := by rw [hB]; rfl
  have f2 : B 2 = q2 := by rw [hB]; rfl
  have f3 : B 3 = q3 := by rw [hB]; rfl
  have f4 : B 4 = q4 := by rw [hB]; rfl
  have f5 : B 5 = q5 := by rw [hB]; rfl
  have f6 : B 6 = q6 := by rw [hB]; rfl
  have f7 : B 7 = q7 := by rw [hB]; rfl
  have f14 : B 14 = q8 := by rw [hB]; rfl
  have f21 : B 21 = q9 := by rw [hB]; rfl
  have f28 : B 28 = q10 := by rw [hB]; rfl
  have f30 : B 30 = q11 := by rw [hB]; rfl
  have f32 : B 32 = q12 := by rw [hB]; rfl
  have f34 : B 34 = q13 := by rw [hB]; rfl
  have f36 : B 36 = q14 := by rw [hB]; rfl
  have f38 : B 38 = q15 := by rw [hB]; rfl
  have f40 : B 40 = q16 := by rw [hB]; rfl
  have f42 : B 42 = q17 := by rw [hB]; rfl
  have e6 : bLaw d q7 (fun j => B (j + 7)) = bLaw d q7 b7 := gLaw (fun j h1 h2 => (by rw [hB]; dsimp only; rw [if_neg (show ¬ j + 7 = 1 by omega), if_neg (show ¬ j + 7 = 2 by omega), if_neg (show ¬ j + 7 = 3 by omega), if_neg (show ¬ j + 7 = 4 by omega), if_neg (show ¬ j + 7 = 5 by omega), if_neg (show ¬ j + 7 = 6 by omega), if_neg (show ¬ j + 7 = 7 by omega), if_pos (show j + 7 < 14 by omega)]; exact congrArg b7 (Nat.add_sub_cancel _ _)))
  have e7 : bLaw d q8 (fun j => B (j + 14)) = bLaw d q8 b8 := gLaw (fun j h1 h2 => (by rw [hB]; dsimp only; rw [if_neg (show ¬ j + 14 = 1 by omega), if_neg (show ¬ j + 14 = 2 by omega), if_neg (show ¬ j + 14 = 3 by omega), if_neg (show ¬ j + 14 = 4 by omega), if_neg (show ¬ j + 14 = 5 by omega), if_neg (show ¬ j + 14 = 6 by omega), if_neg (show ¬ j + 14 = 7 by omega), if_neg (show ¬ j + 14 < 14 by omega), if_neg (show ¬ j + 14 = 14 by omega), if_pos (show j + 14 < 21 by omega)]; exact congrArg b8 (Nat.add_sub_cancel _ _)))
  have e8 : bLaw d q9 (fun j => B (j + 21)) = bLaw d q9 b9 := gLaw (fun j h1 h2 => (by rw [hB]; dsimp only; rw [if_neg (show ¬ j + 21 = 1 by omega), if_neg (show ¬ j + 21 = 2 by omega), if_neg (show ¬ j + 21 = 3 by omega), if_neg (show ¬ j + 21 = 4 by omega), if_neg (show ¬ j + 21 = 5 by omega), if_neg (show ¬ j + 21 = 6 by omega), if_neg (show ¬ j + 21 = 7 by omega), if_neg (show ¬ j + 21 < 14 by omega), if_neg (show ¬ j + 21 = 14 by omega), if_neg (show ¬ j + 21 < 21 by omega), if_neg (show ¬ j + 21 = 21 by omega), if_pos (show j + 21 < 28 by omega)]; exact congrArg b9 (Nat.add_sub_cancel _ _)))
  have e9 : bThrower d q10 (fun j => B (j + 28)) = bThrower d q10 b10 := gThrower (fun j h1 h2 => (by rw [hB]; dsimp only; rw [if_neg (show ¬ j + 28 = 1 by omega), if_neg (show ¬ j + 28 = 2 by omega), if_neg (show ¬ j + 28 = 3 by omega), if_neg (show ¬ j + 28 = 4 by omega), if_neg (show ¬ j + 28 = 5 by omega), if_neg (show ¬ j + 28 = 6 by omega), if_neg (show ¬ j + 28 = 7 by omega), if_neg (show ¬ j + 28 < 14 by omega), if_neg (show ¬ j + 28 = 14 by omega), if_neg (show ¬ j + 28 < 21 by omega), if_neg (show ¬ j + 28 = 21 by omega), if_neg (show ¬ j + 28 < 28 by omega), if_neg (show ¬ j + 28 = 28 by omega), if_pos (show j + 28 < 30 by omega)]; exact congrArg b10 (Nat.add_sub_cancel _ _)))
  have e10 : bThrower d q11 (fun j => B (j + 30)) = bThrower d q11 b11 := gThrower (fun j h1 h2 => (by rw [hB]; dsimp only; rw [if_neg (show ¬ j + 30 = 1 by omega), if_neg (show ¬ j + 30 = 2 by omega), if_neg (show ¬ j + 30 = 3 by omega), if_neg (show ¬ j + 30 = 4 by omega), if_neg (show ¬ j + 30 = 5 by omega), if_neg (show ¬ j + 30 = 6 by omega), if_neg (show ¬ j + 30 = 7 by omega), if_neg (show ¬ j + 30 < 14 by omega), if_neg (show ¬ j + 30 = 14 by omega), if_neg (show ¬ j + 30 < 21 by omega), if_neg (show ¬ j + 30 = 21 by omega), if_neg (show ¬ j + 30 < 28 by omega), if_neg (show ¬ j + 30 = 28 by omega), if_neg (show ¬ j + 30 < 30 by omega), if_neg (show ¬ j + 30 = 30 by omega), if_pos (show j + 30 < 32 by omega)]; exact congrArg b11 (Nat.add_sub_cancel _ _)))
  have e11 : bThrower d q12 (fun j => B (j + 32)) = bThrower d q12 b12 := gThrower (fun j h1 h2 => (by rw [hB]; dsimp only; rw [if_neg (show ¬ j + 32 = 1 by omega), if_neg (show ¬ j + 32 = 2 by omega), if_neg (show ¬ j + 32 = 3 by omega), if_neg (show ¬ j + 32 = 4 by omega), if_neg (show ¬ j + 32 = 5 by omega), if_neg (show ¬ j + 32 = 6 by omega), if_neg (show ¬ j + 32 = 7 by omega), if_neg (show ¬ j + 32 < 14 by omega), if_neg (show ¬ j + 32 = 14 by omega), if_neg (show ¬ j + 32 < 21 by omega), if_neg (show ¬ j + 32 = 21 by omega), if_neg (show ¬ j + 32 < 28 by omega), if_neg (show ¬ j + 32 = 28 by omega), if_neg (show ¬ j + 32 < 30 by omega), if_neg (show ¬ j + 32 = 30 by omega), if_neg (show ¬ j + 32 < 32 by omega), if_neg (show ¬ j + 32 = 32 by omega), if_pos (show j + 32 < 34 by omega)]; exact congrArg b12 (Nat.add_sub_cancel _ _)))
  have e12 : bThrower d q13 (fun j => B (j + 34)) = bThrower d q13 b13 := gThrower (fun j h1 h2 => (by rw [hB]; dsimp only; rw [if_neg (show ¬ j + 34 = 1 by omega), if_neg (show ¬ j + 34 = 2 by omega), if_neg (show ¬ j + 34 = 3 by omega), if_neg (show ¬ j + 34 = 4 by omega), if_neg (show ¬ j + 34 = 5 by omega), if_neg (show ¬ j + 34 = 6 by omega), if_neg (show ¬ j + 34 = 7 by omega), if_neg (show ¬ j + 34 < 14 by omega), if_neg (show ¬ j + 34 = 14 by omega), if_neg (show ¬ j + 34 < 21 by omega), if_neg (show ¬ j + 34 = 21 by omega), if_neg (show ¬ j + 34 < 28 by omega), if_neg (show ¬ j + 34 = 28 by omega), if_neg (show ¬ j + 34 < 30 by omega), if_neg (show ¬ j + 34 = 30 by omega), if_neg (show ¬ j + 34 < 32 by omega), if_neg (show ¬ j + 34 = 32 by omega), if_neg (show ¬ j + 34 < 34 by omega), if_neg (show ¬ j + 34 = 34 by omega), if_pos (show j + 34 < 36 by omega)]; exact congrArg b13 (Nat.add_sub_cancel _ _)))
  have e13 : bThrower d q14 (fun j => B (j + 36)) = bThrower d q14 b14 := gThrower (fun j h1 h2 => (by rw [hB]; dsimp only; rw [if_neg (show ¬ j + 36 = 1 by omega), if_neg (show ¬ j + 36 = 2 by omega), if_neg (show ¬ j + 36 = 3 by omega), if_neg (show ¬ j + 36 = 4 by omega), if_neg (show ¬ j + 36 = 5 by omega), if_neg (show ¬ j + 36 = 6 by omega), if_neg (show ¬ j + 36 = 7 by omega), if_neg (show ¬ j + 36 < 14 by omega), if_neg (show ¬ j + 36 = 14 by omega), if_neg (show ¬ j + 36 < 21 by omega), if_neg (show ¬ j + 36 = 21 by omega), if_neg (show ¬ j + 36 < 28 by omega), if_neg (show ¬ j + 36 = 28 by omega), if_neg (show ¬ j + 36 < 30 by omega), if_neg (show ¬ j + 36 = 30 by omega), if_neg (show ¬ j + 36 < 32 by omega), if_neg (show ¬ j + 36 = 32 by omega), if_neg (show ¬ j + 36 < 34 by omega), if_neg (show ¬ j + 36 = 34 by omega), if_neg (show ¬ j + 36 < 36 by omega), if_neg (show ¬ j + 36 = 36 by omega), if_pos (show j + 36 < 38 by omega)]; exact congrArg b14 (Nat.add_sub_cancel _ _)))
  have e14 : bThrower d q15 (fun j => B (j + 38)) = bThrower d q15 b15 := gThrower (fun j h1 h2 => (by rw [hB]; dsimp only; rw [if_neg (show ¬ j + 38 = 1 by omega), if_neg (show ¬ j + 38 = 2 by omega), if_neg (show ¬ j + 38 = 3 by omega), if_neg (show ¬ j + 38 = 4 by omega), if_neg (show ¬ j + 38 = 5 by omega), if_neg (show ¬ j + 38 = 6 by omega), if_neg (show ¬ j + 38 = 7 by omega), if_neg (show ¬ j + 38 < 14 by omega), if_neg (show ¬ j + 38 = 14 by omega), if_neg (show ¬ j + 38 < 21 by omega), if_neg (show ¬ j + 38 = 21 by omega), if_neg (show ¬ j + 38 < 28 by omega), if_neg (show ¬ j + 38 = 28 by omega), if_neg (show ¬ j + 38 < 30 by omega), if_neg (show ¬ j + 38 = 30 by omega), if_neg (show ¬ j + 38 < 32 by omega), if_neg (show ¬ j + 38 = 32 by omega), if_neg (show ¬ j + 38 < 34 by omega), if_neg (show ¬ j + 38 = 34 by omega), if_neg (show ¬ j + 38 < 36 by omega), if_neg (show ¬ j + 38 = 36 by omega), if_neg (show ¬ j + 38 < 38 by omega), if_neg (show ¬ j + 38 = 38 by omega), if_pos (show j + 38 < 40 by omega)]; exact congrArg b15 (Nat.add_sub_cancel _ _)))
  have e15 : bThrower d q16 (fun j => B (j + 40)) = bThrower d q16 b16 := gThrower (fun j h1 h2 => (by rw [hB]; dsimp only; rw [if_neg (show ¬ j + 40 = 1 by omega), if_neg (show ¬ j + 40 = 2 by omega), if_neg (show ¬ j + 40 = 3 by omega), if_neg (show ¬ j + 40 = 4 by omega), if_neg (show ¬ j + 40 = 5 by omega), if_neg (show ¬ j + 40 = 6 by omega), if_neg (show ¬ j + 40 = 7 by omega), if_neg (show ¬ j + 40 < 14 by omega), if_neg (show ¬ j + 40 = 14 by omega), if_neg (show ¬ j + 40 < 21 by omega), if_neg (show ¬ j + 40 = 21 by omega), if_neg (show ¬ j + 40 < 28 by omega), if_neg (show ¬ j + 40 = 28 by omega), if_neg (show ¬ j + 40 < 30 by omega), if_neg (show ¬ j + 40 = 30 by omega), if_neg (show ¬ j + 40 < 32 by omega), if_neg (show ¬ j + 40 = 32 by omega), if_neg (show ¬ j + 40 < 34 by omega), if_neg (show ¬ j + 40 = 34 by omega), if_neg (show ¬ j + 40 < 36 by omega), if_neg (show ¬ j + 40 = 36 by omega), if_neg (show ¬ j + 40 < 38 by omega), if_neg (show ¬ j + 40 = 38 by omega), if_neg (show ¬ j + 40 < 40 by omega), if_neg (show ¬ j + 40 = 40 by omega), if_pos (show j + 40 < 42 by omega)]; exact congrArg b16 (Nat.add_sub_cancel _ _)))
  have e16 : bThrower d q17 (fun j => B (j + 42)) = bThrower d q17 b17 := gThrower (fun j h1 h2 => (by rw [hB]; dsimp only; rw [if_neg (show ¬ j + 42 = 1 by omega), if_neg (show ¬ j + 42 = 2 by omega), if_neg (show ¬ j + 42 = 3 by omega), if_neg (show ¬ j + 42 = 4 by omega), if_neg (show ¬ j + 42 = 5 by omega), if_neg (show ¬ j + 42 = 6 by omega), if_neg (show ¬ j + 42 = 7 by omega), if_neg (show ¬ j + 42 < 14 by omega), if_neg (show ¬ j + 42 = 14 by omega), if_neg (show ¬ j + 42 < 21 by omega), if_neg (show ¬ j + 42 = 21 by omega), if_neg (show ¬ j + 42 < 28 by omega), if_neg (show ¬ j + 42 = 28 by omega), if_neg (show ¬ j + 42 < 30 by omega), if_neg (show ¬ j + 42 = 30 by omega), if_neg (show ¬ j + 42 < 32 by omega), if_neg (show ¬ j + 42 = 32 by omega), if_neg (show ¬ j + 42 < 34 by omega), if_neg (show ¬ j + 42 = 34 by omega), if_neg (show ¬ j + 42 < 36 by omega), if_neg (show ¬ j + 42 = 36 by omega), if_neg (show ¬ j + 42 < 38 by omega), if_neg (show ¬ j + 42 = 38 by omega), if_neg (show ¬ j + 42 < 40 by omega), if_neg (show ¬ j + 42 = 40 by omega), if_neg (show ¬ j + 42 < 42 by omega), if_neg (show ¬ j + 42 = 42 by omega), if_pos (show j + 42 < 44 by omega)]; exact congrArg b17 (Nat.add_sub_cancel _ _)))
  have e0 : bWorld d q B = [(q, .inr (10, [.int 0, .int 0, .int 0, .int 0, .int 0, .int 0, .int 0, .int 0, .ref q1, .ref q2, .ref q3, .ref q4, .ref q5, .ref q6, .ref q7, .ref q8, .ref q9])), (q1, .inl (d 0, 5, .inl (upd (fun _ => 0) 4 7))), (q2, .inl (d 0, 6, .inl (fun _ => 0))), (q3, .inl (d 0, 6, .inl (fun _ => 0))), (q4, .inl (d 4, 8, .inr (.inr (.inr (.inr (va_up (va_up (va_up (va_up (va_up (va_up (va_up (va_up (fun _ => none) 0 (some q10)) 1 (some q11)) 2 (some q12)) 3 (some q13)) 4 (some q14)) 5 (some q15)) 6 (some q16)) 7 (some q17))))))), (q5, .inl (d 0, 900, .inl (fun _ => 0))), (q6, .inl (d 0, 60, .inl (fun _ => 0)))] ++ ((((((((((([] ++ bLaw d q7 b7) ++ bLaw d q8 b8) ++ bLaw d q9 b9) ++ bThrower d q10 b10) ++ bThrower d q11 b11) ++ bThrower d q12 b12) ++ bThrower d q13 b13) ++ bThrower d q14 b14) ++ bThrower d q15 b15) ++ bThrower d q16 b16) ++ bThrower d q17 b17) := by simp only [bWorld, f1, f2, f3, f4, f5, f6, f7, f14, f21, f28, f30, f32, f34, f36, f38, f40, f42, e6, e7, e8, e9, e10, e11, e12, e13, e14, e15, e16]
  exact hret B _ _ _ _ dX10_init_121 (hw.eq (congrArg (fun z => W0 ++ z) e0.symm))
def bChances (d : Nat → ClassId) (q : Nat) (b : Nat → Nat) : va_W := [(q, .inr (1, [.ref (b 1), .int 0, .int 0, .ref (b 2), .ref (b 4), .null, .int 0, .int 0, .int 0])), ((b 1), .inl (d 2, 10, .inl (fun _ => 0)))] ++ (([] ++ bArms d (b 2) (fun j => b (j + 2))) ++ bGrid d 7 1000 (b 4) (fun j => b (j + 5)))
theorem gChances {d : Nat → ClassId} {q : Nat} {b b2 : Nat → Nat} (h : ∀ j, 1 ≤ j → j < 12 → b j = b2 j) : bChances d q b = bChances d q b2 := by
  simp only [bChances, h 1 (by decide) (by decide), h 2 (by decide) (by decide), h 4 (by decide) (by decide), gArms (b := fun j => b (j + 2)) (b2 := fun j => b2 (j + 2)) (fun j h1 h2 => h _ (by omega) (by omega)), gGrid (n := 7) (b := fun j => b (j + 5)) (b2 := fun j => b2 (j + 5)) (fun j h1 => h _ (by omega) (by omega))]
set_option maxRecDepth 100000 in
set_option maxHeartbeats 40000000 in
theorem nX1 (l : Launch) (D : va_G) (d : Nat → ClassId) : CNw l D d yX1_init cX1_init 1 4 80 11 7026 1 [.null, .int 0, .int 0, .null, .null, .null, .int 0, .int 0, .int 0] (bChances d) := by
  refine eC (own := RX1) (by decide) rfl rfl (by decide) (fun p e s m args below meth c Q ls A W0 q G hin hl hA hw hret => ?_)
  obtain ⟨hx, hb, hml, hown, hts⟩ := G.1
  refine lv_aload_n hx hb dX1_init_0 rfl (lv_at hl 0 rfl) ?_
  refine cO G hl.1 ml_X1_3 (Nat.le_of_ble_eq_true rfl) (Nat.le_of_ble_eq_true rfl) dX1_init_1 ?_
  refine lv_aload_n hx hb dX1_init_4 rfl (lv_at hl 0 rfl) ?_
  refine lv_bipush hx hb dX1_init_5 kb_10 ?_
  refine cA G hw hA (at0 := .boolean) (ft := .boolean) rfl ac_boolean (t := 2) rfl (fun _ _ => rfl) (n := 10) (a0 := (10, .inl (fun _ => 0))) (fun _ => rfl) (by decide) (by decide) (Nat.le_of_ble_eq_true rfl) (Nat.le_of_ble_eq_true rfl) (Nat.le_of_ble_eq_true rfl) dX1_init_7 (fun q1 H hw => ?_)
  have hw := hw.eq ap_L
  refine cF G hin (li' := [(q, .inr (1, [.ref q1, .int 0, .int 0, .null, .null, .null, .int 0, .int 0, .int 0])), (q1, .inl (d 2, 10, .inl (fun _ => 0)))]) hw rfl KX1 0 (Nat.le_of_ble_eq_true rfl) rfl rfl (Nat.le_of_ble_eq_true rfl) rfl rfl fl_X1_11 dX1_init_9 (fun H locs hw => ?_)
  refine lv_aload_n hx hb dX1_init_12 rfl (lv_at hl 0 rfl) ?_
  refine cN G hw hA KX0 kl_X1_15 ia_X0 in_X0 (fs := [.null]) (by decide +kernel) (Nat.le_of_ble_eq_true rfl) (Nat.le_of_ble_eq_true rfl) dX1_init_13 (fun q2 H hw => ?_)
  refine lv_dup hx hb dX1_init_16 rfl ?_
  refine cK (rest := [.ref q2, .ref q]) G hw hA (nX0 l D d) ml_X1_17 im_X0_init in_X0 co_X0_init rfl ⟨nh_X0.1, nh_X0.2, pd_0⟩ ⟨Nat.le_of_ble_eq_true rfl, Nat.le_of_ble_eq_true rfl⟩ hl.1 (Nat.le_of_ble_eq_true rfl) ⟨Nat.le_of_ble_eq_true rfl, Nat.le_of_ble_eq_true rfl⟩ dX1_init_17 (fun b2 H locs hw => ?_)
  have hw := hw.eq ap_T
  refine cF G hin (li' := [(q, .inr (1, [.ref q1, .int 0, .int 0, .ref q2, .null, .null, .int 0, .int 0, .int 0])), (q1, .inl (d 2, 10, .inl (fun _ => 0)))]) hw rfl KX1 3 (Nat.le_of_ble_eq_true rfl) rfl rfl (Nat.le_of_ble_eq_true rfl) rfl rfl fl_X1_18 dX1_init_20 (fun H locs hw => ?_)
  refine lv_aload_n hx hb dX1_init_23 rfl (lv_at hl 0 rfl) ?_
  refine lv_bipush hx hb dX1_init_24 kb_7 ?_
  refine lv_sipush hx hb dX1_init_26 ks_1000 ?_
  refine cG G hw hA kl_X1_24 (n := 7) (k := 1000) (by decide) (by decide) (by decide) (by decide) (Nat.le_of_ble_eq_true rfl) (Nat.le_of_ble_eq_true rfl) (Nat.le_of_ble_eq_true rfl) (Nat.le_of_ble_eq_true rfl) (Nat.le_of_ble_eq_true rfl) dX1_init_29 (fun q3 r3 H hw => ?_)
  have hw := hw.eq ap_T
  refine cF G hin (li' := [(q, .inr (1, [.ref q1, .int 0, .int 0, .ref q2, .ref q3, .null, .int 0, .int 0, .int 0])), (q1, .inl (d 2, 10, .inl (fun _ => 0)))]) hw rfl KX1 4 (Nat.le_of_ble_eq_true rfl) rfl rfl (Nat.le_of_ble_eq_true rfl) rfl rfl fl_X1_26 dX1_init_33 (fun H locs hw => ?_)
  refine W.widen (k := 11) (n := 7026) (Nat.le_of_ble_eq_true rfl) (Nat.le_of_ble_eq_true rfl) ?_
  obtain ⟨B, hB⟩ : ∃ B : Nat → Nat, B = fun j => if j = 1 then q1 else if j = 2 then q2 else if j < 4 then b2 (j - 2) else if j = 4 then q3 else if j < 12 then r3 (j - 5) else 0 := ⟨_, rfl⟩
  have f1 : B 1 = q1 := by rw [hB]; rfl
  have f2 : B 2 = q2 := by rw [hB]; rfl
  have f4 : B 4 = q3 := by rw [hB]; rfl
  have e1 : bArms d q2 (fun j => B (j + 2)) = bArms d q2 b2 := gArms (fun j h1 h2 => (by rw [hB]; dsimp only; rw [if_neg (show ¬ j + 2 = 1 by omega), if_neg (show ¬ j + 2 = 2 by omega), if_pos (show j + 2 < 4 by omega)]; exact congrArg b2 (Nat.add_sub_cancel _ _)))
  have e2 : bGrid d 7 1000 q3 (fun j => B (j + 5)) = bGrid d 7 1000 q3 r3 := gGrid (fun j h1 => (by rw [hB]; dsimp only; rw [if_neg (show ¬ j + 5 = 1 by omega), if_neg (show ¬ j + 5 = 2 by omega), if_neg (show ¬ j + 5 < 4 by omega), if_neg (show ¬ j + 5 = 4 by omega), if_pos (show j + 5 < 12 by omega)]; exact congrArg r3 (Nat.add_sub_cancel _ _)))
  have e0 : bChances d q B = [(q, .inr (1, [.ref q1, .int 0, .int 0, .ref q2, .ref q3, .null, .int 0, .int 0, .int 0])), (q1, .inl (d 2, 10, .inl (fun _ => 0)))] ++ (([] ++ bArms d q2 b2) ++ bGrid d 7 1000 q3 r3) := by simp only [bChances, f1, f2, f4, e1, e2]
  exact hret B _ _ _ _ dX1_init_36 (hw.eq (congrArg (fun z => W0 ++ z) e0.symm))
def bTraining (d : Nat → ClassId) (q : Nat) (b : Nat → Nat) : va_W := [(q, .inr (9, [.int 0, .int 0, .ref (b 1), .ref (b 2), .ref (b 3)])), ((b 1), .inl (d 3, 6300, .inr (.inl (fun _ => 0)))), ((b 2), .inl (d 3, 6300, .inr (.inl (fun _ => 0)))), ((b 3), .inl (d 0, 4, .inl (fun _ => 0)))] ++ []
theorem gTraining {d : Nat → ClassId} {q : Nat} {b b2 : Nat → Nat} (h : ∀ j, 1 ≤ j → j < 4 → b j = b2 j) : bTraining d q b = bTraining d q b2 := by
  simp only [bTraining, h 1 (by decide) (by decide), h 2 (by decide) (by decide), h 3 (by decide) (by decide)]
set_option maxRecDepth 100000 in
set_option maxHeartbeats 40000000 in
theorem nX9 (l : Launch) (D : va_G) (d : Nat → ClassId) : CNw l D d yX9_init cX9_init 1 3 60 3 12604 9 [.int 0, .int 0, .null, .null, .null] (bTraining d) := by
  refine eC (own := RX9) (by decide) rfl rfl (by decide) (fun p e s m args below meth c Q ls A W0 q G hin hl hA hw hret => ?_)
  obtain ⟨hx, hb, hml, hown, hts⟩ := G.1
  refine lv_aload_n hx hb dX9_init_0 rfl (lv_at hl 0 rfl) ?_
  refine cO G hl.1 ml_X9_3 (Nat.le_of_ble_eq_true rfl) (Nat.le_of_ble_eq_true rfl) dX9_init_1 ?_
  refine lv_aload_n hx hb dX9_init_4 rfl (lv_at hl 0 rfl) ?_
  refine lv_sipush hx hb dX9_init_5 ks_6300 ?_
  refine cA G hw hA (at0 := .long) (ft := .long) rfl ac_long (t := 3) rfl (fun _ _ => rfl) (n := 6300) (a0 := (6300, .inr (.inl (fun _ => 0)))) (fun _ => rfl) (by decide) (by decide) (Nat.le_of_ble_eq_true rfl) (Nat.le_of_ble_eq_true rfl) (Nat.le_of_ble_eq_true rfl) dX9_init_8 (fun q1 H hw => ?_)
  have hw := hw.eq ap_L
  refine cP G (li' := [(q, .inr (9, [.int 0, .int 0, .ref q1, .null, .null])), (q1, .inl (d 3, 6300, .inr (.inl (fun _ => 0))))]) hw rfl KX9 2 (Nat.le_of_ble_eq_true rfl) rfl rfl (Nat.le_of_ble_eq_true rfl) rfl rfl fl_X9_11 dX9_init_10 (fun H locs hw => ?_)
  refine lv_aload_n hx hb dX9_init_13 rfl (lv_at hl 0 rfl) ?_
  refine lv_sipush hx hb dX9_init_14 ks_6300 ?_
  refine cA G hw hA (at0 := .long) (ft := .long) rfl ac_long (t := 3) rfl (fun _ _ => rfl) (n := 6300) (a0 := (6300, .inr (.inl (fun _ => 0)))) (fun _ => rfl) (by decide) (by decide) (Nat.le_of_ble_eq_true rfl) (Nat.le_of_ble_eq_true rfl) (Nat.le_of_ble_eq_true rfl) dX9_init_17 (fun q2 H hw => ?_)
  have hw := hw.eq ap_L
  refine cP G (li' := [(q, .inr (9, [.int 0, .int 0, .ref q1, .ref q2, .null])), (q1, .inl (d 3, 6300, .inr (.inl (fun _ => 0)))), (q2, .inl (d 3, 6300, .inr (.inl (fun _ => 0))))]) hw rfl KX9 3 (Nat.le_of_ble_eq_true rfl) rfl rfl (Nat.le_of_ble_eq_true rfl) rfl rfl fl_X9_15 dX9_init_19 (fun H locs hw => ?_)
  refine lv_aload_n hx hb dX9_init_22 rfl (lv_at hl 0 rfl) ?_
  refine lv_iconst hx hb dX9_init_23 ki_4 ?_
  refine cA G hw hA (at0 := .int) (ft := .int) rfl ac_int (t := 0) rfl (fun _ _ => rfl) (n := 4) (a0 := (4, .inl (fun _ => 0))) (fun _ => rfl) (by decide) (by decide) (Nat.le_of_ble_eq_true rfl) (Nat.le_of_ble_eq_true rfl) (Nat.le_of_ble_eq_true rfl) dX9_init_24 (fun q3 H hw => ?_)
  have hw := hw.eq ap_L
  refine cF G hin (li' := [(q, .inr (9, [.int 0, .int 0, .ref q1, .ref q2, .ref q3])), (q1, .inl (d 3, 6300, .inr (.inl (fun _ => 0)))), (q2, .inl (d 3, 6300, .inr (.inl (fun _ => 0)))), (q3, .inl (d 0, 4, .inl (fun _ => 0)))]) hw rfl KX9 4 (Nat.le_of_ble_eq_true rfl) rfl rfl (Nat.le_of_ble_eq_true rfl) rfl rfl fl_X9_18 dX9_init_26 (fun H locs hw => ?_)
  refine W.widen (k := 3) (n := 12604) (Nat.le_of_ble_eq_true rfl) (Nat.le_of_ble_eq_true rfl) ?_
  obtain ⟨B, hB⟩ : ∃ B : Nat → Nat, B = fun j => if j = 1 then q1 else if j = 2 then q2 else if j = 3 then q3 else 0 := ⟨_, rfl⟩
  have f1 : B 1 = q1 := by rw [hB]; rfl
  have f2 : B 2 = q2 := by rw [hB]; rfl
  have f3 : B 3 = q3 := by rw [hB]; rfl
  have e0 : bTraining d q B = [(q, .inr (9, [.int 0, .int 0, .ref q1, .ref q2, .ref q3])), (q1, .inl (d 3, 6300, .inr (.inl (fun _ => 0)))), (q2, .inl (d 3, 6300, .inr (.inl (fun _ => 0)))), (q3, .inl (d 0, 4, .inl (fun _ => 0)))] ++ [] := by simp only [bTraining, f1, f2, f3]
  exact hret B _ _ _ _ dX9_init_29 (hw.eq (congrArg (fun z => W0 ++ z) e0.symm))
def bPF (d : Nat → ClassId) (q : Nat) (b : Nat → Nat) : va_W := [(q, .inr (11, [.ref (b 1), .ref (b 45), .ref (b 59), .ref (b 63), .ref (b 65), .null, .null, .null]))] ++ ((((([] ++ bWorld d (b 1) (fun j => b (j + 1))) ++ bReader d (b 45) (fun j => b (j + 45))) ++ bThought d (b 59) (fun j => b (j + 59))) ++ bArms d (b 63) (fun j => b (j + 63))) ++ bPast d (b 65) (fun j => b (j + 65)))
theorem gPF {d : Nat → ClassId} {q : Nat} {b b2 : Nat → Nat} (h : ∀ j, 1 ≤ j → j < 75 → b j = b2 j) : bPF d q b = bPF d q b2 := by
  simp only [bPF, h 1 (by decide) (by decide), h 45 (by decide) (by decide), h 59 (by decide) (by decide), h 63 (by decide) (by decide), h 65 (by decide) (by decide), gWorld (b := fun j => b (j + 1)) (b2 := fun j => b2 (j + 1)) (fun j h1 h2 => h _ (by omega) (by omega)), gReader (b := fun j => b (j + 45)) (b2 := fun j => b2 (j + 45)) (fun j h1 h2 => h _ (by omega) (by omega)), gThought (b := fun j => b (j + 59)) (b2 := fun j => b2 (j + 59)) (fun j h1 h2 => h _ (by omega) (by omega)), gArms (b := fun j => b (j + 63)) (b2 := fun j => b2 (j + 63)) (fun j h1 h2 => h _ (by omega) (by omega)), gPast (b := fun j => b (j + 65)) (b2 := fun j => b2 (j + 65)) (fun j h1 h2 => h _ (by omega) (by omega))]
set_option maxRecDepth 100000 in
set_option maxHeartbeats 40000000 in
theorem nX11 (l : Launch) (D : va_G) (d : Nat → ClassId) : CNw l D d yX11_init cX11_init 1 5 101 74 5427 11 [.null, .null, .null, .null, .null, .null, .null, .null] (bPF d) := by
  refine eC (own := RX11) (by decide) rfl rfl (by decide) (fun p e s m args below meth c Q ls A W0 q G hin hl hA hw hret => ?_)
  obtain ⟨hx, hb, hml, hown, hts⟩ := G.1
  refine lv_aload_n hx hb dX11_init_0 rfl (lv_at hl 0 rfl) ?_
  refine cO G hl.1 ml_X11_1 (Nat.le_of_ble_eq_true rfl) (Nat.le_of_ble_eq_true rfl) dX11_init_1 ?_
  refine lv_aload_n hx hb dX11_init_4 rfl (lv_at hl 0 rfl) ?_
  refine cN G hw hA KX10 kl_X11_7 ia_X10 in_X10 (fs := [.int 0, .int 0, .int 0, .int 0, .int 0, .int 0, .int 0, .int 0, .null, .null, .null, .null, .null, .null, .null, .null, .null]) (by decide +kernel) (Nat.le_of_ble_eq_true rfl) (Nat.le_of_ble_eq_true rfl) dX11_init_5 (fun q1 H hw => ?_)
  refine lv_dup hx hb dX11_init_8 rfl ?_
  refine cK (rest := [.ref q1, .ref q]) G hw hA (nX10 l D d) ml_X11_9 im_X10_init in_X10 co_X10_init rfl ⟨nh_X10.1, nh_X10.2, pd_0⟩ ⟨Nat.le_of_ble_eq_true rfl, Nat.le_of_ble_eq_true rfl⟩ hl.1 (Nat.le_of_ble_eq_true rfl) ⟨Nat.le_of_ble_eq_true rfl, Nat.le_of_ble_eq_true rfl⟩ dX11_init_9 (fun b1 H locs hw => ?_)
  have hw := hw.eq ap_T
  refine cF G hin (li' := [(q, .inr (11, [.ref q1, .null, .null, .null, .null, .null, .null, .null]))]) hw rfl KX11 0 (Nat.le_of_ble_eq_true rfl) rfl rfl (Nat.le_of_ble_eq_true rfl) rfl rfl fl_X11_10 dX11_init_12 (fun H locs hw => ?_)
  refine lv_aload_n hx hb dX11_init_15 rfl (lv_at hl 0 rfl) ?_
  refine cN G hw hA KX5 kl_X11_16 ia_X5 in_X5 (fs := [.null, .int 0, .int 0, .null, .null, .int 0, .int 0]) (by decide +kernel) (Nat.le_of_ble_eq_true rfl) (Nat.le_of_ble_eq_true rfl) dX11_init_16 (fun q2 H hw => ?_)
  refine lv_dup hx hb dX11_init_19 rfl ?_
  refine cK (rest := [.ref q2, .ref q]) G hw hA (nX5 l D d) ml_X11_18 im_X5_init in_X5 co_X5_init rfl ⟨nh_X5.1, nh_X5.2, pd_0⟩ ⟨Nat.le_of_ble_eq_true rfl, Nat.le_of_ble_eq_true rfl⟩ hl.1 (Nat.le_of_ble_eq_true rfl) ⟨Nat.le_of_ble_eq_true rfl, Nat.le_of_ble_eq_true rfl⟩ dX11_init_20 (fun b2 H locs hw => ?_)
  have hw := hw.eq ap_T
  refine cF G hin (li' := [(q, .inr (11, [.ref q1, .ref q2, .null, .null, .null, .null, .null, .null]))]) hw rfl KX11 1 (Nat.le_of_ble_eq_true rfl) rfl rfl (Nat.le_of_ble_eq_true rfl) rfl rfl fl_X11_19 dX11_init_23 (fun H locs hw => ?_)
  refine lv_aload_n hx hb dX11_init_26 rfl (lv_at hl 0 rfl) ?_
  refine cN G hw hA KX7 kl_X11_23 ia_X7 in_X7 (fs := [.null, .int 0, .int 0, .null]) (by decide +kernel) (Nat.le_of_ble_eq_true rfl) (Nat.le_of_ble_eq_true rfl) dX11_init_27 (fun q3 H hw => ?_)
  refine lv_dup hx hb dX11_init_30 rfl ?_
  refine cK (rest := [.ref q3, .ref q]) G hw hA (nX7 l D d) ml_X11_25 im_X7_init in_X7 co_X7_init rfl ⟨nh_X7.1, nh_X7.2, pd_0⟩ ⟨Nat.le_of_ble_eq_true rfl, Nat.le_of_ble_eq_true rfl⟩ hl.1 (Nat.le_of_ble_eq_true rfl) ⟨Nat.le_of_ble_eq_true rfl, Nat.le_of_ble_eq_true rfl⟩ dX11_init_31 (fun b3 H locs hw => ?_)
  have hw := hw.eq ap_T
  refine cF G hin (li' := [(q, .inr (11, [.ref q1, .ref q2, .ref q3, .null, .null, .null, .null, .null]))]) hw rfl KX11 2 (Nat.le_of_ble_eq_true rfl) rfl rfl (Nat.le_of_ble_eq_true rfl) rfl rfl fl_X11_26 dX11_init_34 (fun H locs hw => ?_)
  refine lv_aload_n hx hb dX11_init_37 rfl (lv_at hl 0 rfl) ?_
  refine cN G hw hA KX0 kl_X11_30 ia_X0 in_X0 (fs := [.null]) (by decide +kernel) (Nat.le_of_ble_eq_true rfl) (Nat.le_of_ble_eq_true rfl) dX11_init_38 (fun q4 H hw => ?_)
  refine lv_dup hx hb dX11_init_41 rfl ?_
  refine cK (rest := [.ref q4, .ref q]) G hw hA (nX0 l D d) ml_X11_32 im_X0_init in_X0 co_X0_init rfl ⟨nh_X0.1, nh_X0.2, pd_0⟩ ⟨Nat.le_of_ble_eq_true rfl, Nat.le_of_ble_eq_true rfl⟩ hl.1 (Nat.le_of_ble_eq_true rfl) ⟨Nat.le_of_ble_eq_true rfl, Nat.le_of_ble_eq_true rfl⟩ dX11_init_42 (fun b4 H locs hw => ?_)
  have hw := hw.eq ap_T
  refine cF G hin (li' := [(q, .inr (11, [.ref q1, .ref q2, .ref q3, .ref q4, .null, .null, .null, .null]))]) hw rfl KX11 3 (Nat.le_of_ble_eq_true rfl) rfl rfl (Nat.le_of_ble_eq_true rfl) rfl rfl fl_X11_33 dX11_init_45 (fun H locs hw => ?_)
  refine lv_aload_n hx hb dX11_init_48 rfl (lv_at hl 0 rfl) ?_
  refine cN G hw hA KX4 kl_X11_37 ia_X4 in_X4 (fs := [.int 0, .int 0, .null]) (by decide +kernel) (Nat.le_of_ble_eq_true rfl) (Nat.le_of_ble_eq_true rfl) dX11_init_49 (fun q5 H hw => ?_)
  refine lv_dup hx hb dX11_init_52 rfl ?_
  refine cK (rest := [.ref q5, .ref q]) G hw hA (nX4 l D d) ml_X11_39 im_X4_init in_X4 co_X4_init rfl ⟨nh_X4.1, nh_X4.2, pd_0⟩ ⟨Nat.le_of_ble_eq_true rfl, Nat.le_of_ble_eq_true rfl⟩ hl.1 (Nat.le_of_ble_eq_true rfl) ⟨Nat.le_of_ble_eq_true rfl, Nat.le_of_ble_eq_true rfl⟩ dX11_init_53 (fun b5 H locs hw => ?_)
  have hw := hw.eq ap_T
  refine cF G hin (li' := [(q, .inr (11, [.ref q1, .ref q2, .ref q3, .ref q4, .ref q5, .null, .null, .null]))]) hw rfl KX11 4 (Nat.le_of_ble_eq_true rfl) rfl rfl (Nat.le_of_ble_eq_true rfl) rfl rfl fl_X11_40 dX11_init_56 (fun H locs hw => ?_)
  refine W.widen (k := 74) (n := 5427) (Nat.le_of_ble_eq_true rfl) (Nat.le_of_ble_eq_true rfl) ?_
  obtain ⟨B, hB⟩ : ∃ B : Nat → Nat, B = fun j => if j = 1 then q1 else if j < 45 then b1 (j - 1) else if j = 45 then q2 else if j < 59 then b2 (j - 45) else if j = 59 then q3 else if j < 63 then b3 (j - 59) else if j = 63 then q4 else if j < 65 then b4 (j - 63) else if j = 65 then q5 else if j < 75 then b5 (j - 65) else 0 := ⟨_, rfl⟩
  have f1 : B 1 = q1 := by rw [hB]; rfl
  have f45 : B 45 = q2 := by rw [hB]; rfl
  have f59 : B 59 = q3 := by rw [hB]; rfl
  have f63 : B 63 = q4 := by rw [hB]; rfl
  have f65 : B 65 = q5 := by rw [hB]; rfl
  have e0 : bWorld d q1 (fun j => B (j + 1)) = bWorld d q1 b1 := gWorld (fun j h1 h2 => (by rw [hB]; dsimp only; rw [if_neg (show ¬ j + 1 = 1 by omega), if_pos (show j + 1 < 45 by omega)]; exact congrArg b1 (Nat.add_sub_cancel _ _)))
  have e1 : bReader d q2 (fun j => B (j + 45)) = bReader d q2 b2 := gReader (fun j h1 h2 => (by rw [hB]; dsimp only; rw [if_neg (show ¬ j + 45 = 1 by omega), if_neg (show ¬ j + 45 < 45 by omega), if_neg (show ¬ j + 45 = 45 by omega), if_pos (show j + 45 < 59 by omega)]; exact congrArg b2 (Nat.add_sub_cancel _ _)))
  have e2 : bThought d q3 (fun j => B (j + 59)) = bThought d q3 b3 := gThought (fun j h1 h2 => (by rw [hB]; dsimp only; rw [if_neg (show ¬ j + 59 = 1 by omega), if_neg (show ¬ j + 59 < 45 by omega), if_neg (show ¬ j + 59 = 45 by omega), if_neg (show ¬ j + 59 < 59 by omega), if_neg (show ¬ j + 59 = 59 by omega), if_pos (show j + 59 < 63 by omega)]; exact congrArg b3 (Nat.add_sub_cancel _ _)))
  have e3 : bArms d q4 (fun j => B (j + 63)) = bArms d q4 b4 := gArms (fun j h1 h2 => (by rw [hB]; dsimp only; rw [if_neg (show ¬ j + 63 = 1 by omega), if_neg (show ¬ j + 63 < 45 by omega), if_neg (show ¬ j + 63 = 45 by omega), if_neg (show ¬ j + 63 < 59 by omega), if_neg (show ¬ j + 63 = 59 by omega), if_neg (show ¬ j + 63 < 63 by omega), if_neg (show ¬ j + 63 = 63 by omega), if_pos (show j + 63 < 65 by omega)]; exact congrArg b4 (Nat.add_sub_cancel _ _)))
  have e4 : bPast d q5 (fun j => B (j + 65)) = bPast d q5 b5 := gPast (fun j h1 h2 => (by rw [hB]; dsimp only; rw [if_neg (show ¬ j + 65 = 1 by omega), if_neg (show ¬ j + 65 < 45 by omega), if_neg (show ¬ j + 65 = 45 by omega), if_neg (show ¬ j + 65 < 59 by omega), if_neg (show ¬ j + 65 = 59 by omega), if_neg (show ¬ j + 65 < 63 by omega), if_neg (show ¬ j + 65 = 63 by omega), if_neg (show ¬ j + 65 < 65 by omega), if_neg (show ¬ j + 65 = 65 by omega), if_pos (show j + 65 < 75 by omega)]; exact congrArg b5 (Nat.add_sub_cancel _ _)))
  have e0 : bPF d q B = [(q, .inr (11, [.ref q1, .ref q2, .ref q3, .ref q4, .ref q5, .null, .null, .null]))] ++ ((((([] ++ bWorld d q1 b1) ++ bReader d q2 b2) ++ bThought d q3 b3) ++ bArms d q4 b4) ++ bPast d q5 b5) := by simp only [bPF, f1, f45, f59, f63, f65, e0, e1, e2, e3, e4]
  exact hret B _ _ _ _ dX11_init_59 (hw.eq (congrArg (fun z => W0 ++ z) e0.symm))
def bModel (d : Nat → ClassId) (q : Nat) (b : Nat → Nat) : va_W := [(q, .inr (12, [.ref (b 1), .ref (b 2), .ref (b 3), .int 0, .int 0, .ref (b 4), .ref (b 5), .ref (b 6), .ref (b 7), .ref (b 8), .ref (b 9), .ref (b 10), .int 0, .int 0, .int 0, .int 0, .int 0, .int 0, .int 0, .int 0, .int 0, .int 0, .int 0, .int 0, .int 0, .int (-1), .int 0, .int 0, .int 0, .int 0, .int 0, .int 0, .int 0, .int 0, .int 0, .int 0, .int 0, .int 0, .int 0, .int 0, .ref (b 11), .ref (b 12), .ref (b 13), .ref (b 14), .ref (b 15), .ref (b 16)])), ((b 1), .inl (d 0, 4296, .inl (upd (fun _ => 0) 64 7))), ((b 2), .inl (d 0, 4296, .inl (fun _ => 0))), ((b 3), .inl (d 0, 480, .inl (fun _ => 0))), ((b 4), .inl (d 0, 64, .inl (fun _ => 0))), ((b 5), .inl (d 0, 820, .inl (fun _ => 0))), ((b 6), .inl (d 0, 60, .inl (fun _ => 0))), ((b 7), .inl (d 0, 400, .inl (fun _ => 0))), ((b 8), .inl (d 0, 420, .inl (fun _ => 0))), ((b 9), .inl (d 0, 20, .inl (fun _ => 0))), ((b 10), .inl (d 0, 60, .inl (fun _ => 0))), ((b 11), .inl (d 0, 100100, .inl (fun _ => 0))), ((b 12), .inl (d 0, 100100, .inl (fun _ => 0))), ((b 13), .inl (d 2, 100100, .inl (fun _ => 0))), ((b 14), .inl (d 0, 7007, .inl (fun _ => 0))), ((b 15), .inl (d 0, 7007, .inl (fun _ => 0))), ((b 16), .inl (d 0, 10, .inl (fun _ => 0)))] ++ []
theorem gModel {d : Nat → ClassId} {q : Nat} {b b2 : Nat → Nat} (h : ∀ j, 1 ≤ j → j < 17 → b j = b2 j) : bModel d q b = bModel d q b2 := by
  simp only [bModel, h 1 (by decide) (by decide), h 2 (by decide) (by decide), h 3 (by decide) (by decide), h 4 (by decide) (by decide), h 5 (by decide) (by decide), h 6 (by decide) (by decide), h 7 (by decide) (by decide), h 8 (by decide) (by decide), h 9 (by decide) (by decide), h 10 (by decide) (by decide), h 11 (by decide) (by decide), h 12 (by decide) (by decide), h 13 (by decide) (by decide), h 14 (by decide) (by decide), h 15 (by decide) (by decide), h 16 (by decide) (by decide)]
set_option maxRecDepth 100000 in
set_option maxHeartbeats 40000000 in
theorem nX12 (l : Launch) (D : va_G) (d : Nat → ClassId) : CNw l D d yX12_init cX12_init 1 3 60 16 325240 12 [.null, .null, .null, .int 0, .int 0, .null, .null, .null, .null, .null, .null, .null, .int 0, .int 0, .int 0, .int 0, .int 0, .int 0, .int 0, .int 0, .int 0, .int 0, .int 0, .int 0, .int 0, .int 0, .int 0, .int 0, .int 0, .int 0, .int 0, .int 0, .int 0, .int 0, .int 0, .int 0, .int 0, .int 0, .int 0, .int 0, .null, .null, .null, .null, .null, .null] (bModel d) := by
  refine eC (own := RX12) (by decide) rfl rfl (by decide) (fun p e s m args below meth c Q ls A W0 q G hin hl hA hw hret => ?_)
  obtain ⟨hx, hb, hml, hown, hts⟩ := G.1
  refine lv_aload_n hx hb dX12_init_0 rfl (lv_at hl 0 rfl) ?_
  refine cO G hl.1 ml_X12_1 (Nat.le_of_ble_eq_true rfl) (Nat.le_of_ble_eq_true rfl) dX12_init_1 ?_
  refine lv_aload_n hx hb dX12_init_4 rfl (lv_at hl 0 rfl) ?_
  refine lv_sipush hx hb dX12_init_5 ks_4296 ?_
  refine cA G hw hA (at0 := .int) (ft := .int) rfl ac_int (t := 0) rfl (fun _ _ => rfl) (n := 4296) (a0 := (4296, .inl (fun _ => 0))) (fun _ => rfl) (by decide) (by decide) (Nat.le_of_ble_eq_true rfl) (Nat.le_of_ble_eq_true rfl) (Nat.le_of_ble_eq_true rfl) dX12_init_8 (fun q1 H hw => ?_)
  have hw := hw.eq ap_L
  refine cF G hin (li' := [(q, .inr (12, [.ref q1, .null, .null, .int 0, .int 0, .null, .null, .null, .null, .null, .null, .null, .int 0, .int 0, .int 0, .int 0, .int 0, .int 0, .int 0, .int 0, .int 0, .int 0, .int 0, .int 0, .int 0, .int 0, .int 0, .int 0, .int 0, .int 0, .int 0, .int 0, .int 0, .int 0, .int 0, .int 0, .int 0, .int 0, .int 0, .int 0, .null, .null, .null, .null, .null, .null])), (q1, .inl (d 0, 4296, .inl (fun _ => 0)))]) hw rfl KX12 0 (Nat.le_of_ble_eq_true rfl) rfl rfl (Nat.le_of_ble_eq_true rfl) rfl rfl fl_X12_7 dX12_init_10 (fun H locs hw => ?_)
  refine lv_aload_n hx hb dX12_init_13 rfl (lv_at hl 0 rfl) ?_
  refine lv_sipush hx hb dX12_init_14 ks_4296 ?_
  refine cA G hw hA (at0 := .int) (ft := .int) rfl ac_int (t := 0) rfl (fun _ _ => rfl) (n := 4296) (a0 := (4296, .inl (fun _ => 0))) (fun _ => rfl) (by decide) (by decide) (Nat.le_of_ble_eq_true rfl) (Nat.le_of_ble_eq_true rfl) (Nat.le_of_ble_eq_true rfl) dX12_init_17 (fun q2 H hw => ?_)
  have hw := hw.eq ap_L
  refine cF G hin (li' := [(q, .inr (12, [.ref q1, .ref q2, .null, .int 0, .int 0, .null, .null, .null, .null, .null, .null, .null, .int 0, .int 0, .int 0, .int 0, .int 0, .int 0, .int 0, .int 0, .int 0, .int 0, .int 0, .int 0, .int 0, .int 0, .int 0, .int 0, .int 0, .int 0, .int 0, .int 0, .int 0, .int 0, .int 0, .int 0, .int 0, .int 0, .int 0, .int 0, .null, .null, .null, .null, .null, .null])), (q1, .inl (d 0, 4296, .inl (fun _ => 0))), (q2, .inl (d 0, 4296, .inl (fun _ => 0)))]) hw rfl KX12 1 (Nat.le_of_ble_eq_true rfl) rfl rfl (Nat.le_of_ble_eq_true rfl) rfl rfl fl_X12_13 dX12_init_19 (fun H locs hw => ?_)
  refine lv_aload_n hx hb dX12_init_22 rfl (lv_at hl 0 rfl) ?_
  refine lv_sipush hx hb dX12_init_23 ks_480 ?_
  refine cA G hw hA (at0 := .int) (ft := .int) rfl ac_int (t := 0) rfl (fun _ _ => rfl) (n := 480) (a0 := (480, .inl (fun _ => 0))) (fun _ => rfl) (by decide) (by decide) (Nat.le_of_ble_eq_true rfl) (Nat.le_of_ble_eq_true rfl) (Nat.le_of_ble_eq_true rfl) dX12_init_26 (fun q3 H hw => ?_)
  have hw := hw.eq ap_L
  refine cF G hin (li' := [(q, .inr (12, [.ref q1, .ref q2, .ref q3, .int 0, .int 0, .null, .null, .null, .null, .null, .null, .null, .int 0, .int 0, .int 0, .int 0, .int 0, .int 0, .int 0, .int 0, .int 0, .int 0, .int 0, .int 0, .int 0, .int 0, .int 0, .int 0, .int 0, .int 0, .int 0, .int 0, .int 0, .int 0, .int 0, .int 0, .int 0, .int 0, .int 0, .int 0, .null, .null, .null, .null, .null, .null])), (q1, .inl (d 0, 4296, .inl (fun _ => 0))), (q2, .inl (d 0, 4296, .inl (fun _ => 0))), (q3, .inl (d 0, 480, .inl (fun _ => 0)))]) hw rfl KX12 2 (Nat.le_of_ble_eq_true rfl) rfl rfl (Nat.le_of_ble_eq_true rfl) rfl rfl fl_X12_16 dX12_init_28 (fun H locs hw => ?_)
  refine lv_aload_n hx hb dX12_init_31 rfl (lv_at hl 0 rfl) ?_
  refine lv_bipush hx hb dX12_init_32 kb_64 ?_
  refine cA G hw hA (at0 := .int) (ft := .int) rfl ac_int (t := 0) rfl (fun _ _ => rfl) (n := 64) (a0 := (64, .inl (fun _ => 0))) (fun _ => rfl) (by decide) (by decide) (Nat.le_of_ble_eq_true rfl) (Nat.le_of_ble_eq_true rfl) (Nat.le_of_ble_eq_true rfl) dX12_init_34 (fun q4 H hw => ?_)
  have hw := hw.eq ap_L
  refine cF G hin (li' := [(q, .inr (12, [.ref q1, .ref q2, .ref q3, .int 0, .int 0, .ref q4, .null, .null, .null, .null, .null, .null, .int 0, .int 0, .int 0, .int 0, .int 0, .int 0, .int 0, .int 0, .int 0, .int 0, .int 0, .int 0, .int 0, .int 0, .int 0, .int 0, .int 0, .int 0, .int 0, .int 0, .int 0, .int 0, .int 0, .int 0, .int 0, .int 0, .int 0, .int 0, .null, .null, .null, .null, .null, .null])), (q1, .inl (d 0, 4296, .inl (fun _ => 0))), (q2, .inl (d 0, 4296, .inl (fun _ => 0))), (q3, .inl (d 0, 480, .inl (fun _ => 0))), (q4, .inl (d 0, 64, .inl (fun _ => 0)))]) hw rfl KX12 5 (Nat.le_of_ble_eq_true rfl) rfl rfl (Nat.le_of_ble_eq_true rfl) rfl rfl fl_X12_19 dX12_init_36 (fun H locs hw => ?_)
  refine lv_aload_n hx hb dX12_init_39 rfl (lv_at hl 0 rfl) ?_
  refine lv_sipush hx hb dX12_init_40 ks_820 ?_
  refine cA G hw hA (at0 := .int) (ft := .int) rfl ac_int (t := 0) rfl (fun _ _ => rfl) (n := 820) (a0 := (820, .inl (fun _ => 0))) (fun _ => rfl) (by decide) (by decide) (Nat.le_of_ble_eq_true rfl) (Nat.le_of_ble_eq_true rfl) (Nat.le_of_ble_eq_true rfl) dX12_init_43 (fun q5 H hw => ?_)
  have hw := hw.eq ap_L
  refine cF G hin (li' := [(q, .inr (12, [.ref q1, .ref q2, .ref q3, .int 0, .int 0, .ref q4, .ref q5, .null, .null, .null, .null, .null, .int 0, .int 0, .int 0, .int 0, .int 0, .int 0, .int 0, .int 0, .int 0, .int 0, .int 0, .int 0, .int 0, .int 0, .int 0, .int 0, .int 0, .int 0, .int 0, .int 0, .int 0, .int 0, .int 0, .int 0, .int 0, .int 0, .int 0, .int 0, .null, .null, .null, .null, .null, .null])), (q1, .inl (d 0, 4296, .inl (fun _ => 0))), (q2, .inl (d 0, 4296, .inl (fun _ => 0))), (q3, .inl (d 0, 480, .inl (fun _ => 0))), (q4, .inl (d 0, 64, .inl (fun _ => 0))), (q5, .inl (d 0, 820, .inl (fun _ => 0)))]) hw rfl KX12 6 (Nat.le_of_ble_eq_true rfl) rfl rfl (Nat.le_of_ble_eq_true rfl) rfl rfl fl_X12_22 dX12_init_45 (fun H locs hw => ?_)
  refine lv_aload_n hx hb dX12_init_48 rfl (lv_at hl 0 rfl) ?_
  refine lv_bipush hx hb dX12_init_49 kb_60 ?_
  refine cA G hw hA (at0 := .int) (ft := .int) rfl ac_int (t := 0) rfl (fun _ _ => rfl) (n := 60) (a0 := (60, .inl (fun _ => 0))) (fun _ => rfl) (by decide) (by decide) (Nat.le_of_ble_eq_true rfl) (Nat.le_of_ble_eq_true rfl) (Nat.le_of_ble_eq_true rfl) dX12_init_51 (fun q6 H hw => ?_)
  have hw := hw.eq ap_L
  refine cF G hin (li' := [(q, .inr (12, [.ref q1, .ref q2, .ref q3, .int 0, .int 0, .ref q4, .ref q5, .ref q6, .null, .null, .null, .null, .int 0, .int 0, .int 0, .int 0, .int 0, .int 0, .int 0, .int 0, .int 0, .int 0, .int 0, .int 0, .int 0, .int 0, .int 0, .int 0, .int 0, .int 0, .int 0, .int 0, .int 0, .int 0, .int 0, .int 0, .int 0, .int 0, .int 0, .int 0, .null, .null, .null, .null, .null, .null])), (q1, .inl (d 0, 4296, .inl (fun _ => 0))), (q2, .inl (d 0, 4296, .inl (fun _ => 0))), (q3, .inl (d 0, 480, .inl (fun _ => 0))), (q4, .inl (d 0, 64, .inl (fun _ => 0))), (q5, .inl (d 0, 820, .inl (fun _ => 0))), (q6, .inl (d 0, 60, .inl (fun _ => 0)))]) hw rfl KX12 7 (Nat.le_of_ble_eq_true rfl) rfl rfl (Nat.le_of_ble_eq_true rfl) rfl rfl fl_X12_25 dX12_init_53 (fun H locs hw => ?_)
  refine lv_aload_n hx hb dX12_init_56 rfl (lv_at hl 0 rfl) ?_
  refine lv_sipush hx hb dX12_init_57 ks_400 ?_
  refine cA G hw hA (at0 := .int) (ft := .int) rfl ac_int (t := 0) rfl (fun _ _ => rfl) (n := 400) (a0 := (400, .inl (fun _ => 0))) (fun _ => rfl) (by decide) (by decide) (Nat.le_of_ble_eq_true rfl) (Nat.le_of_ble_eq_true rfl) (Nat.le_of_ble_eq_true rfl) dX12_init_60 (fun q7 H hw => ?_)
  have hw := hw.eq ap_L
  refine cF G hin (li' := [(q, .inr (12, [.ref q1, .ref q2, .ref q3, .int 0, .int 0, .ref q4, .ref q5, .ref q6, .ref q7, .null, .null, .null, .int 0, .int 0, .int 0, .int 0, .int 0, .int 0, .int 0, .int 0, .int 0, .int 0, .int 0, .int 0, .int 0, .int 0, .int 0, .int 0, .int 0, .int 0, .int 0, .int 0, .int 0, .int 0, .int 0, .int 0, .int 0, .int 0, .int 0, .int 0, .null, .null, .null, .null, .null, .null])), (q1, .inl (d 0, 4296, .inl (fun _ => 0))), (q2, .inl (d 0, 4296, .inl (fun _ => 0))), (q3, .inl (d 0, 480, .inl (fun _ => 0))), (q4, .inl (d 0, 64, .inl (fun _ => 0))), (q5, .inl (d 0, 820, .inl (fun _ => 0))), (q6, .inl (d 0, 60, .inl (fun _ => 0))), (q7, .inl (d 0, 400, .inl (fun _ => 0)))]) hw rfl KX12 8 (Nat.le_of_ble_eq_true rfl) rfl rfl (Nat.le_of_ble_eq_true rfl) rfl rfl fl_X12_28 dX12_init_62 (fun H locs hw => ?_)
  refine lv_aload_n hx hb dX12_init_65 rfl (lv_at hl 0 rfl) ?_
  refine lv_sipush hx hb dX12_init_66 ks_420 ?_
  refine cA G hw hA (at0 := .int) (ft := .int) rfl ac_int (t := 0) rfl (fun _ _ => rfl) (n := 420) (a0 := (420, .inl (fun _ => 0))) (fun _ => rfl) (by decide) (by decide) (Nat.le_of_ble_eq_true rfl) (Nat.le_of_ble_eq_true rfl) (Nat.le_of_ble_eq_true rfl) dX12_init_69 (fun q8 H hw => ?_)
  have hw := hw.eq ap_L
  refine cF G hin (li' := [(q, .inr (12, [.ref q1, .ref q2, .ref q3, .int 0, .int 0, .ref q4, .ref q5, .ref q6, .ref q7, .ref q8, .null, .null, .int 0, .int 0, .int 0, .int 0, .int 0, .int 0, .int 0, .int 0, .int 0, .int 0, .int 0, .int 0, .int 0, .int 0, .int 0, .int 0, .int 0, .int 0, .int 0, .int 0, .int 0, .int 0, .int 0, .int 0, .int 0, .int 0, .int 0, .int 0, .null, .null, .null, .null, .null, .null])), (q1, .inl (d 0, 4296, .inl (fun _ => 0))), (q2, .inl (d 0, 4296, .inl (fun _ => 0))), (q3, .inl (d 0, 480, .inl (fun _ => 0))), (q4, .inl (d 0, 64, .inl (fun _ => 0))), (q5, .inl (d 0, 820, .inl (fun _ => 0))), (q6, .inl (d 0, 60, .inl (fun _ => 0))), (q7, .inl (d 0, 400, .inl (fun _ => 0))), (q8, .inl (d 0, 420, .inl (fun _ => 0)))]) hw rfl KX12 9 (Nat.le_of_ble_eq_true rfl) rfl rfl (Nat.le_of_ble_eq_true rfl) rfl rfl fl_X12_31 dX12_init_71 (fun H locs hw => ?_)
  refine lv_aload_n hx hb dX12_init_74 rfl (lv_at hl 0 rfl) ?_
  refine lv_bipush hx hb dX12_init_75 kb_20 ?_
  refine cA G hw hA (at0 := .int) (ft := .int) rfl ac_int (t := 0) rfl (fun _ _ => rfl) (n := 20) (a0 := (20, .inl (fun _ => 0))) (fun _ => rfl) (by decide) (by decide) (Nat.le_of_ble_eq_true rfl) (Nat.le_of_ble_eq_true rfl) (Nat.le_of_ble_eq_true rfl) dX12_init_77 (fun q9 H hw => ?_)
  have hw := hw.eq ap_L
  refine cF G hin (li' := [(q, .inr (12, [.ref q1, .ref q2, .ref q3, .int 0, .int 0, .ref q4, .ref q5, .ref q6, .ref q7, .ref q8, .ref q9, .null, .int 0, .int 0, .int 0, .int 0, .int 0, .int 0, .int 0, .int 0, .int 0, .int 0, .int 0, .int 0, .int 0, .int 0, .int 0, .int 0, .int 0, .int 0, .int 0, .int 0, .int 0, .int 0, .int 0, .int 0, .int 0, .int 0, .int 0, .int 0, .null, .null, .null, .null, .null, .null])), (q1, .inl (d 0, 4296, .inl (fun _ => 0))), (q2, .inl (d 0, 4296, .inl (fun _ => 0))), (q3, .inl (d 0, 480, .inl (fun _ => 0))), (q4, .inl (d 0, 64, .inl (fun _ => 0))), (q5, .inl (d 0, 820, .inl (fun _ => 0))), (q6, .inl (d 0, 60, .inl (fun _ => 0))), (q7, .inl (d 0, 400, .inl (fun _ => 0))), (q8, .inl (d 0, 420, .inl (fun _ => 0))), (q9, .inl (d 0, 20, .inl (fun _ => 0)))]) hw rfl KX12 10 (Nat.le_of_ble_eq_true rfl) rfl rfl (Nat.le_of_ble_eq_true rfl) rfl rfl fl_X12_34 dX12_init_79 (fun H locs hw => ?_)
  refine lv_aload_n hx hb dX12_init_82 rfl (lv_at hl 0 rfl) ?_
  refine lv_bipush hx hb dX12_init_83 kb_60 ?_
  refine cA G hw hA (at0 := .int) (ft := .int) rfl ac_int (t := 0) rfl (fun _ _ => rfl) (n := 60) (a0 := (60, .inl (fun _ => 0))) (fun _ => rfl) (by decide) (by decide) (Nat.le_of_ble_eq_true rfl) (Nat.le_of_ble_eq_true rfl) (Nat.le_of_ble_eq_true rfl) dX12_init_85 (fun q10 H hw => ?_)
  have hw := hw.eq ap_L
  refine cF G hin (li' := [(q, .inr (12, [.ref q1, .ref q2, .ref q3, .int 0, .int 0, .ref q4, .ref q5, .ref q6, .ref q7, .ref q8, .ref q9, .ref q10, .int 0, .int 0, .int 0, .int 0, .int 0, .int 0, .int 0, .int 0, .int 0, .int 0, .int 0, .int 0, .int 0, .int 0, .int 0, .int 0, .int 0, .int 0, .int 0, .int 0, .int 0, .int 0, .int 0, .int 0, .int 0, .int 0, .int 0, .int 0, .null, .null, .null, .null, .null, .null])), (q1, .inl (d 0, 4296, .inl (fun _ => 0))), (q2, .inl (d 0, 4296, .inl (fun _ => 0))), (q3, .inl (d 0, 480, .inl (fun _ => 0))), (q4, .inl (d 0, 64, .inl (fun _ => 0))), (q5, .inl (d 0, 820, .inl (fun _ => 0))), (q6, .inl (d 0, 60, .inl (fun _ => 0))), (q7, .inl (d 0, 400, .inl (fun _ => 0))), (q8, .inl (d 0, 420, .inl (fun _ => 0))), (q9, .inl (d 0, 20, .inl (fun _ => 0))), (q10, .inl (d 0, 60, .inl (fun _ => 0)))]) hw rfl KX12 11 (Nat.le_of_ble_eq_true rfl) rfl rfl (Nat.le_of_ble_eq_true rfl) rfl rfl fl_X12_37 dX12_init_87 (fun H locs hw => ?_)
  refine lv_aload_n hx hb dX12_init_90 rfl (lv_at hl 0 rfl) ?_
  refine lv_iconst hx hb dX12_init_91 ki_m1 ?_
  refine cP G (li' := [(q, .inr (12, [.ref q1, .ref q2, .ref q3, .int 0, .int 0, .ref q4, .ref q5, .ref q6, .ref q7, .ref q8, .ref q9, .ref q10, .int 0, .int 0, .int 0, .int 0, .int 0, .int 0, .int 0, .int 0, .int 0, .int 0, .int 0, .int 0, .int 0, .int (-1), .int 0, .int 0, .int 0, .int 0, .int 0, .int 0, .int 0, .int 0, .int 0, .int 0, .int 0, .int 0, .int 0, .int 0, .null, .null, .null, .null, .null, .null])), (q1, .inl (d 0, 4296, .inl (fun _ => 0))), (q2, .inl (d 0, 4296, .inl (fun _ => 0))), (q3, .inl (d 0, 480, .inl (fun _ => 0))), (q4, .inl (d 0, 64, .inl (fun _ => 0))), (q5, .inl (d 0, 820, .inl (fun _ => 0))), (q6, .inl (d 0, 60, .inl (fun _ => 0))), (q7, .inl (d 0, 400, .inl (fun _ => 0))), (q8, .inl (d 0, 420, .inl (fun _ => 0))), (q9, .inl (d 0, 20, .inl (fun _ => 0))), (q10, .inl (d 0, 60, .inl (fun _ => 0)))]) hw rfl KX12 25 (Nat.le_of_ble_eq_true rfl) rfl rfl (Nat.le_of_ble_eq_true rfl) rfl rfl fl_X12_40 dX12_init_92 (fun H locs hw => ?_)
  refine lv_aload_n hx hb dX12_init_95 rfl (lv_at hl 0 rfl) ?_
  refine lv_ldc hx hb hown (hts _ cn_X12_44) dX12_init_96 ?_
  refine cA G hw hA (at0 := .int) (ft := .int) rfl ac_int (t := 0) rfl (fun _ _ => rfl) (n := 100100) (a0 := (100100, .inl (fun _ => 0))) (fun _ => rfl) (by decide) (by decide) (Nat.le_of_ble_eq_true rfl) (Nat.le_of_ble_eq_true rfl) (Nat.le_of_ble_eq_true rfl) dX12_init_98 (fun q11 H hw => ?_)
  have hw := hw.eq ap_L
  refine cF G hin (li' := [(q, .inr (12, [.ref q1, .ref q2, .ref q3, .int 0, .int 0, .ref q4, .ref q5, .ref q6, .ref q7, .ref q8, .ref q9, .ref q10, .int 0, .int 0, .int 0, .int 0, .int 0, .int 0, .int 0, .int 0, .int 0, .int 0, .int 0, .int 0, .int 0, .int (-1), .int 0, .int 0, .int 0, .int 0, .int 0, .int 0, .int 0, .int 0, .int 0, .int 0, .int 0, .int 0, .int 0, .int 0, .ref q11, .null, .null, .null, .null, .null])), (q1, .inl (d 0, 4296, .inl (fun _ => 0))), (q2, .inl (d 0, 4296, .inl (fun _ => 0))), (q3, .inl (d 0, 480, .inl (fun _ => 0))), (q4, .inl (d 0, 64, .inl (fun _ => 0))), (q5, .inl (d 0, 820, .inl (fun _ => 0))), (q6, .inl (d 0, 60, .inl (fun _ => 0))), (q7, .inl (d 0, 400, .inl (fun _ => 0))), (q8, .inl (d 0, 420, .inl (fun _ => 0))), (q9, .inl (d 0, 20, .inl (fun _ => 0))), (q10, .inl (d 0, 60, .inl (fun _ => 0))), (q11, .inl (d 0, 100100, .inl (fun _ => 0)))]) hw rfl KX12 40 (Nat.le_of_ble_eq_true rfl) rfl rfl (Nat.le_of_ble_eq_true rfl) rfl rfl fl_X12_45 dX12_init_100 (fun H locs hw => ?_)
  refine lv_aload_n hx hb dX12_init_103 rfl (lv_at hl 0 rfl) ?_
  refine lv_ldc hx hb hown (hts _ cn_X12_44) dX12_init_104 ?_
  refine cA G hw hA (at0 := .int) (ft := .int) rfl ac_int (t := 0) rfl (fun _ _ => rfl) (n := 100100) (a0 := (100100, .inl (fun _ => 0))) (fun _ => rfl) (by decide) (by decide) (Nat.le_of_ble_eq_true rfl) (Nat.le_of_ble_eq_true rfl) (Nat.le_of_ble_eq_true rfl) dX12_init_106 (fun q12 H hw => ?_)
  have hw := hw.eq ap_L
  refine cF G hin (li' := [(q, .inr (12, [.ref q1, .ref q2, .ref q3, .int 0, .int 0, .ref q4, .ref q5, .ref q6, .ref q7, .ref q8, .ref q9, .ref q10, .int 0, .int 0, .int 0, .int 0, .int 0, .int 0, .int 0, .int 0, .int 0, .int 0, .int 0, .int 0, .int 0, .int (-1), .int 0, .int 0, .int 0, .int 0, .int 0, .int 0, .int 0, .int 0, .int 0, .int 0, .int 0, .int 0, .int 0, .int 0, .ref q11, .ref q12, .null, .null, .null, .null])), (q1, .inl (d 0, 4296, .inl (fun _ => 0))), (q2, .inl (d 0, 4296, .inl (fun _ => 0))), (q3, .inl (d 0, 480, .inl (fun _ => 0))), (q4, .inl (d 0, 64, .inl (fun _ => 0))), (q5, .inl (d 0, 820, .inl (fun _ => 0))), (q6, .inl (d 0, 60, .inl (fun _ => 0))), (q7, .inl (d 0, 400, .inl (fun _ => 0))), (q8, .inl (d 0, 420, .inl (fun _ => 0))), (q9, .inl (d 0, 20, .inl (fun _ => 0))), (q10, .inl (d 0, 60, .inl (fun _ => 0))), (q11, .inl (d 0, 100100, .inl (fun _ => 0))), (q12, .inl (d 0, 100100, .inl (fun _ => 0)))]) hw rfl KX12 41 (Nat.le_of_ble_eq_true rfl) rfl rfl (Nat.le_of_ble_eq_true rfl) rfl rfl fl_X12_48 dX12_init_108 (fun H locs hw => ?_)
  refine lv_aload_n hx hb dX12_init_111 rfl (lv_at hl 0 rfl) ?_
  refine lv_ldc hx hb hown (hts _ cn_X12_44) dX12_init_112 ?_
  refine cA G hw hA (at0 := .boolean) (ft := .boolean) rfl ac_boolean (t := 2) rfl (fun _ _ => rfl) (n := 100100) (a0 := (100100, .inl (fun _ => 0))) (fun _ => rfl) (by decide) (by decide) (Nat.le_of_ble_eq_true rfl) (Nat.le_of_ble_eq_true rfl) (Nat.le_of_ble_eq_true rfl) dX12_init_114 (fun q13 H hw => ?_)
  have hw := hw.eq ap_L
  refine cF G hin (li' := [(q, .inr (12, [.ref q1, .ref q2, .ref q3, .int 0, .int 0, .ref q4, .ref q5, .ref q6, .ref q7, .ref q8, .ref q9, .ref q10, .int 0, .int 0, .int 0, .int 0, .int 0, .int 0, .int 0, .int 0, .int 0, .int 0, .int 0, .int 0, .int 0, .int (-1), .int 0, .int 0, .int 0, .int 0, .int 0, .int 0, .int 0, .int 0, .int 0, .int 0, .int 0, .int 0, .int 0, .int 0, .ref q11, .ref q12, .ref q13, .null, .null, .null])), (q1, .inl (d 0, 4296, .inl (fun _ => 0))), (q2, .inl (d 0, 4296, .inl (fun _ => 0))), (q3, .inl (d 0, 480, .inl (fun _ => 0))), (q4, .inl (d 0, 64, .inl (fun _ => 0))), (q5, .inl (d 0, 820, .inl (fun _ => 0))), (q6, .inl (d 0, 60, .inl (fun _ => 0))), (q7, .inl (d 0, 400, .inl (fun _ => 0))), (q8, .inl (d 0, 420, .inl (fun _ => 0))), (q9, .inl (d 0, 20, .inl (fun _ => 0))), (q10, .inl (d 0, 60, .inl (fun _ => 0))), (q11, .inl (d 0, 100100, .inl (fun _ => 0))), (q12, .inl (d 0, 100100, .inl (fun _ => 0))), (q13, .inl (d 2, 100100, .inl (fun _ => 0)))]) hw rfl KX12 42 (Nat.le_of_ble_eq_true rfl) rfl rfl (Nat.le_of_ble_eq_true rfl) rfl rfl fl_X12_51 dX12_init_116 (fun H locs hw => ?_)
  refine lv_aload_n hx hb dX12_init_119 rfl (lv_at hl 0 rfl) ?_
  refine lv_sipush hx hb dX12_init_120 ks_7007 ?_
  refine cA G hw hA (at0 := .int) (ft := .int) rfl ac_int (t := 0) rfl (fun _ _ => rfl) (n := 7007) (a0 := (7007, .inl (fun _ => 0))) (fun _ => rfl) (by decide) (by decide) (Nat.le_of_ble_eq_true rfl) (Nat.le_of_ble_eq_true rfl) (Nat.le_of_ble_eq_true rfl) dX12_init_123 (fun q14 H hw => ?_)
  have hw := hw.eq ap_L
  refine cF G hin (li' := [(q, .inr (12, [.ref q1, .ref q2, .ref q3, .int 0, .int 0, .ref q4, .ref q5, .ref q6, .ref q7, .ref q8, .ref q9, .ref q10, .int 0, .int 0, .int 0, .int 0, .int 0, .int 0, .int 0, .int 0, .int 0, .int 0, .int 0, .int 0, .int 0, .int (-1), .int 0, .int 0, .int 0, .int 0, .int 0, .int 0, .int 0, .int 0, .int 0, .int 0, .int 0, .int 0, .int 0, .int 0, .ref q11, .ref q12, .ref q13, .ref q14, .null, .null])), (q1, .inl (d 0, 4296, .inl (fun _ => 0))), (q2, .inl (d 0, 4296, .inl (fun _ => 0))), (q3, .inl (d 0, 480, .inl (fun _ => 0))), (q4, .inl (d 0, 64, .inl (fun _ => 0))), (q5, .inl (d 0, 820, .inl (fun _ => 0))), (q6, .inl (d 0, 60, .inl (fun _ => 0))), (q7, .inl (d 0, 400, .inl (fun _ => 0))), (q8, .inl (d 0, 420, .inl (fun _ => 0))), (q9, .inl (d 0, 20, .inl (fun _ => 0))), (q10, .inl (d 0, 60, .inl (fun _ => 0))), (q11, .inl (d 0, 100100, .inl (fun _ => 0))), (q12, .inl (d 0, 100100, .inl (fun _ => 0))), (q13, .inl (d 2, 100100, .inl (fun _ => 0))), (q14, .inl (d 0, 7007, .inl (fun _ => 0)))]) hw rfl KX12 43 (Nat.le_of_ble_eq_true rfl) rfl rfl (Nat.le_of_ble_eq_true rfl) rfl rfl fl_X12_55 dX12_init_125 (fun H locs hw => ?_)
  refine lv_aload_n hx hb dX12_init_128 rfl (lv_at hl 0 rfl) ?_
  refine lv_sipush hx hb dX12_init_129 ks_7007 ?_
  refine cA G hw hA (at0 := .int) (ft := .int) rfl ac_int (t := 0) rfl (fun _ _ => rfl) (n := 7007) (a0 := (7007, .inl (fun _ => 0))) (fun _ => rfl) (by decide) (by decide) (Nat.le_of_ble_eq_true rfl) (Nat.le_of_ble_eq_true rfl) (Nat.le_of_ble_eq_true rfl) dX12_init_132 (fun q15 H hw => ?_)
  have hw := hw.eq ap_L
  refine cF G hin (li' := [(q, .inr (12, [.ref q1, .ref q2, .ref q3, .int 0, .int 0, .ref q4, .ref q5, .ref q6, .ref q7, .ref q8, .ref q9, .ref q10, .int 0, .int 0, .int 0, .int 0, .int 0, .int 0, .int 0, .int 0, .int 0, .int 0, .int 0, .int 0, .int 0, .int (-1), .int 0, .int 0, .int 0, .int 0, .int 0, .int 0, .int 0, .int 0, .int 0, .int 0, .int 0, .int 0, .int 0, .int 0, .ref q11, .ref q12, .ref q13, .ref q14, .ref q15, .null])), (q1, .inl (d 0, 4296, .inl (fun _ => 0))), (q2, .inl (d 0, 4296, .inl (fun _ => 0))), (q3, .inl (d 0, 480, .inl (fun _ => 0))), (q4, .inl (d 0, 64, .inl (fun _ => 0))), (q5, .inl (d 0, 820, .inl (fun _ => 0))), (q6, .inl (d 0, 60, .inl (fun _ => 0))), (q7, .inl (d 0, 400, .inl (fun _ => 0))), (q8, .inl (d 0, 420, .inl (fun _ => 0))), (q9, .inl (d 0, 20, .inl (fun _ => 0))), (q10, .inl (d 0, 60, .inl (fun _ => 0))), (q11, .inl (d 0, 100100, .inl (fun _ => 0))), (q12, .inl (d 0, 100100, .inl (fun _ => 0))), (q13, .inl (d 2, 100100, .inl (fun _ => 0))), (q14, .inl (d 0, 7007, .inl (fun _ => 0))), (q15, .inl (d 0, 7007, .inl (fun _ => 0)))]) hw rfl KX12 44 (Nat.le_of_ble_eq_true rfl) rfl rfl (Nat.le_of_ble_eq_true rfl) rfl rfl fl_X12_58 dX12_init_134 (fun H locs hw => ?_)
  refine lv_aload_n hx hb dX12_init_137 rfl (lv_at hl 0 rfl) ?_
  refine lv_bipush hx hb dX12_init_138 kb_10 ?_
  refine cA G hw hA (at0 := .int) (ft := .int) rfl ac_int (t := 0) rfl (fun _ _ => rfl) (n := 10) (a0 := (10, .inl (fun _ => 0))) (fun _ => rfl) (by decide) (by decide) (Nat.le_of_ble_eq_true rfl) (Nat.le_of_ble_eq_true rfl) (Nat.le_of_ble_eq_true rfl) dX12_init_140 (fun q16 H hw => ?_)
  have hw := hw.eq ap_L
  refine cF G hin (li' := [(q, .inr (12, [.ref q1, .ref q2, .ref q3, .int 0, .int 0, .ref q4, .ref q5, .ref q6, .ref q7, .ref q8, .ref q9, .ref q10, .int 0, .int 0, .int 0, .int 0, .int 0, .int 0, .int 0, .int 0, .int 0, .int 0, .int 0, .int 0, .int 0, .int (-1), .int 0, .int 0, .int 0, .int 0, .int 0, .int 0, .int 0, .int 0, .int 0, .int 0, .int 0, .int 0, .int 0, .int 0, .ref q11, .ref q12, .ref q13, .ref q14, .ref q15, .ref q16])), (q1, .inl (d 0, 4296, .inl (fun _ => 0))), (q2, .inl (d 0, 4296, .inl (fun _ => 0))), (q3, .inl (d 0, 480, .inl (fun _ => 0))), (q4, .inl (d 0, 64, .inl (fun _ => 0))), (q5, .inl (d 0, 820, .inl (fun _ => 0))), (q6, .inl (d 0, 60, .inl (fun _ => 0))), (q7, .inl (d 0, 400, .inl (fun _ => 0))), (q8, .inl (d 0, 420, .inl (fun _ => 0))), (q9, .inl (d 0, 20, .inl (fun _ => 0))), (q10, .inl (d 0, 60, .inl (fun _ => 0))), (q11, .inl (d 0, 100100, .inl (fun _ => 0))), (q12, .inl (d 0, 100100, .inl (fun _ => 0))), (q13, .inl (d 2, 100100, .inl (fun _ => 0))), (q14, .inl (d 0, 7007, .inl (fun _ => 0))), (q15, .inl (d 0, 7007, .inl (fun _ => 0))), (q16, .inl (d 0, 10, .inl (fun _ => 0)))]) hw rfl KX12 45 (Nat.le_of_ble_eq_true rfl) rfl rfl (Nat.le_of_ble_eq_true rfl) rfl rfl fl_X12_61 dX12_init_142 (fun H locs hw => ?_)
  refine lv_aload_n hx hb dX12_init_145 rfl (lv_at hl 0 rfl) ?_
  refine cT G hw rfl KX12 0 (Nat.le_of_ble_eq_true rfl) rfl fl_X12_7 dX12_init_146 ?_
  refine lv_bipush hx hb dX12_init_149 kb_64 ?_
  refine lv_bipush hx hb dX12_init_151 kb_7 ?_
  refine cI G (li' := [(q, .inr (12, [.ref q1, .ref q2, .ref q3, .int 0, .int 0, .ref q4, .ref q5, .ref q6, .ref q7, .ref q8, .ref q9, .ref q10, .int 0, .int 0, .int 0, .int 0, .int 0, .int 0, .int 0, .int 0, .int 0, .int 0, .int 0, .int 0, .int 0, .int (-1), .int 0, .int 0, .int 0, .int 0, .int 0, .int 0, .int 0, .int 0, .int 0, .int 0, .int 0, .int 0, .int 0, .int 0, .ref q11, .ref q12, .ref q13, .ref q14, .ref q15, .ref q16])), (q1, .inl (d 0, 4296, .inl (upd (fun _ => 0) 64 7))), (q2, .inl (d 0, 4296, .inl (fun _ => 0))), (q3, .inl (d 0, 480, .inl (fun _ => 0))), (q4, .inl (d 0, 64, .inl (fun _ => 0))), (q5, .inl (d 0, 820, .inl (fun _ => 0))), (q6, .inl (d 0, 60, .inl (fun _ => 0))), (q7, .inl (d 0, 400, .inl (fun _ => 0))), (q8, .inl (d 0, 420, .inl (fun _ => 0))), (q9, .inl (d 0, 20, .inl (fun _ => 0))), (q10, .inl (d 0, 60, .inl (fun _ => 0))), (q11, .inl (d 0, 100100, .inl (fun _ => 0))), (q12, .inl (d 0, 100100, .inl (fun _ => 0))), (q13, .inl (d 2, 100100, .inl (fun _ => 0))), (q14, .inl (d 0, 7007, .inl (fun _ => 0))), (q15, .inl (d 0, 7007, .inl (fun _ => 0))), (q16, .inl (d 0, 10, .inl (fun _ => 0)))]) hw 1 rfl (vin_e (by decide)) (k := 64) (by decide) rfl dX12_init_153 (fun H locs hw => ?_)
  refine W.widen (k := 16) (n := 325240) (Nat.le_of_ble_eq_true rfl) (Nat.le_of_ble_eq_true rfl) ?_
  obtain ⟨B, hB⟩ : ∃ B : Nat → Nat, B = fun j => if j = 1 then q1 else if j = 2 then q2 else if j = 3 then q3 else if j = 4 then q4 else if j = 5 then q5 else if j = 6 then q6 else if j = 7 then q7 else if j = 8 then q8 else if j = 9 then q9 else if j = 10 then q10 else if j = 11 then q11 else if j = 12 then q12 else if j = 13 then q13 else if j = 14 then q14 else if j = 15 then q15 else if j = 16 then q16 else 0 := ⟨_, rfl⟩
  have f1 : B 1 = q1 := by rw [hB]; rfl
  have f2 : B 2 = q2 := by rw [hB]; rfl
  have f3 : B 3 = q3 := by rw [hB]; rfl
  have f4 : B 4 = q4 := by rw [hB]; rfl
  have f5 : B 5 = q5 := by rw [hB]; rfl
  have f6 : B 6 = q6 := by rw [hB]; rfl
  have f7 : B 7 = q7 := by rw [hB]; rfl
  have f8 : B 8 = q8 := by rw [hB]; rfl
  have f9 : B 9 = q9 := by rw [hB]; rfl
  have f10 : B 10 = q10 := by rw [hB]; rfl
  have f11 : B 11 = q11 := by rw [hB]; rfl
  have f12 : B 12 = q12 := by rw [hB]; rfl
  have f13 : B 13 = q13 := by rw [hB]; rfl
  have f14 : B 14 = q14 := by rw [hB]; rfl
  have f15 : B 15 = q15 := by rw [hB]; rfl
  have f16 : B 16 = q16 := by rw [hB]; rfl
  have e0 : bModel d q B = [(q, .inr (12, [.ref q1, .ref q2, .ref q3, .int 0, .int 0, .ref q4, .ref q5, .ref q6, .ref q7, .ref q8, .ref q9, .ref q10, .int 0, .int 0, .int 0, .int 0, .int 0, .int 0, .int 0, .int 0, .int 0, .int 0, .int 0, .int 0, .int 0, .int (-1), .int 0, .int 0, .int 0, .int 0, .int 0, .int 0, .int 0, .int 0, .int 0, .int 0, .int 0, .int 0, .int 0, .int 0, .ref q11, .ref q12, .ref q13, .ref q14, .ref q15, .ref q16])), (q1, .inl (d 0, 4296, .inl (upd (fun _ => 0) 64 7))), (q2, .inl (d 0, 4296, .inl (fun _ => 0))), (q3, .inl (d 0, 480, .inl (fun _ => 0))), (q4, .inl (d 0, 64, .inl (fun _ => 0))), (q5, .inl (d 0, 820, .inl (fun _ => 0))), (q6, .inl (d 0, 60, .inl (fun _ => 0))), (q7, .inl (d 0, 400, .inl (fun _ => 0))), (q8, .inl (d 0, 420, .inl (fun _ => 0))), (q9, .inl (d 0, 20, .inl (fun _ => 0))), (q10, .inl (d 0, 60, .inl (fun _ => 0))), (q11, .inl (d 0, 100100, .inl (fun _ => 0))), (q12, .inl (d 0, 100100, .inl (fun _ => 0))), (q13, .inl (d 2, 100100, .inl (fun _ => 0))), (q14, .inl (d 0, 7007, .inl (fun _ => 0))), (q15, .inl (d 0, 7007, .inl (fun _ => 0))), (q16, .inl (d 0, 10, .inl (fun _ => 0)))] ++ [] := by simp only [bModel, f1, f2, f3, f4, f5, f6, f7, f8, f9, f10, f11, f12, f13, f14, f15, f16]
  exact hret B _ _ _ _ dX12_init_154 (hw.eq (congrArg (fun z => W0 ++ z) e0.symm))

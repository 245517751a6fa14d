/-- the words that every method takes: those of the tables that a call keeps -/
noncomputable def wsG : List Cond := lw_tbl.filter goodWord
theorem wG {w : Cond} (h : w ∈ lw_tbl) (g : goodWord w = true) : w ∈ wsG := List.mem_filter.mpr ⟨h, g⟩
theorem wsG_in {w : Cond} (h : w ∈ wsG) : w ∈ lw_tbl := (List.mem_filter.mp h).1
theorem wsG_ok {w : Cond} (h : w ∈ wsG) : goodWord w = true := (List.mem_filter.mp h).2
theorem mT1 : ∀ w ∈ tables_1_1, w ∈ lw_tbl := fun w h => List.mem_append_right _ (by unfold tables_1; exact List.mem_append_left _ (h))
theorem mT2 : ∀ w ∈ tables_1_2, w ∈ lw_tbl := fun w h => List.mem_append_right _ (by unfold tables_1; exact List.mem_append_right _ (List.mem_append_left _ (h)))
theorem mT3 : ∀ w ∈ tables_1_3, w ∈ lw_tbl := fun w h => List.mem_append_right _ (by unfold tables_1; exact List.mem_append_right _ (List.mem_append_right _ (List.mem_append_left _ (h))))
theorem mT4 : ∀ w ∈ tables_1_4, w ∈ lw_tbl := fun w h => List.mem_append_right _ (by unfold tables_1; exact List.mem_append_right _ (List.mem_append_right _ (List.mem_append_right _ (List.mem_append_left _ (h)))))
theorem mT5 : ∀ w ∈ tables_1_5, w ∈ lw_tbl := fun w h => List.mem_append_right _ (by unfold tables_1; exact List.mem_append_right _ (List.mem_append_right _ (List.mem_append_right _ (List.mem_append_right _ (List.mem_append_left _ (h))))))
theorem mT6 : ∀ w ∈ tables_1_6, w ∈ lw_tbl := fun w h => List.mem_append_right _ (by unfold tables_1; exact List.mem_append_right _ (List.mem_append_right _ (List.mem_append_right _ (List.mem_append_right _ (List.mem_append_right _ (List.mem_append_left _ (h)))))))
theorem mT7 : ∀ w ∈ tables_1_7, w ∈ lw_tbl := fun w h => List.mem_append_right _ (by unfold tables_1; exact List.mem_append_right _ (List.mem_append_right _ (List.mem_append_right _ (List.mem_append_right _ (List.mem_append_right _ (List.mem_append_right _ (List.mem_append_left _ (h))))))))
theorem mT8 : ∀ w ∈ tables_1_8, w ∈ lw_tbl := fun w h => List.mem_append_right _ (by unfold tables_1; exact List.mem_append_right _ (List.mem_append_right _ (List.mem_append_right _ (List.mem_append_right _ (List.mem_append_right _ (List.mem_append_right _ (List.mem_append_right _ (h))))))))
theorem mP1 : ∀ w ∈ k2_sels lw_privs_1, w ∈ lw_tbl := fun w h => List.mem_append_left _ (by obtain ⟨q, hq, e⟩ := List.mem_map.mp h; exact List.mem_map.mpr ⟨q, (by unfold lw_privs; exact List.mem_append_left _ (hq)), e⟩)
theorem mP2 : ∀ w ∈ k2_sels lw_privs_2, w ∈ lw_tbl := fun w h => List.mem_append_left _ (by obtain ⟨q, hq, e⟩ := List.mem_map.mp h; exact List.mem_map.mpr ⟨q, (by unfold lw_privs; exact List.mem_append_right _ (List.mem_append_left _ (hq))), e⟩)
theorem mP3 : ∀ w ∈ k2_sels lw_privs_3, w ∈ lw_tbl := fun w h => List.mem_append_left _ (by obtain ⟨q, hq, e⟩ := List.mem_map.mp h; exact List.mem_map.mpr ⟨q, (by unfold lw_privs; exact List.mem_append_right _ (List.mem_append_right _ (List.mem_append_left _ (hq)))), e⟩)
theorem mP4 : ∀ w ∈ k2_sels lw_privs_4, w ∈ lw_tbl := fun w h => List.mem_append_left _ (by obtain ⟨q, hq, e⟩ := List.mem_map.mp h; exact List.mem_map.mpr ⟨q, (by unfold lw_privs; exact List.mem_append_right _ (List.mem_append_right _ (List.mem_append_right _ (List.mem_append_left _ (hq))))), e⟩)
theorem mP5 : ∀ w ∈ k2_sels lw_privs_5, w ∈ lw_tbl := fun w h => List.mem_append_left _ (by obtain ⟨q, hq, e⟩ := List.mem_map.mp h; exact List.mem_map.mpr ⟨q, (by unfold lw_privs; exact List.mem_append_right _ (List.mem_append_right _ (List.mem_append_right _ (List.mem_append_right _ (List.mem_append_left _ (hq)))))), e⟩)
theorem mP6 : ∀ w ∈ k2_sels lw_privs_6, w ∈ lw_tbl := fun w h => List.mem_append_left _ (by obtain ⟨q, hq, e⟩ := List.mem_map.mp h; exact List.mem_map.mpr ⟨q, (by unfold lw_privs; exact List.mem_append_right _ (List.mem_append_right _ (List.mem_append_right _ (List.mem_append_right _ (List.mem_append_right _ (List.mem_append_left _ (hq))))))), e⟩)
theorem mP7 : ∀ w ∈ k2_sels lw_privs_7, w ∈ lw_tbl := fun w h => List.mem_append_left _ (by obtain ⟨q, hq, e⟩ := List.mem_map.mp h; exact List.mem_map.mpr ⟨q, (by unfold lw_privs; exact List.mem_append_right _ (List.mem_append_right _ (List.mem_append_right _ (List.mem_append_right _ (List.mem_append_right _ (List.mem_append_right _ (hq))))))), e⟩)
theorem inX0 : ∀ w ∈ wsX00, w ∈ wsG := fun w h => wG ((by decide +kernel : ∀ w ∈ wsX00, w ∈ lw_tbl) w h) ((by decide +kernel : ∀ w ∈ wsX00, goodWord w = true) w h)
theorem inX1 : ∀ w ∈ wsX10, w ∈ wsG := fun w h => wG ((by decide +kernel : ∀ w ∈ wsX10, w ∈ lw_tbl) w h) ((by decide +kernel : ∀ w ∈ wsX10, goodWord w = true) w h)
theorem inX2 : ∀ w ∈ wsX20, w ∈ wsG := fun w h => wG ((by decide +kernel : ∀ w ∈ wsX20, w ∈ lw_tbl) w h) ((by decide +kernel : ∀ w ∈ wsX20, goodWord w = true) w h)
theorem inX3 : ∀ w ∈ wsX30, w ∈ wsG := fun w h => wG ((by decide +kernel : ∀ w ∈ wsX30, w ∈ lw_tbl) w h) ((by decide +kernel : ∀ w ∈ wsX30, goodWord w = true) w h)
theorem inX4 : ∀ w ∈ wsX40, w ∈ wsG := fun w h => wG ((by decide +kernel : ∀ w ∈ wsX40, w ∈ lw_tbl) w h) ((by decide +kernel : ∀ w ∈ wsX40, goodWord w = true) w h)
theorem inX5 : ∀ w ∈ wsX50, w ∈ wsG := fun w h => wG ((by decide +kernel : ∀ w ∈ wsX50, w ∈ lw_tbl) w h) ((by decide +kernel : ∀ w ∈ wsX50, goodWord w = true) w h)
theorem inX6 : ∀ w ∈ wsX60, w ∈ wsG := fun w h => wG ((by decide +kernel : ∀ w ∈ wsX60, w ∈ lw_tbl) w h) ((by decide +kernel : ∀ w ∈ wsX60, goodWord w = true) w h)
theorem inX7 : ∀ w ∈ wsX70, w ∈ wsG := fun w h => wG ((by decide +kernel : ∀ w ∈ wsX70, w ∈ lw_tbl) w h) ((by decide +kernel : ∀ w ∈ wsX70, goodWord w = true) w h)
theorem inX8 : ∀ w ∈ wsX80, w ∈ wsG := fun w h => wG ((by decide +kernel : ∀ w ∈ wsX80, w ∈ lw_tbl) w h) ((by decide +kernel : ∀ w ∈ wsX80, goodWord w = true) w h)
theorem inX9 : ∀ w ∈ wsX90, w ∈ wsG := fun w h => wG ((by decide +kernel : ∀ w ∈ wsX90, w ∈ lw_tbl) w h) ((by decide +kernel : ∀ w ∈ wsX90, goodWord w = true) w h)
theorem inX10 : ∀ w ∈ wsX100, w ∈ wsG := fun w h => wG ((by decide +kernel : ∀ w ∈ wsX100, w ∈ lw_tbl) w h) ((by decide +kernel : ∀ w ∈ wsX100, goodWord w = true) w h)
theorem inX11 : ∀ w ∈ wsX110, w ∈ wsG := fun w h => wG ((by decide +kernel : ∀ w ∈ wsX110, w ∈ lw_tbl) w h) ((by decide +kernel : ∀ w ∈ wsX110, goodWord w = true) w h)
theorem inX12 : ∀ w ∈ wsX120, w ∈ wsG := fun w h => wG ((by decide +kernel : ∀ w ∈ wsX120, w ∈ lw_tbl) w h) ((by decide +kernel : ∀ w ∈ wsX120, goodWord w = true) w h)
theorem kl_L_7 : Cond.classLink RL 7 RX11 ∈ wsG := wG (mT1 _ (List.mem_of_getElem? (i := 21) (by decide +kernel))) rfl
theorem ia_X11 : Cond.instantiable RX11 8 ∈ wsG := wG (mT1 _ (List.mem_of_getElem? (i := 22) (by decide +kernel))) rfl
theorem in_X11 : Cond.initialized RX11 ∈ wsG := wG (mT1 _ (List.mem_of_getElem? (i := 1) (by decide +kernel))) rfl
theorem kl_L_10 : Cond.classLink RL 10 RX12 ∈ wsG := wG (mT5 _ (List.mem_of_getElem? (i := 172) (by decide +kernel))) rfl
theorem ia_X12 : Cond.instantiable RX12 46 ∈ wsG := wG (mT5 _ (List.mem_of_getElem? (i := 173) (by decide +kernel))) rfl
theorem in_X12 : Cond.initialized RX12 ∈ wsG := wG (mT1 _ (List.mem_of_getElem? (i := 11) (by decide +kernel))) rfl
theorem ml_L_9 : Cond.methodLink RL 9 yX11_init ∈ wsG := wG (mT1 _ (List.mem_of_getElem? (i := 23) (by decide +kernel))) rfl
theorem im_X11_init : Cond.instanceMethod yX11_init ∈ wsG := wG (mT1 _ (List.mem_of_getElem? (i := 24) (by decide +kernel))) rfl
theorem co_X11_init : Cond.code yX11_init cX11_init 1 none ∈ wsG := wG (mT1 _ (List.mem_of_getElem? (i := 25) (by decide +kernel))) rfl
theorem ml_X11_1 : Cond.methodLink RX11 1 objectInit ∈ wsG := wG (mT1 _ (List.mem_of_getElem? (i := 26) (by decide +kernel))) rfl
theorem im_objinit : Cond.instanceMethod objectInit ∈ wsG := wG (mT1 _ (List.mem_of_getElem? (i := 27) (by decide +kernel))) rfl
theorem co_objinit : Cond.code objectInit ⟨#[0xb1]⟩ 1 none ∈ wsG := wG (mT1 _ (List.mem_of_getElem? (i := 28) (by decide +kernel))) rfl
theorem kl_X11_7 : Cond.classLink RX11 7 RX10 ∈ wsG := wG (mT1 _ (List.mem_of_getElem? (i := 29) (by decide +kernel))) rfl
theorem ia_X10 : Cond.instantiable RX10 17 ∈ wsG := wG (mT1 _ (List.mem_of_getElem? (i := 30) (by decide +kernel))) rfl
theorem in_X10 : Cond.initialized RX10 ∈ wsG := wG (mT1 _ (List.mem_of_getElem? (i := 2) (by decide +kernel))) rfl
theorem fl_X11_10 : Cond.fieldLink RX11 10 "PointFirst" "now" "LPointFirst$World;" ∈ wsG := wG (mT2 _ (List.mem_of_getElem? (i := 110) (by decide +kernel))) rfl
theorem kl_X11_16 : Cond.classLink RX11 16 RX5 ∈ wsG := wG (mT1 _ (List.mem_of_getElem? (i := 194) (by decide +kernel))) rfl
theorem ia_X5 : Cond.instantiable RX5 7 ∈ wsG := wG (mT1 _ (List.mem_of_getElem? (i := 195) (by decide +kernel))) rfl
theorem in_X5 : Cond.initialized RX5 ∈ wsG := wG (mT1 _ (List.mem_of_getElem? (i := 5) (by decide +kernel))) rfl
theorem fl_X11_19 : Cond.fieldLink RX11 19 "PointFirst" "reader" "LPointFirst$Reader;" ∈ wsG := wG (mT2 _ (List.mem_of_getElem? (i := 111) (by decide +kernel))) rfl
theorem kl_X11_23 : Cond.classLink RX11 23 RX7 ∈ wsG := wG (mT2 _ (List.mem_of_getElem? (i := 32) (by decide +kernel))) rfl
theorem ia_X7 : Cond.instantiable RX7 4 ∈ wsG := wG (mT2 _ (List.mem_of_getElem? (i := 33) (by decide +kernel))) rfl
theorem in_X7 : Cond.initialized RX7 ∈ wsG := wG (mT1 _ (List.mem_of_getElem? (i := 7) (by decide +kernel))) rfl
theorem fl_X11_26 : Cond.fieldLink RX11 26 "PointFirst" "thought" "LPointFirst$Thought;" ∈ wsG := wG (mT2 _ (List.mem_of_getElem? (i := 112) (by decide +kernel))) rfl
theorem kl_X11_30 : Cond.classLink RX11 30 RX0 ∈ wsG := wG (mT2 _ (List.mem_of_getElem? (i := 81) (by decide +kernel))) rfl
theorem ia_X0 : Cond.instantiable RX0 1 ∈ wsG := wG (mT2 _ (List.mem_of_getElem? (i := 82) (by decide +kernel))) rfl
theorem in_X0 : Cond.initialized RX0 ∈ wsG := wG (mT1 _ (List.mem_of_getElem? (i := 9) (by decide +kernel))) rfl
theorem fl_X11_33 : Cond.fieldLink RX11 33 "PointFirst" "arms" "LPointFirst$Arms;" ∈ wsG := wG (mT2 _ (List.mem_of_getElem? (i := 113) (by decide +kernel))) rfl
theorem kl_X11_37 : Cond.classLink RX11 37 RX4 ∈ wsG := wG (mT2 _ (List.mem_of_getElem? (i := 91) (by decide +kernel))) rfl
theorem ia_X4 : Cond.instantiable RX4 3 ∈ wsG := wG (mT2 _ (List.mem_of_getElem? (i := 92) (by decide +kernel))) rfl
theorem in_X4 : Cond.initialized RX4 ∈ wsG := wG (mT1 _ (List.mem_of_getElem? (i := 10) (by decide +kernel))) rfl
theorem fl_X11_40 : Cond.fieldLink RX11 40 "PointFirst" "past" "LPointFirst$Past;" ∈ wsG := wG (mT2 _ (List.mem_of_getElem? (i := 114) (by decide +kernel))) rfl
theorem ml_X11_9 : Cond.methodLink RX11 9 yX10_init ∈ wsG := wG (mT1 _ (List.mem_of_getElem? (i := 31) (by decide +kernel))) rfl
theorem im_X10_init : Cond.instanceMethod yX10_init ∈ wsG := wG (mT1 _ (List.mem_of_getElem? (i := 32) (by decide +kernel))) rfl
theorem co_X10_init : Cond.code yX10_init cX10_init 2 none ∈ wsG := wG (mT1 _ (List.mem_of_getElem? (i := 33) (by decide +kernel))) rfl
theorem ml_X10_3 : Cond.methodLink RX10 3 objectInit ∈ wsG := wG (mT1 _ (List.mem_of_getElem? (i := 34) (by decide +kernel))) rfl
theorem ac_int : Cond.arrayClass .int ∈ wsG := wG (mT1 _ (List.mem_of_getElem? (i := 70) (by decide +kernel))) rfl
theorem fl_X10_9 : Cond.fieldLink RX10 9 "PointFirst$World" "told" "[I" ∈ wsG := wG (mT1 _ (List.mem_of_getElem? (i := 138) (by decide +kernel))) rfl
theorem fl_X10_15 : Cond.fieldLink RX10 15 "PointFirst$World" "soft" "[I" ∈ wsG := wG (mT1 _ (List.mem_of_getElem? (i := 141) (by decide +kernel))) rfl
theorem fl_X10_18 : Cond.fieldLink RX10 18 "PointFirst$World" "tip" "[I" ∈ wsG := wG (mT1 _ (List.mem_of_getElem? (i := 144) (by decide +kernel))) rfl
theorem kl_X10_21 : Cond.classLink RX10 21 RX8 ∈ wsG := wG (mT1 _ (List.mem_of_getElem? (i := 35) (by decide +kernel))) rfl
theorem fl_X10_23 : Cond.fieldLink RX10 23 "PointFirst$World" "team" "[LPointFirst$Thrower;" ∈ wsG := wG (mT1 _ (List.mem_of_getElem? (i := 147) (by decide +kernel))) rfl
theorem fl_X10_27 : Cond.fieldLink RX10 27 "PointFirst$World" "lineOf" "[I" ∈ wsG := wG (mT1 _ (List.mem_of_getElem? (i := 148) (by decide +kernel))) rfl
theorem fl_X10_30 : Cond.fieldLink RX10 30 "PointFirst$World" "minute" "[I" ∈ wsG := wG (mT1 _ (List.mem_of_getElem? (i := 149) (by decide +kernel))) rfl
theorem kl_X10_33 : Cond.classLink RX10 33 RX3 ∈ wsG := wG (mT1 _ (List.mem_of_getElem? (i := 37) (by decide +kernel))) rfl
theorem ia_X3 : Cond.instantiable RX3 8 ∈ wsG := wG (mT1 _ (List.mem_of_getElem? (i := 38) (by decide +kernel))) rfl
theorem in_X3 : Cond.initialized RX3 ∈ wsG := wG (mT1 _ (List.mem_of_getElem? (i := 3) (by decide +kernel))) rfl
theorem fl_X10_36 : Cond.fieldLink RX10 36 "PointFirst$World" "flight" "LPointFirst$Law;" ∈ wsG := wG (mT1 _ (List.mem_of_getElem? (i := 151) (by decide +kernel))) rfl
theorem fl_X10_40 : Cond.fieldLink RX10 40 "PointFirst$World" "arms" "LPointFirst$Law;" ∈ wsG := wG (mT1 _ (List.mem_of_getElem? (i := 154) (by decide +kernel))) rfl
theorem fl_X10_43 : Cond.fieldLink RX10 43 "PointFirst$World" "training" "LPointFirst$Law;" ∈ wsG := wG (mT1 _ (List.mem_of_getElem? (i := 157) (by decide +kernel))) rfl
theorem ia_X8 : Cond.instantiable RX8 7 ∈ wsG := wG (mT1 _ (List.mem_of_getElem? (i := 71) (by decide +kernel))) rfl
theorem in_X8 : Cond.initialized RX8 ∈ wsG := wG (mT1 _ (List.mem_of_getElem? (i := 4) (by decide +kernel))) rfl
theorem ml_X10_35 : Cond.methodLink RX10 35 yX3_init ∈ wsG := wG (mT1 _ (List.mem_of_getElem? (i := 39) (by decide +kernel))) rfl
theorem im_X3_init : Cond.instanceMethod yX3_init ∈ wsG := wG (mT1 _ (List.mem_of_getElem? (i := 40) (by decide +kernel))) rfl
theorem co_X3_init : Cond.code yX3_init cX3_init 1 none ∈ wsG := wG (mT1 _ (List.mem_of_getElem? (i := 41) (by decide +kernel))) rfl
theorem ml_X3_1 : Cond.methodLink RX3 1 objectInit ∈ wsG := wG (mT1 _ (List.mem_of_getElem? (i := 42) (by decide +kernel))) rfl
theorem fl_X3_9 : Cond.fieldLink RX3 9 "PointFirst$Law" "word" "[I" ∈ wsG := wG (mT1 _ (List.mem_of_getElem? (i := 47) (by decide +kernel))) rfl
theorem fl_X3_13 : Cond.fieldLink RX3 13 "PointFirst$Law" "from" "[I" ∈ wsG := wG (mT1 _ (List.mem_of_getElem? (i := 48) (by decide +kernel))) rfl
theorem fl_X3_16 : Cond.fieldLink RX3 16 "PointFirst$Law" "when" "[I" ∈ wsG := wG (mT1 _ (List.mem_of_getElem? (i := 49) (by decide +kernel))) rfl
theorem fl_X3_19 : Cond.fieldLink RX3 19 "PointFirst$Law" "to" "[I" ∈ wsG := wG (mT1 _ (List.mem_of_getElem? (i := 50) (by decide +kernel))) rfl
theorem fl_X3_24 : Cond.fieldLink RX3 24 "PointFirst$Law" "step" "[I" ∈ wsG := wG (mT1 _ (List.mem_of_getElem? (i := 51) (by decide +kernel))) rfl
theorem fl_X3_27 : Cond.fieldLink RX3 27 "PointFirst$Law" "stack" "[I" ∈ wsG := wG (mT1 _ (List.mem_of_getElem? (i := 52) (by decide +kernel))) rfl
theorem ml_X10_46 : Cond.methodLink RX10 46 yX8_init ∈ wsG := wG (mT1 _ (List.mem_of_getElem? (i := 72) (by decide +kernel))) rfl
theorem im_X8_init : Cond.instanceMethod yX8_init ∈ wsG := wG (mT1 _ (List.mem_of_getElem? (i := 73) (by decide +kernel))) rfl
theorem co_X8_init : Cond.code yX8_init cX8_init 1 none ∈ wsG := wG (mT1 _ (List.mem_of_getElem? (i := 74) (by decide +kernel))) rfl
theorem ml_X8_3 : Cond.methodLink RX8 3 objectInit ∈ wsG := wG (mT1 _ (List.mem_of_getElem? (i := 75) (by decide +kernel))) rfl
theorem fl_X8_11 : Cond.fieldLink RX8 11 "PointFirst$Thrower" "plan" "[I" ∈ wsG := wG (mT1 _ (List.mem_of_getElem? (i := 100) (by decide +kernel))) rfl
theorem ml_X11_18 : Cond.methodLink RX11 18 yX5_init ∈ wsG := wG (mT1 _ (List.mem_of_getElem? (i := 196) (by decide +kernel))) rfl
theorem im_X5_init : Cond.instanceMethod yX5_init ∈ wsG := wG (mT1 _ (List.mem_of_getElem? (i := 197) (by decide +kernel))) rfl
theorem co_X5_init : Cond.code yX5_init cX5_init 1 none ∈ wsG := wG (mT1 _ (List.mem_of_getElem? (i := 198) (by decide +kernel))) rfl
theorem ml_X5_5 : Cond.methodLink RX5 5 objectInit ∈ wsG := wG (mT1 _ (List.mem_of_getElem? (i := 199) (by decide +kernel))) rfl
theorem kl_X5_1 : Cond.classLink RX5 1 RX6 ∈ wsG := wG (mT1 _ (List.mem_of_getElem? (i := 200) (by decide +kernel))) rfl
theorem ia_X6 : Cond.instantiable RX6 10 ∈ wsG := wG (mT1 _ (List.mem_of_getElem? (i := 201) (by decide +kernel))) rfl
theorem in_X6 : Cond.initialized RX6 ∈ wsG := wG (mT1 _ (List.mem_of_getElem? (i := 6) (by decide +kernel))) rfl
theorem fl_X5_12 : Cond.fieldLink RX5 12 "PointFirst$Reader" "tape" "LPointFirst$Tape;" ∈ wsG := wG (mT2 _ (List.mem_of_getElem? (i := 4) (by decide +kernel))) rfl
theorem fl_X5_18 : Cond.fieldLink RX5 18 "PointFirst$Reader" "faultPlace" "I" ∈ wsG := wG (mT2 _ (List.mem_of_getElem? (i := 8) (by decide +kernel))) rfl
theorem kl_X5_22 : Cond.classLink RX5 22 RX3 ∈ wsG := wG (mT2 _ (List.mem_of_getElem? (i := 2) (by decide +kernel))) rfl
theorem fl_X5_25 : Cond.fieldLink RX5 25 "PointFirst$Reader" "law" "LPointFirst$Law;" ∈ wsG := wG (mT2 _ (List.mem_of_getElem? (i := 10) (by decide +kernel))) rfl
theorem fl_X5_31 : Cond.fieldLink RX5 31 "PointFirst$Reader" "orders" "[I" ∈ wsG := wG (mT2 _ (List.mem_of_getElem? (i := 12) (by decide +kernel))) rfl
theorem ml_X5_11 : Cond.methodLink RX5 11 yX6_init ∈ wsG := wG (mT1 _ (List.mem_of_getElem? (i := 202) (by decide +kernel))) rfl
theorem im_X6_init : Cond.instanceMethod yX6_init ∈ wsG := wG (mT1 _ (List.mem_of_getElem? (i := 203) (by decide +kernel))) rfl
theorem co_X6_init : Cond.code yX6_init cX6_init 1 none ∈ wsG := wG (mT1 _ (List.mem_of_getElem? (i := 204) (by decide +kernel))) rfl
theorem ml_X6_3 : Cond.methodLink RX6 3 objectInit ∈ wsG := wG (mT1 _ (List.mem_of_getElem? (i := 205) (by decide +kernel))) rfl
theorem ac_byte : Cond.arrayClass .byte ∈ wsG := wG (mT2 _ (List.mem_of_getElem? (i := 1) (by decide +kernel))) rfl
theorem fl_X6_11 : Cond.fieldLink RX6 11 "PointFirst$Tape" "bytes" "[B" ∈ wsG := wG (mT1 _ (List.mem_of_getElem? (i := 214) (by decide +kernel))) rfl
theorem fl_X6_15 : Cond.fieldLink RX6 15 "PointFirst$Tape" "kinds" "[I" ∈ wsG := wG (mT1 _ (List.mem_of_getElem? (i := 217) (by decide +kernel))) rfl
theorem fl_X6_19 : Cond.fieldLink RX6 19 "PointFirst$Tape" "values" "[I" ∈ wsG := wG (mT1 _ (List.mem_of_getElem? (i := 218) (by decide +kernel))) rfl
theorem fl_X6_22 : Cond.fieldLink RX6 22 "PointFirst$Tape" "places" "[I" ∈ wsG := wG (mT1 _ (List.mem_of_getElem? (i := 219) (by decide +kernel))) rfl
theorem ml_X5_24 : Cond.methodLink RX5 24 yX3_init ∈ wsG := wG (mT2 _ (List.mem_of_getElem? (i := 3) (by decide +kernel))) rfl
theorem ml_X11_25 : Cond.methodLink RX11 25 yX7_init ∈ wsG := wG (mT2 _ (List.mem_of_getElem? (i := 34) (by decide +kernel))) rfl
theorem im_X7_init : Cond.instanceMethod yX7_init ∈ wsG := wG (mT2 _ (List.mem_of_getElem? (i := 35) (by decide +kernel))) rfl
theorem co_X7_init : Cond.code yX7_init cX7_init 1 none ∈ wsG := wG (mT2 _ (List.mem_of_getElem? (i := 36) (by decide +kernel))) rfl
theorem ml_X7_3 : Cond.methodLink RX7 3 objectInit ∈ wsG := wG (mT2 _ (List.mem_of_getElem? (i := 37) (by decide +kernel))) rfl
theorem kl_X7_9 : Cond.classLink RX7 9 RX2 ∈ wsG := wG (mT2 _ (List.mem_of_getElem? (i := 38) (by decide +kernel))) rfl
theorem ia_X2 : Cond.instantiable RX2 5 ∈ wsG := wG (mT2 _ (List.mem_of_getElem? (i := 39) (by decide +kernel))) rfl
theorem in_X2 : Cond.initialized RX2 ∈ wsG := wG (mT1 _ (List.mem_of_getElem? (i := 8) (by decide +kernel))) rfl
theorem fl_X7_12 : Cond.fieldLink RX7 12 "PointFirst$Thought" "flight" "LPointFirst$Flight;" ∈ wsG := wG (mT2 _ (List.mem_of_getElem? (i := 65) (by decide +kernel))) rfl
theorem fl_X7_18 : Cond.fieldLink RX7 18 "PointFirst$Thought" "fars" "[I" ∈ wsG := wG (mT2 _ (List.mem_of_getElem? (i := 71) (by decide +kernel))) rfl
theorem ml_X7_11 : Cond.methodLink RX7 11 yX2_init ∈ wsG := wG (mT2 _ (List.mem_of_getElem? (i := 40) (by decide +kernel))) rfl
theorem im_X2_init : Cond.instanceMethod yX2_init ∈ wsG := wG (mT2 _ (List.mem_of_getElem? (i := 41) (by decide +kernel))) rfl
theorem co_X2_init : Cond.code yX2_init cX2_init 1 none ∈ wsG := wG (mT2 _ (List.mem_of_getElem? (i := 42) (by decide +kernel))) rfl
theorem ml_X2_3 : Cond.methodLink RX2 3 objectInit ∈ wsG := wG (mT2 _ (List.mem_of_getElem? (i := 43) (by decide +kernel))) rfl
theorem fl_X2_9 : Cond.fieldLink RX2 9 "PointFirst$Flight" "is" "[I" ∈ wsG := wG (mT2 _ (List.mem_of_getElem? (i := 44) (by decide +kernel))) rfl
theorem ml_X11_32 : Cond.methodLink RX11 32 yX0_init ∈ wsG := wG (mT2 _ (List.mem_of_getElem? (i := 83) (by decide +kernel))) rfl
theorem im_X0_init : Cond.instanceMethod yX0_init ∈ wsG := wG (mT2 _ (List.mem_of_getElem? (i := 84) (by decide +kernel))) rfl
theorem co_X0_init : Cond.code yX0_init cX0_init 1 none ∈ wsG := wG (mT2 _ (List.mem_of_getElem? (i := 85) (by decide +kernel))) rfl
theorem ml_X0_1 : Cond.methodLink RX0 1 objectInit ∈ wsG := wG (mT2 _ (List.mem_of_getElem? (i := 86) (by decide +kernel))) rfl
theorem fl_X0_7 : Cond.fieldLink RX0 7 "PointFirst$Arms" "asked" "[I" ∈ wsG := wG (mT2 _ (List.mem_of_getElem? (i := 87) (by decide +kernel))) rfl
theorem ml_X11_39 : Cond.methodLink RX11 39 yX4_init ∈ wsG := wG (mT2 _ (List.mem_of_getElem? (i := 93) (by decide +kernel))) rfl
theorem im_X4_init : Cond.instanceMethod yX4_init ∈ wsG := wG (mT2 _ (List.mem_of_getElem? (i := 94) (by decide +kernel))) rfl
theorem co_X4_init : Cond.code yX4_init cX4_init 1 none ∈ wsG := wG (mT2 _ (List.mem_of_getElem? (i := 95) (by decide +kernel))) rfl
theorem ml_X4_1 : Cond.methodLink RX4 1 objectInit ∈ wsG := wG (mT2 _ (List.mem_of_getElem? (i := 96) (by decide +kernel))) rfl
theorem kl_X4_9 : Cond.classLink RX4 9 "[[I" ∈ wsG := wG (mT2 _ (List.mem_of_getElem? (i := 97) (by decide +kernel))) rfl
theorem fl_X4_11 : Cond.fieldLink RX4 11 "PointFirst$Past" "rows" "[[I" ∈ wsG := wG (mT2 _ (List.mem_of_getElem? (i := 102) (by decide +kernel))) rfl
theorem ml_L_12 : Cond.methodLink RL 12 yX12_init ∈ wsG := wG (mT5 _ (List.mem_of_getElem? (i := 174) (by decide +kernel))) rfl
theorem im_X12_init : Cond.instanceMethod yX12_init ∈ wsG := wG (mT5 _ (List.mem_of_getElem? (i := 175) (by decide +kernel))) rfl
theorem co_X12_init : Cond.code yX12_init cX12_init 1 none ∈ wsG := wG (mT5 _ (List.mem_of_getElem? (i := 176) (by decide +kernel))) rfl
theorem ml_X12_1 : Cond.methodLink RX12 1 objectInit ∈ wsG := wG (mT5 _ (List.mem_of_getElem? (i := 177) (by decide +kernel))) rfl
theorem fl_X12_7 : Cond.fieldLink RX12 7 "PointFirstModel" "w" "[I" ∈ wsG := wG (mT5 _ (List.mem_of_getElem? (i := 179) (by decide +kernel))) rfl
theorem fl_X12_13 : Cond.fieldLink RX12 13 "PointFirstModel" "kept" "[I" ∈ wsG := wG (mT5 _ (List.mem_of_getElem? (i := 180) (by decide +kernel))) rfl
theorem fl_X12_16 : Cond.fieldLink RX12 16 "PointFirstModel" "back" "[I" ∈ wsG := wG (mT5 _ (List.mem_of_getElem? (i := 181) (by decide +kernel))) rfl
theorem fl_X12_19 : Cond.fieldLink RX12 19 "PointFirstModel" "freshLine" "[I" ∈ wsG := wG (mT5 _ (List.mem_of_getElem? (i := 184) (by decide +kernel))) rfl
theorem fl_X12_22 : Cond.fieldLink RX12 22 "PointFirstModel" "freshStep" "[I" ∈ wsG := wG (mT5 _ (List.mem_of_getElem? (i := 185) (by decide +kernel))) rfl
theorem fl_X12_25 : Cond.fieldLink RX12 25 "PointFirstModel" "freshOrder" "[I" ∈ wsG := wG (mT5 _ (List.mem_of_getElem? (i := 186) (by decide +kernel))) rfl
theorem fl_X12_28 : Cond.fieldLink RX12 28 "PointFirstModel" "tape" "[I" ∈ wsG := wG (mT5 _ (List.mem_of_getElem? (i := 187) (by decide +kernel))) rfl
theorem fl_X12_31 : Cond.fieldLink RX12 31 "PointFirstModel" "pile" "[I" ∈ wsG := wG (mT5 _ (List.mem_of_getElem? (i := 188) (by decide +kernel))) rfl
theorem fl_X12_34 : Cond.fieldLink RX12 34 "PointFirstModel" "facts" "[I" ∈ wsG := wG (mT5 _ (List.mem_of_getElem? (i := 189) (by decide +kernel))) rfl
theorem fl_X12_37 : Cond.fieldLink RX12 37 "PointFirstModel" "lying" "[I" ∈ wsG := wG (mT5 _ (List.mem_of_getElem? (i := 190) (by decide +kernel))) rfl
theorem fl_X12_40 : Cond.fieldLink RX12 40 "PointFirstModel" "faultPlace" "I" ∈ wsG := wG (mT5 _ (List.mem_of_getElem? (i := 204) (by decide +kernel))) rfl
theorem cn_X12_44 : Cond.constant RX12 44 (100100) ∈ wsG := wG (mT5 _ (List.mem_of_getElem? (i := 178) (by decide +kernel))) rfl
theorem fl_X12_45 : Cond.fieldLink RX12 45 "PointFirstModel" "reach" "[I" ∈ wsG := wG (mT5 _ (List.mem_of_getElem? (i := 219) (by decide +kernel))) rfl
theorem fl_X12_48 : Cond.fieldLink RX12 48 "PointFirstModel" "reachNext" "[I" ∈ wsG := wG (mT5 _ (List.mem_of_getElem? (i := 220) (by decide +kernel))) rfl
theorem ac_boolean : Cond.arrayClass .boolean ∈ wsG := wG (mT5 _ (List.mem_of_getElem? (i := 40) (by decide +kernel))) rfl
theorem fl_X12_51 : Cond.fieldLink RX12 51 "PointFirstModel" "mark" "[Z" ∈ wsG := wG (mT5 _ (List.mem_of_getElem? (i := 221) (by decide +kernel))) rfl
theorem fl_X12_55 : Cond.fieldLink RX12 55 "PointFirstModel" "chances" "[I" ∈ wsG := wG (mT5 _ (List.mem_of_getElem? (i := 222) (by decide +kernel))) rfl
theorem fl_X12_58 : Cond.fieldLink RX12 58 "PointFirstModel" "firsts" "[I" ∈ wsG := wG (mT5 _ (List.mem_of_getElem? (i := 223) (by decide +kernel))) rfl
theorem fl_X12_61 : Cond.fieldLink RX12 61 "PointFirstModel" "reached" "[I" ∈ wsG := wG (mT5 _ (List.mem_of_getElem? (i := 224) (by decide +kernel))) rfl
theorem ml_L_13 : Cond.methodLink RL 13 yX11_state ∈ wsG := wG (mT2 _ (List.mem_of_getElem? (i := 135) (by decide +kernel))) rfl
theorem im_X11_state : Cond.instanceMethod yX11_state ∈ wsG := wG (mT2 _ (List.mem_of_getElem? (i := 136) (by decide +kernel))) rfl
theorem se_X11_state : Cond.selects RX11 yX11_state yX11_state ∈ wsG := wG (mT2 _ (List.mem_of_getElem? (i := 137) (by decide +kernel))) rfl
theorem co_X11_state : Cond.code yX11_state cX11_state 3 (some .int) ∈ wsG := wG (mT2 _ (List.mem_of_getElem? (i := 138) (by decide +kernel))) rfl
theorem fl_X11_44 : Cond.fieldLink RX11 44 "PointFirst$World" "state" "I" ∈ wsG := wG (mT1 _ (List.mem_of_getElem? (i := 118) (by decide +kernel))) rfl
theorem ml_X11_48 : Cond.methodLink RX11 48 yX4_forget ∈ wsG := wG (mT2 _ (List.mem_of_getElem? (i := 139) (by decide +kernel))) rfl
theorem im_X4_forget : Cond.instanceMethod yX4_forget ∈ wsG := wG (mT2 _ (List.mem_of_getElem? (i := 140) (by decide +kernel))) rfl
theorem se_X4_forget : Cond.selects RX4 yX4_forget yX4_forget ∈ wsG := wG (mT2 _ (List.mem_of_getElem? (i := 141) (by decide +kernel))) rfl
theorem co_X4_forget : Cond.code yX4_forget cX4_forget 1 none ∈ wsG := wG (mT2 _ (List.mem_of_getElem? (i := 142) (by decide +kernel))) rfl
theorem fl_X4_14 : Cond.fieldLink RX4 14 "PointFirst$Past" "count" "I" ∈ wsG := wG (mT2 _ (List.mem_of_getElem? (i := 99) (by decide +kernel))) rfl
theorem ml_L_17 : Cond.methodLink RL 17 yX12_state ∈ wsG := wG (mT6 _ (List.mem_of_getElem? (i := 78) (by decide +kernel))) rfl
theorem im_X12_state : Cond.instanceMethod yX12_state ∈ wsG := wG (mT6 _ (List.mem_of_getElem? (i := 79) (by decide +kernel))) rfl
theorem se_X12_state : Cond.selects RX12 yX12_state yX12_state ∈ wsG := wG (mT6 _ (List.mem_of_getElem? (i := 80) (by decide +kernel))) rfl
theorem co_X12_state : Cond.code yX12_state cX12_state 3 (some .int) ∈ wsG := wG (mT6 _ (List.mem_of_getElem? (i := 81) (by decide +kernel))) rfl
theorem ml_X12_78 : Cond.methodLink RX12 78 yX12_forgets ∈ wsG := wG (mT6 _ (List.mem_of_getElem? (i := 82) (by decide +kernel))) rfl
theorem im_X12_forgets : Cond.instanceMethod yX12_forgets ∈ wsG := wG (mT6 _ (List.mem_of_getElem? (i := 84) (by decide +kernel))) rfl
theorem se_X12_forgets : Cond.selects RX12 yX12_forgets yX12_forgets ∈ wsG := wG (mP3 _ (List.mem_of_getElem? (i := 1) (by decide +kernel))) rfl
theorem co_X12_forgets : Cond.code yX12_forgets cX12_forgets 1 none ∈ wsG := wG (mT6 _ (List.mem_of_getElem? (i := 85) (by decide +kernel))) rfl
theorem fl_X12_75 : Cond.fieldLink RX12 75 "PointFirstModel" "backMany" "I" ∈ wsG := wG (mT5 _ (List.mem_of_getElem? (i := 182) (by decide +kernel))) rfl
theorem ml_L_18 : Cond.methodLink RL 18 yX11_spear ∈ wsG := wG (mT2 _ (List.mem_of_getElem? (i := 143) (by decide +kernel))) rfl
theorem im_X11_spear : Cond.instanceMethod yX11_spear ∈ wsG := wG (mT2 _ (List.mem_of_getElem? (i := 144) (by decide +kernel))) rfl
theorem se_X11_spear : Cond.selects RX11 yX11_spear yX11_spear ∈ wsG := wG (mT2 _ (List.mem_of_getElem? (i := 145) (by decide +kernel))) rfl
theorem co_X11_spear : Cond.code yX11_spear cX11_spear 3 (some .int) ∈ wsG := wG (mT2 _ (List.mem_of_getElem? (i := 146) (by decide +kernel))) rfl
theorem fl_X11_55 : Cond.fieldLink RX11 55 "PointFirst$World" "spears" "I" ∈ wsG := wG (mT1 _ (List.mem_of_getElem? (i := 130) (by decide +kernel))) rfl
theorem ml_X11_51 : Cond.methodLink RX11 51 yX11_within ∈ wsG := wG (mT2 _ (List.mem_of_getElem? (i := 147) (by decide +kernel))) rfl
theorem st_X11_within : Cond.static yX11_within ∈ wsG := wG (mT2 _ (List.mem_of_getElem? (i := 148) (by decide +kernel))) rfl
theorem co_X11_within : Cond.code yX11_within cX11_within 3 (some .boolean) ∈ wsG := wG (mT2 _ (List.mem_of_getElem? (i := 149) (by decide +kernel))) rfl
theorem ml_X11_58 : Cond.methodLink RX11 58 yX10_addSpear ∈ wsG := wG (mT2 _ (List.mem_of_getElem? (i := 150) (by decide +kernel))) rfl
theorem im_X10_addSpear : Cond.instanceMethod yX10_addSpear ∈ wsG := wG (mT2 _ (List.mem_of_getElem? (i := 151) (by decide +kernel))) rfl
theorem se_X10_addSpear : Cond.selects RX10 yX10_addSpear yX10_addSpear ∈ wsG := wG (mT2 _ (List.mem_of_getElem? (i := 152) (by decide +kernel))) rfl
theorem co_X10_addSpear : Cond.code yX10_addSpear cX10_addSpear 3 (some .int) ∈ wsG := wG (mT2 _ (List.mem_of_getElem? (i := 153) (by decide +kernel))) rfl
theorem fl_X10_60 : Cond.fieldLink RX10 60 "PointFirst$World" "spears" "I" ∈ wsG := wG (mT1 _ (List.mem_of_getElem? (i := 129) (by decide +kernel))) rfl
theorem ml_L_22 : Cond.methodLink RL 22 yX12_spear ∈ wsG := wG (mT6 _ (List.mem_of_getElem? (i := 86) (by decide +kernel))) rfl
theorem im_X12_spear : Cond.instanceMethod yX12_spear ∈ wsG := wG (mT6 _ (List.mem_of_getElem? (i := 87) (by decide +kernel))) rfl
theorem se_X12_spear : Cond.selects RX12 yX12_spear yX12_spear ∈ wsG := wG (mT6 _ (List.mem_of_getElem? (i := 88) (by decide +kernel))) rfl
theorem co_X12_spear : Cond.code yX12_spear cX12_spear 4 (some .int) ∈ wsG := wG (mT6 _ (List.mem_of_getElem? (i := 89) (by decide +kernel))) rfl
theorem ml_X12_71 : Cond.methodLink RX12 71 yX12_isIn ∈ wsG := wG (mT6 _ (List.mem_of_getElem? (i := 90) (by decide +kernel))) rfl
theorem st_X12_isIn : Cond.static yX12_isIn ∈ wsG := wG (mT6 _ (List.mem_of_getElem? (i := 91) (by decide +kernel))) rfl
theorem co_X12_isIn : Cond.code yX12_isIn cX12_isIn 3 (some .boolean) ∈ wsG := wG (mT6 _ (List.mem_of_getElem? (i := 92) (by decide +kernel))) rfl
theorem ml_L_23 : Cond.methodLink RL 23 yX11_thrower ∈ wsG := wG (mT2 _ (List.mem_of_getElem? (i := 154) (by decide +kernel))) rfl
theorem im_X11_thrower : Cond.instanceMethod yX11_thrower ∈ wsG := wG (mT2 _ (List.mem_of_getElem? (i := 155) (by decide +kernel))) rfl
theorem se_X11_thrower : Cond.selects RX11 yX11_thrower yX11_thrower ∈ wsG := wG (mT2 _ (List.mem_of_getElem? (i := 156) (by decide +kernel))) rfl
theorem co_X11_thrower : Cond.code yX11_thrower cX11_thrower 2 (some .int) ∈ wsG := wG (mT2 _ (List.mem_of_getElem? (i := 157) (by decide +kernel))) rfl
theorem fl_X11_62 : Cond.fieldLink RX11 62 "PointFirst$World" "throwers" "I" ∈ wsG := wG (mT1 _ (List.mem_of_getElem? (i := 132) (by decide +kernel))) rfl
theorem ml_X11_65 : Cond.methodLink RX11 65 yX10_begun ∈ wsG := wG (mT2 _ (List.mem_of_getElem? (i := 158) (by decide +kernel))) rfl
theorem im_X10_begun : Cond.instanceMethod yX10_begun ∈ wsG := wG (mT2 _ (List.mem_of_getElem? (i := 159) (by decide +kernel))) rfl
theorem se_X10_begun : Cond.selects RX10 yX10_begun yX10_begun ∈ wsG := wG (mT2 _ (List.mem_of_getElem? (i := 160) (by decide +kernel))) rfl
theorem co_X10_begun : Cond.code yX10_begun cX10_begun 1 (some .boolean) ∈ wsG := wG (mT2 _ (List.mem_of_getElem? (i := 161) (by decide +kernel))) rfl
theorem fl_X10_54 : Cond.fieldLink RX10 54 "PointFirst$World" "round" "I" ∈ wsG := wG (mT1 _ (List.mem_of_getElem? (i := 122) (by decide +kernel))) rfl
theorem fl_X10_57 : Cond.fieldLink RX10 57 "PointFirst$World" "turn" "I" ∈ wsG := wG (mT1 _ (List.mem_of_getElem? (i := 126) (by decide +kernel))) rfl
theorem ml_X11_69 : Cond.methodLink RX11 69 yX10_addThrower ∈ wsG := wG (mT2 _ (List.mem_of_getElem? (i := 162) (by decide +kernel))) rfl
theorem im_X10_addThrower : Cond.instanceMethod yX10_addThrower ∈ wsG := wG (mT2 _ (List.mem_of_getElem? (i := 163) (by decide +kernel))) rfl
theorem se_X10_addThrower : Cond.selects RX10 yX10_addThrower yX10_addThrower ∈ wsG := wG (mT2 _ (List.mem_of_getElem? (i := 164) (by decide +kernel))) rfl
theorem co_X10_addThrower : Cond.code yX10_addThrower cX10_addThrower 2 (some .int) ∈ wsG := wG (mT2 _ (List.mem_of_getElem? (i := 165) (by decide +kernel))) rfl
theorem fl_X10_63 : Cond.fieldLink RX10 63 "PointFirst$World" "throwers" "I" ∈ wsG := wG (mT1 _ (List.mem_of_getElem? (i := 131) (by decide +kernel))) rfl
theorem ml_X10_85 : Cond.methodLink RX10 85 yX8_begin ∈ wsG := wG (mT2 _ (List.mem_of_getElem? (i := 166) (by decide +kernel))) rfl
theorem im_X8_begin : Cond.instanceMethod yX8_begin ∈ wsG := wG (mT2 _ (List.mem_of_getElem? (i := 167) (by decide +kernel))) rfl
theorem se_X8_begin : Cond.selects RX8 yX8_begin yX8_begin ∈ wsG := wG (mT2 _ (List.mem_of_getElem? (i := 168) (by decide +kernel))) rfl
theorem co_X8_begin : Cond.code yX8_begin cX8_begin 2 none ∈ wsG := wG (mT2 _ (List.mem_of_getElem? (i := 169) (by decide +kernel))) rfl
theorem fl_X8_15 : Cond.fieldLink RX8 15 "PointFirst$Thrower" "power" "I" ∈ wsG := wG (mT1 _ (List.mem_of_getElem? (i := 76) (by decide +kernel))) rfl
theorem fl_X8_19 : Cond.fieldLink RX8 19 "PointFirst$Thrower" "wear" "I" ∈ wsG := wG (mT1 _ (List.mem_of_getElem? (i := 80) (by decide +kernel))) rfl
theorem fl_X8_22 : Cond.fieldLink RX8 22 "PointFirst$Thrower" "orders" "I" ∈ wsG := wG (mT1 _ (List.mem_of_getElem? (i := 95) (by decide +kernel))) rfl
theorem ml_X8_25 : Cond.methodLink RX8 25 yX8_beginMeet ∈ wsG := wG (mT2 _ (List.mem_of_getElem? (i := 170) (by decide +kernel))) rfl
theorem im_X8_beginMeet : Cond.instanceMethod yX8_beginMeet ∈ wsG := wG (mT2 _ (List.mem_of_getElem? (i := 171) (by decide +kernel))) rfl
theorem se_X8_beginMeet : Cond.selects RX8 yX8_beginMeet yX8_beginMeet ∈ wsG := wG (mT2 _ (List.mem_of_getElem? (i := 172) (by decide +kernel))) rfl
theorem co_X8_beginMeet : Cond.code yX8_beginMeet cX8_beginMeet 1 none ∈ wsG := wG (mT2 _ (List.mem_of_getElem? (i := 173) (by decide +kernel))) rfl
theorem fl_X8_28 : Cond.fieldLink RX8 28 "PointFirst$Thrower" "best" "I" ∈ wsG := wG (mT1 _ (List.mem_of_getElem? (i := 86) (by decide +kernel))) rfl
theorem fl_X8_31 : Cond.fieldLink RX8 31 "PointFirst$Thrower" "thrown" "I" ∈ wsG := wG (mT1 _ (List.mem_of_getElem? (i := 91) (by decide +kernel))) rfl
theorem fl_X8_34 : Cond.fieldLink RX8 34 "PointFirst$Thrower" "next" "I" ∈ wsG := wG (mT1 _ (List.mem_of_getElem? (i := 97) (by decide +kernel))) rfl
theorem ml_L_26 : Cond.methodLink RL 26 yX12_thrower ∈ wsG := wG (mT6 _ (List.mem_of_getElem? (i := 93) (by decide +kernel))) rfl
theorem im_X12_thrower : Cond.instanceMethod yX12_thrower ∈ wsG := wG (mT6 _ (List.mem_of_getElem? (i := 94) (by decide +kernel))) rfl
theorem se_X12_thrower : Cond.selects RX12 yX12_thrower yX12_thrower ∈ wsG := wG (mT6 _ (List.mem_of_getElem? (i := 95) (by decide +kernel))) rfl
theorem co_X12_thrower : Cond.code yX12_thrower cX12_thrower 4 (some .int) ∈ wsG := wG (mT6 _ (List.mem_of_getElem? (i := 96) (by decide +kernel))) rfl
theorem ml_X12_83 : Cond.methodLink RX12 83 yX12_gives ∈ wsG := wG (mT6 _ (List.mem_of_getElem? (i := 97) (by decide +kernel))) rfl
theorem im_X12_gives : Cond.instanceMethod yX12_gives ∈ wsG := wG (mT6 _ (List.mem_of_getElem? (i := 99) (by decide +kernel))) rfl
theorem se_X12_gives : Cond.selects RX12 yX12_gives yX12_gives ∈ wsG := wG (mP3 _ (List.mem_of_getElem? (i := 2) (by decide +kernel))) rfl
theorem co_X12_gives : Cond.code yX12_gives cX12_gives 4 none ∈ wsG := wG (mT6 _ (List.mem_of_getElem? (i := 100) (by decide +kernel))) rfl
theorem ml_L_27 : Cond.methodLink RL 27 yX11_set ∈ wsG := wG (mT2 _ (List.mem_of_getElem? (i := 174) (by decide +kernel))) rfl
theorem im_X11_set : Cond.instanceMethod yX11_set ∈ wsG := wG (mT2 _ (List.mem_of_getElem? (i := 175) (by decide +kernel))) rfl
theorem se_X11_set : Cond.selects RX11 yX11_set yX11_set ∈ wsG := wG (mT2 _ (List.mem_of_getElem? (i := 176) (by decide +kernel))) rfl
theorem co_X11_set : Cond.code yX11_set cX11_set 5 (some .boolean) ∈ wsG := wG (mT2 _ (List.mem_of_getElem? (i := 177) (by decide +kernel))) rfl
theorem ml_X11_73 : Cond.methodLink RX11 73 yX10_tell ∈ wsG := wG (mT2 _ (List.mem_of_getElem? (i := 178) (by decide +kernel))) rfl
theorem im_X10_tell : Cond.instanceMethod yX10_tell ∈ wsG := wG (mT2 _ (List.mem_of_getElem? (i := 179) (by decide +kernel))) rfl
theorem se_X10_tell : Cond.selects RX10 yX10_tell yX10_tell ∈ wsG := wG (mT2 _ (List.mem_of_getElem? (i := 180) (by decide +kernel))) rfl
theorem co_X10_tell : Cond.code yX10_tell cX10_tell 4 (some .boolean) ∈ wsG := wG (mT2 _ (List.mem_of_getElem? (i := 181) (by decide +kernel))) rfl
theorem ml_X11_77 : Cond.methodLink RX11 77 yX11_tellThrower ∈ wsG := wG (mT2 _ (List.mem_of_getElem? (i := 183) (by decide +kernel))) rfl
theorem im_X11_tellThrower : Cond.instanceMethod yX11_tellThrower ∈ wsG := wG (mT2 _ (List.mem_of_getElem? (i := 185) (by decide +kernel))) rfl
theorem se_X11_tellThrower : Cond.selects RX11 yX11_tellThrower yX11_tellThrower ∈ wsG := wG (mP1 _ (List.mem_of_getElem? (i := 0) (by decide +kernel))) rfl
theorem co_X11_tellThrower : Cond.code yX11_tellThrower cX11_tellThrower 5 (some .boolean) ∈ wsG := wG (mT2 _ (List.mem_of_getElem? (i := 186) (by decide +kernel))) rfl
theorem fl_X11_84 : Cond.fieldLink RX11 84 "PointFirst$Thrower" "power" "I" ∈ wsG := wG (mT1 _ (List.mem_of_getElem? (i := 79) (by decide +kernel))) rfl
theorem fl_X11_89 : Cond.fieldLink RX11 89 "PointFirst$Thrower" "wear" "I" ∈ wsG := wG (mT1 _ (List.mem_of_getElem? (i := 84) (by decide +kernel))) rfl
theorem ml_X11_80 : Cond.methodLink RX11 80 yX10_one ∈ wsG := wG (mT2 _ (List.mem_of_getElem? (i := 187) (by decide +kernel))) rfl
theorem im_X10_one : Cond.instanceMethod yX10_one ∈ wsG := wG (mT2 _ (List.mem_of_getElem? (i := 188) (by decide +kernel))) rfl
theorem se_X10_one : Cond.selects RX10 yX10_one yX10_one ∈ wsG := wG (mT2 _ (List.mem_of_getElem? (i := 189) (by decide +kernel))) rfl
theorem co_X10_one : Cond.code yX10_one cX10_one 2 (some (.object "PointFirst$Thrower")) ∈ wsG := wG (mT2 _ (List.mem_of_getElem? (i := 190) (by decide +kernel))) rfl
theorem ml_L_31 : Cond.methodLink RL 31 yX12_set ∈ wsG := wG (mT6 _ (List.mem_of_getElem? (i := 101) (by decide +kernel))) rfl
theorem im_X12_set : Cond.instanceMethod yX12_set ∈ wsG := wG (mT6 _ (List.mem_of_getElem? (i := 102) (by decide +kernel))) rfl
theorem se_X12_set : Cond.selects RX12 yX12_set yX12_set ∈ wsG := wG (mT6 _ (List.mem_of_getElem? (i := 103) (by decide +kernel))) rfl
theorem co_X12_set : Cond.code yX12_set cX12_set 4 (some .boolean) ∈ wsG := wG (mT6 _ (List.mem_of_getElem? (i := 104) (by decide +kernel))) rfl
theorem ml_X12_87 : Cond.methodLink RX12 87 yX12_isThrower ∈ wsG := wG (mT6 _ (List.mem_of_getElem? (i := 105) (by decide +kernel))) rfl
theorem im_X12_isThrower : Cond.instanceMethod yX12_isThrower ∈ wsG := wG (mT6 _ (List.mem_of_getElem? (i := 107) (by decide +kernel))) rfl
theorem se_X12_isThrower : Cond.selects RX12 yX12_isThrower yX12_isThrower ∈ wsG := wG (mP3 _ (List.mem_of_getElem? (i := 3) (by decide +kernel))) rfl
theorem co_X12_isThrower : Cond.code yX12_isThrower cX12_isThrower 2 (some .boolean) ∈ wsG := wG (mT6 _ (List.mem_of_getElem? (i := 108) (by decide +kernel))) rfl
theorem ml_X12_91 : Cond.methodLink RX12 91 yX12_leastOf ∈ wsG := wG (mT6 _ (List.mem_of_getElem? (i := 109) (by decide +kernel))) rfl
theorem st_X12_leastOf : Cond.static yX12_leastOf ∈ wsG := wG (mT6 _ (List.mem_of_getElem? (i := 110) (by decide +kernel))) rfl
theorem co_X12_leastOf : Cond.code yX12_leastOf cX12_leastOf 1 (some .int) ∈ wsG := wG (mT6 _ (List.mem_of_getElem? (i := 111) (by decide +kernel))) rfl
theorem ml_X12_95 : Cond.methodLink RX12 95 yX12_mostOf ∈ wsG := wG (mT6 _ (List.mem_of_getElem? (i := 112) (by decide +kernel))) rfl
theorem st_X12_mostOf : Cond.static yX12_mostOf ∈ wsG := wG (mT6 _ (List.mem_of_getElem? (i := 113) (by decide +kernel))) rfl
theorem co_X12_mostOf : Cond.code yX12_mostOf cX12_mostOf 1 (some .int) ∈ wsG := wG (mT6 _ (List.mem_of_getElem? (i := 114) (by decide +kernel))) rfl
theorem ml_L_32 : Cond.methodLink RL 32 yX11_feed ∈ wsG := wG (mT2 _ (List.mem_of_getElem? (i := 191) (by decide +kernel))) rfl
theorem im_X11_feed : Cond.instanceMethod yX11_feed ∈ wsG := wG (mT2 _ (List.mem_of_getElem? (i := 192) (by decide +kernel))) rfl
theorem se_X11_feed : Cond.selects RX11 yX11_feed yX11_feed ∈ wsG := wG (mT2 _ (List.mem_of_getElem? (i := 193) (by decide +kernel))) rfl
theorem co_X11_feed : Cond.code yX11_feed cX11_feed 7 (some .int) ∈ wsG := wG (mT2 _ (List.mem_of_getElem? (i := 194) (by decide +kernel))) rfl
theorem fl_X11_92 : Cond.fieldLink RX11 92 "PointFirst$Reader" "tape" "LPointFirst$Tape;" ∈ wsG := wG (mT2 _ (List.mem_of_getElem? (i := 5) (by decide +kernel))) rfl
theorem fl_X11_96 : Cond.fieldLink RX11 96 "PointFirst$Tape" "length" "I" ∈ wsG := wG (mT1 _ (List.mem_of_getElem? (i := 207) (by decide +kernel))) rfl
theorem ml_X11_101 : Cond.methodLink RX11 101 yX6_add ∈ wsG := wG (mT2 _ (List.mem_of_getElem? (i := 195) (by decide +kernel))) rfl
theorem im_X6_add : Cond.instanceMethod yX6_add ∈ wsG := wG (mT2 _ (List.mem_of_getElem? (i := 196) (by decide +kernel))) rfl
theorem se_X6_add : Cond.selects RX6 yX6_add yX6_add ∈ wsG := wG (mT2 _ (List.mem_of_getElem? (i := 197) (by decide +kernel))) rfl
theorem co_X6_add : Cond.code yX6_add cX6_add 3 none ∈ wsG := wG (mT2 _ (List.mem_of_getElem? (i := 198) (by decide +kernel))) rfl
theorem fl_X6_25 : Cond.fieldLink RX6 25 "PointFirst$Tape" "length" "I" ∈ wsG := wG (mT1 _ (List.mem_of_getElem? (i := 206) (by decide +kernel))) rfl
theorem ml_L_36 : Cond.methodLink RL 36 yX12_feed ∈ wsG := wG (mT6 _ (List.mem_of_getElem? (i := 115) (by decide +kernel))) rfl
theorem im_X12_feed : Cond.instanceMethod yX12_feed ∈ wsG := wG (mT6 _ (List.mem_of_getElem? (i := 116) (by decide +kernel))) rfl
theorem se_X12_feed : Cond.selects RX12 yX12_feed yX12_feed ∈ wsG := wG (mT6 _ (List.mem_of_getElem? (i := 117) (by decide +kernel))) rfl
theorem co_X12_feed : Cond.code yX12_feed cX12_feed 8 (some .int) ∈ wsG := wG (mT6 _ (List.mem_of_getElem? (i := 118) (by decide +kernel))) rfl
theorem fl_X12_98 : Cond.fieldLink RX12 98 "PointFirstModel" "taped" "I" ∈ wsG := wG (mT5 _ (List.mem_of_getElem? (i := 195) (by decide +kernel))) rfl
theorem ml_L_37 : Cond.methodLink RL 37 yX11_end ∈ wsG := wG (mT2 _ (List.mem_of_getElem? (i := 199) (by decide +kernel))) rfl
theorem im_X11_end : Cond.instanceMethod yX11_end ∈ wsG := wG (mT2 _ (List.mem_of_getElem? (i := 200) (by decide +kernel))) rfl
theorem se_X11_end : Cond.selects RX11 yX11_end yX11_end ∈ wsG := wG (mT2 _ (List.mem_of_getElem? (i := 201) (by decide +kernel))) rfl
theorem co_X11_end : Cond.code yX11_end cX11_end 2 (some .boolean) ∈ wsG := wG (mT2 _ (List.mem_of_getElem? (i := 202) (by decide +kernel))) rfl
theorem ml_L_41 : Cond.methodLink RL 41 yX12_end ∈ wsG := wG (mT6 _ (List.mem_of_getElem? (i := 119) (by decide +kernel))) rfl
theorem im_X12_end : Cond.instanceMethod yX12_end ∈ wsG := wG (mT6 _ (List.mem_of_getElem? (i := 120) (by decide +kernel))) rfl
theorem se_X12_end : Cond.selects RX12 yX12_end yX12_end ∈ wsG := wG (mT6 _ (List.mem_of_getElem? (i := 121) (by decide +kernel))) rfl
theorem co_X12_end : Cond.code yX12_end cX12_end 2 (some .boolean) ∈ wsG := wG (mT6 _ (List.mem_of_getElem? (i := 122) (by decide +kernel))) rfl
theorem ml_L_42 : Cond.methodLink RL 42 yX11_text ∈ wsG := wG (mT2 _ (List.mem_of_getElem? (i := 203) (by decide +kernel))) rfl
theorem im_X11_text : Cond.instanceMethod yX11_text ∈ wsG := wG (mT2 _ (List.mem_of_getElem? (i := 204) (by decide +kernel))) rfl
theorem se_X11_text : Cond.selects RX11 yX11_text yX11_text ∈ wsG := wG (mT2 _ (List.mem_of_getElem? (i := 205) (by decide +kernel))) rfl
theorem co_X11_text : Cond.code yX11_text cX11_text 5 (some .int) ∈ wsG := wG (mT2 _ (List.mem_of_getElem? (i := 206) (by decide +kernel))) rfl
theorem fl_X11_114 : Cond.fieldLink RX11 114 "PointFirst$World" "flight" "LPointFirst$Law;" ∈ wsG := wG (mT1 _ (List.mem_of_getElem? (i := 153) (by decide +kernel))) rfl
theorem fl_X11_124 : Cond.fieldLink RX11 124 "PointFirst$World" "arms" "LPointFirst$Law;" ∈ wsG := wG (mT1 _ (List.mem_of_getElem? (i := 156) (by decide +kernel))) rfl
theorem fl_X11_136 : Cond.fieldLink RX11 136 "PointFirst$World" "training" "LPointFirst$Law;" ∈ wsG := wG (mT1 _ (List.mem_of_getElem? (i := 158) (by decide +kernel))) rfl
theorem ml_X11_105 : Cond.methodLink RX11 105 yX5_begin ∈ wsG := wG (mT2 _ (List.mem_of_getElem? (i := 207) (by decide +kernel))) rfl
theorem im_X5_begin : Cond.instanceMethod yX5_begin ∈ wsG := wG (mT2 _ (List.mem_of_getElem? (i := 208) (by decide +kernel))) rfl
theorem se_X5_begin : Cond.selects RX5 yX5_begin yX5_begin ∈ wsG := wG (mT2 _ (List.mem_of_getElem? (i := 209) (by decide +kernel))) rfl
theorem co_X5_begin : Cond.code yX5_begin cX5_begin 1 none ∈ wsG := wG (mT2 _ (List.mem_of_getElem? (i := 210) (by decide +kernel))) rfl
theorem fl_X5_35 : Cond.fieldLink RX5 35 "PointFirst$Reader" "fault" "I" ∈ wsG := wG (mT2 _ (List.mem_of_getElem? (i := 6) (by decide +kernel))) rfl
theorem fl_X5_38 : Cond.fieldLink RX5 38 "PointFirst$Reader" "order" "I" ∈ wsG := wG (mT2 _ (List.mem_of_getElem? (i := 14) (by decide +kernel))) rfl
theorem ml_X5_41 : Cond.methodLink RX5 41 yX3_clear ∈ wsG := wG (mT2 _ (List.mem_of_getElem? (i := 211) (by decide +kernel))) rfl
theorem im_X3_clear : Cond.instanceMethod yX3_clear ∈ wsG := wG (mT2 _ (List.mem_of_getElem? (i := 212) (by decide +kernel))) rfl
theorem se_X3_clear : Cond.selects RX3 yX3_clear yX3_clear ∈ wsG := wG (mT2 _ (List.mem_of_getElem? (i := 213) (by decide +kernel))) rfl
theorem co_X3_clear : Cond.code yX3_clear cX3_clear 1 none ∈ wsG := wG (mT2 _ (List.mem_of_getElem? (i := 214) (by decide +kernel))) rfl
theorem fl_X3_30 : Cond.fieldLink RX3 30 "PointFirst$Law" "lines" "I" ∈ wsG := wG (mT1 _ (List.mem_of_getElem? (i := 43) (by decide +kernel))) rfl
theorem fl_X3_34 : Cond.fieldLink RX3 34 "PointFirst$Law" "steps" "I" ∈ wsG := wG (mT1 _ (List.mem_of_getElem? (i := 46) (by decide +kernel))) rfl
theorem ml_X11_110 : Cond.methodLink RX11 110 yX5_law ∈ wsG := wG (mT2 _ (List.mem_of_getElem? (i := 216) (by decide +kernel))) rfl
theorem im_X5_law : Cond.instanceMethod yX5_law ∈ wsG := wG (mT2 _ (List.mem_of_getElem? (i := 217) (by decide +kernel))) rfl
theorem se_X5_law : Cond.selects RX5 yX5_law yX5_law ∈ wsG := wG (mT2 _ (List.mem_of_getElem? (i := 218) (by decide +kernel))) rfl
theorem co_X5_law : Cond.code yX5_law cX5_law 5 (some .boolean) ∈ wsG := wG (mT2 _ (List.mem_of_getElem? (i := 219) (by decide +kernel))) rfl
theorem fl_X5_64 : Cond.fieldLink RX5 64 "PointFirst$Reader" "firstAsked" "I" ∈ wsG := wG (mT2 _ (List.mem_of_getElem? (i := 16) (by decide +kernel))) rfl
theorem fl_X5_47 : Cond.fieldLink RX5 47 "PointFirst$Tape" "kind" "I" ∈ wsG := wG (mT1 _ (List.mem_of_getElem? (i := 209) (by decide +kernel))) rfl
theorem fl_X5_67 : Cond.fieldLink RX5 67 "PointFirst$Law" "lines" "I" ∈ wsG := wG (mT1 _ (List.mem_of_getElem? (i := 44) (by decide +kernel))) rfl
theorem ml_X5_60 : Cond.methodLink RX5 60 yX6_cut ∈ wsG := wG (mT2 _ (List.mem_of_getElem? (i := 220) (by decide +kernel))) rfl
theorem im_X6_cut : Cond.instanceMethod yX6_cut ∈ wsG := wG (mT2 _ (List.mem_of_getElem? (i := 221) (by decide +kernel))) rfl
theorem se_X6_cut : Cond.selects RX6 yX6_cut yX6_cut ∈ wsG := wG (mT2 _ (List.mem_of_getElem? (i := 222) (by decide +kernel))) rfl
theorem co_X6_cut : Cond.code yX6_cut cX6_cut 7 none ∈ wsG := wG (mT2 _ (List.mem_of_getElem? (i := 223) (by decide +kernel))) rfl
theorem fl_X6_32 : Cond.fieldLink RX6 32 "PointFirst$Tape" "tokens" "I" ∈ wsG := wG (mT1 _ (List.mem_of_getElem? (i := 215) (by decide +kernel))) rfl
theorem fl_X6_29 : Cond.fieldLink RX6 29 "PointFirst$Tape" "token" "I" ∈ wsG := wG (mT1 _ (List.mem_of_getElem? (i := 216) (by decide +kernel))) rfl
theorem ml_X6_44 : Cond.methodLink RX6 44 yX6_byteAt ∈ wsG := wG (mT2 _ (List.mem_of_getElem? (i := 224) (by decide +kernel))) rfl
theorem im_X6_byteAt : Cond.instanceMethod yX6_byteAt ∈ wsG := wG (mT2 _ (List.mem_of_getElem? (i := 226) (by decide +kernel))) rfl
theorem se_X6_byteAt : Cond.selects RX6 yX6_byteAt yX6_byteAt ∈ wsG := wG (mP1 _ (List.mem_of_getElem? (i := 1) (by decide +kernel))) rfl
theorem co_X6_byteAt : Cond.code yX6_byteAt cX6_byteAt 2 (some .int) ∈ wsG := wG (mT2 _ (List.mem_of_getElem? (i := 227) (by decide +kernel))) rfl
theorem ml_X6_48 : Cond.methodLink RX6 48 yX6_isLetter ∈ wsG := wG (mT2 _ (List.mem_of_getElem? (i := 228) (by decide +kernel))) rfl
theorem st_X6_isLetter : Cond.static yX6_isLetter ∈ wsG := wG (mT2 _ (List.mem_of_getElem? (i := 229) (by decide +kernel))) rfl
theorem co_X6_isLetter : Cond.code yX6_isLetter cX6_isLetter 1 (some .boolean) ∈ wsG := wG (mT2 _ (List.mem_of_getElem? (i := 230) (by decide +kernel))) rfl
theorem ml_X6_52 : Cond.methodLink RX6 52 yX6_runFrom ∈ wsG := wG (mT2 _ (List.mem_of_getElem? (i := 232) (by decide +kernel))) rfl
theorem im_X6_runFrom : Cond.instanceMethod yX6_runFrom ∈ wsG := wG (mT2 _ (List.mem_of_getElem? (i := 234) (by decide +kernel))) rfl
theorem se_X6_runFrom : Cond.selects RX6 yX6_runFrom yX6_runFrom ∈ wsG := wG (mP1 _ (List.mem_of_getElem? (i := 2) (by decide +kernel))) rfl
theorem co_X6_runFrom : Cond.code yX6_runFrom cX6_runFrom 6 (some .int) ∈ wsG := wG (mT2 _ (List.mem_of_getElem? (i := 235) (by decide +kernel))) rfl
theorem ml_X6_64 : Cond.methodLink RX6 64 yX6_isDigit ∈ wsG := wG (mT2 _ (List.mem_of_getElem? (i := 236) (by decide +kernel))) rfl
theorem st_X6_isDigit : Cond.static yX6_isDigit ∈ wsG := wG (mT2 _ (List.mem_of_getElem? (i := 237) (by decide +kernel))) rfl
theorem co_X6_isDigit : Cond.code yX6_isDigit cX6_isDigit 1 (some .boolean) ∈ wsG := wG (mT2 _ (List.mem_of_getElem? (i := 238) (by decide +kernel))) rfl
theorem ml_X6_56 : Cond.methodLink RX6 56 yX6_numberOf ∈ wsG := wG (mT2 _ (List.mem_of_getElem? (i := 239) (by decide +kernel))) rfl
theorem im_X6_numberOf : Cond.instanceMethod yX6_numberOf ∈ wsG := wG (mT3 _ (List.mem_of_getElem? (i := 1) (by decide +kernel))) rfl
theorem se_X6_numberOf : Cond.selects RX6 yX6_numberOf yX6_numberOf ∈ wsG := wG (mP1 _ (List.mem_of_getElem? (i := 3) (by decide +kernel))) rfl
theorem co_X6_numberOf : Cond.code yX6_numberOf cX6_numberOf 7 (some .int) ∈ wsG := wG (mT3 _ (List.mem_of_getElem? (i := 2) (by decide +kernel))) rfl
theorem ml_X6_81 : Cond.methodLink RX6 81 yJ0_length_8abf5 ∈ wsG := wG (mT3 _ (List.mem_of_getElem? (i := 3) (by decide +kernel))) rfl
theorem im_J0_length_8abf5 : Cond.instanceMethod yJ0_length_8abf5 ∈ wsG := wG (mT3 _ (List.mem_of_getElem? (i := 4) (by decide +kernel))) rfl
theorem se_J0_length_8abf5 : Cond.selects RJ0 yJ0_length_8abf5 yJ0_length_8abf5 ∈ wsG := wG (mT3 _ (List.mem_of_getElem? (i := 5) (by decide +kernel))) rfl
theorem in_J0 : Cond.initialized RJ0 ∈ wsG := wG (mT1 _ (List.mem_of_getElem? (i := 12) (by decide +kernel))) rfl
theorem co_J0_length_8abf5 : Cond.code yJ0_length_8abf5 cJ0_length_8abf5 1 (some .int) ∈ wsG := wG (mT3 _ (List.mem_of_getElem? (i := 6) (by decide +kernel))) rfl
theorem fl_J0_9 : Cond.fieldLink RJ0 9 "java/lang/String" "value" "[B" ∈ wsG := wG (mT8 _ (List.mem_of_getElem? (i := 109) (by decide +kernel))) rfl
theorem ml_J0_335 : Cond.methodLink RJ0 335 yJ0_coder_7d493 ∈ wsG := wG (mT3 _ (List.mem_of_getElem? (i := 7) (by decide +kernel))) rfl
theorem im_J0_coder_7d493 : Cond.instanceMethod yJ0_coder_7d493 ∈ wsG := wG (mT3 _ (List.mem_of_getElem? (i := 8) (by decide +kernel))) rfl
theorem se_J0_coder_7d493 : Cond.selects RJ0 yJ0_coder_7d493 yJ0_coder_7d493 ∈ wsG := wG (mT3 _ (List.mem_of_getElem? (i := 9) (by decide +kernel))) rfl
theorem co_J0_coder_7d493 : Cond.code yJ0_coder_7d493 cJ0_coder_7d493 1 (some .byte) ∈ wsG := wG (mT3 _ (List.mem_of_getElem? (i := 10) (by decide +kernel))) rfl
theorem fl_J0_38 : Cond.fieldLink RJ0 38 "java/lang/String" "COMPACT_STRINGS" "Z" ∈ wsG := wG (mT3 _ (List.mem_of_getElem? (i := 11) (by decide +kernel))) rfl
theorem fl_J0_15 : Cond.fieldLink RJ0 15 "java/lang/String" "coder" "B" ∈ wsG := wG (mT8 _ (List.mem_of_getElem? (i := 110) (by decide +kernel))) rfl
theorem ml_X6_86 : Cond.methodLink RX6 86 yJ0_charAt_5068e ∈ wsG := wG (mT3 _ (List.mem_of_getElem? (i := 13) (by decide +kernel))) rfl
theorem im_J0_charAt_5068e : Cond.instanceMethod yJ0_charAt_5068e ∈ wsG := wG (mT3 _ (List.mem_of_getElem? (i := 14) (by decide +kernel))) rfl
theorem se_J0_charAt_5068e : Cond.selects RJ0 yJ0_charAt_5068e yJ0_charAt_5068e ∈ wsG := wG (mT3 _ (List.mem_of_getElem? (i := 15) (by decide +kernel))) rfl
theorem co_J0_charAt_5068e : Cond.code yJ0_charAt_5068e cJ0_charAt_5068e 2 (some .char) ∈ wsG := wG (mT3 _ (List.mem_of_getElem? (i := 16) (by decide +kernel))) rfl
theorem ml_J0_492 : Cond.methodLink RJ0 492 yJ0_isLatin1_aae02 ∈ wsG := wG (mT3 _ (List.mem_of_getElem? (i := 17) (by decide +kernel))) rfl
theorem im_J0_isLatin1_aae02 : Cond.instanceMethod yJ0_isLatin1_aae02 ∈ wsG := wG (mT3 _ (List.mem_of_getElem? (i := 18) (by decide +kernel))) rfl
theorem se_J0_isLatin1_aae02 : Cond.selects RJ0 yJ0_isLatin1_aae02 yJ0_isLatin1_aae02 ∈ wsG := wG (mT3 _ (List.mem_of_getElem? (i := 19) (by decide +kernel))) rfl
theorem co_J0_isLatin1_aae02 : Cond.code yJ0_isLatin1_aae02 cJ0_isLatin1_aae02 1 (some .boolean) ∈ wsG := wG (mT3 _ (List.mem_of_getElem? (i := 20) (by decide +kernel))) rfl
theorem ml_J0_495 : Cond.methodLink RJ0 495 yJ1_charAt_3b067 ∈ wsG := wG (mT3 _ (List.mem_of_getElem? (i := 21) (by decide +kernel))) rfl
theorem st_J1_charAt_3b067 : Cond.static yJ1_charAt_3b067 ∈ wsG := wG (mT3 _ (List.mem_of_getElem? (i := 22) (by decide +kernel))) rfl
theorem in_J1 : Cond.initialized RJ1 ∈ wsG := wG (mT1 _ (List.mem_of_getElem? (i := 13) (by decide +kernel))) rfl
theorem co_J1_charAt_3b067 : Cond.code yJ1_charAt_3b067 cJ1_charAt_3b067 2 (some .char) ∈ wsG := wG (mT3 _ (List.mem_of_getElem? (i := 23) (by decide +kernel))) rfl
theorem ml_J1_9 : Cond.methodLink RJ1 9 yJ0_checkIndex_df160 ∈ wsG := wG (mT3 _ (List.mem_of_getElem? (i := 24) (by decide +kernel))) rfl
theorem st_J0_checkIndex_df160 : Cond.static yJ0_checkIndex_df160 ∈ wsG := wG (mT3 _ (List.mem_of_getElem? (i := 25) (by decide +kernel))) rfl
theorem co_J0_checkIndex_df160 : Cond.code yJ0_checkIndex_df160 cJ0_checkIndex_df160 2 none ∈ wsG := wG (mT3 _ (List.mem_of_getElem? (i := 26) (by decide +kernel))) rfl
theorem fl_J0_1053 : Cond.fieldLink RJ0 1053 "jdk/internal/util/Preconditions" "SIOOBE_FORMATTER" "Ljava/util/function/BiFunction;" ∈ wsG := wG (mT3 _ (List.mem_of_getElem? (i := 27) (by decide +kernel))) rfl
theorem ml_J0_1059 : Cond.methodLink RJ0 1059 yJ3_checkIndex_8e157 ∈ wsG := wG (mT3 _ (List.mem_of_getElem? (i := 29) (by decide +kernel))) rfl
theorem st_J3_checkIndex_8e157 : Cond.static yJ3_checkIndex_8e157 ∈ wsG := wG (mT3 _ (List.mem_of_getElem? (i := 30) (by decide +kernel))) rfl
theorem in_J3 : Cond.initialized RJ3 ∈ wsG := wG (mT1 _ (List.mem_of_getElem? (i := 14) (by decide +kernel))) rfl
theorem co_J3_checkIndex_8e157 : Cond.code yJ3_checkIndex_8e157 cJ3_checkIndex_8e157 3 (some .int) ∈ wsG := wG (mT3 _ (List.mem_of_getElem? (i := 31) (by decide +kernel))) rfl
theorem ml_J0_498 : Cond.methodLink RJ0 498 yJ2_charAt_3b067 ∈ wsG := wG (mT3 _ (List.mem_of_getElem? (i := 32) (by decide +kernel))) rfl
theorem st_J2_charAt_3b067 : Cond.static yJ2_charAt_3b067 ∈ wsG := wG (mT3 _ (List.mem_of_getElem? (i := 33) (by decide +kernel))) rfl
theorem in_J2 : Cond.initialized RJ2 ∈ wsG := wG (mT1 _ (List.mem_of_getElem? (i := 15) (by decide +kernel))) rfl
theorem co_J2_charAt_3b067 : Cond.code yJ2_charAt_3b067 cJ2_charAt_3b067 2 (some .char) ∈ wsG := wG (mT3 _ (List.mem_of_getElem? (i := 34) (by decide +kernel))) rfl
theorem ml_J2_67 : Cond.methodLink RJ2 67 yJ2_checkIndex_2214a ∈ wsG := wG (mT3 _ (List.mem_of_getElem? (i := 35) (by decide +kernel))) rfl
theorem st_J2_checkIndex_2214a : Cond.static yJ2_checkIndex_2214a ∈ wsG := wG (mT3 _ (List.mem_of_getElem? (i := 36) (by decide +kernel))) rfl
theorem co_J2_checkIndex_2214a : Cond.code yJ2_checkIndex_2214a cJ2_checkIndex_2214a 2 none ∈ wsG := wG (mT3 _ (List.mem_of_getElem? (i := 37) (by decide +kernel))) rfl
theorem ml_J2_48 : Cond.methodLink RJ2 48 yJ2_length_9d52b ∈ wsG := wG (mT3 _ (List.mem_of_getElem? (i := 38) (by decide +kernel))) rfl
theorem st_J2_length_9d52b : Cond.static yJ2_length_9d52b ∈ wsG := wG (mT3 _ (List.mem_of_getElem? (i := 39) (by decide +kernel))) rfl
theorem co_J2_length_9d52b : Cond.code yJ2_length_9d52b cJ2_length_9d52b 1 (some .int) ∈ wsG := wG (mT3 _ (List.mem_of_getElem? (i := 40) (by decide +kernel))) rfl
theorem ml_J2_414 : Cond.methodLink RJ2 414 yJ0_checkIndex_df160 ∈ wsG := wG (mT3 _ (List.mem_of_getElem? (i := 41) (by decide +kernel))) rfl
theorem ml_J2_71 : Cond.methodLink RJ2 71 yJ2_getChar_3b067 ∈ wsG := wG (mT3 _ (List.mem_of_getElem? (i := 42) (by decide +kernel))) rfl
theorem st_J2_getChar_3b067 : Cond.static yJ2_getChar_3b067 ∈ wsG := wG (mT3 _ (List.mem_of_getElem? (i := 43) (by decide +kernel))) rfl
theorem co_J2_getChar_3b067 : Cond.code yJ2_getChar_3b067 cJ2_getChar_3b067 2 (some .char) ∈ wsG := wG (mT3 _ (List.mem_of_getElem? (i := 44) (by decide +kernel))) rfl
theorem fl_J2_44 : Cond.fieldLink RJ2 44 "java/lang/StringUTF16" "$assertionsDisabled" "Z" ∈ wsG := wG (mT3 _ (List.mem_of_getElem? (i := 45) (by decide +kernel))) rfl
theorem fl_J2_59 : Cond.fieldLink RJ2 59 "java/lang/StringUTF16" "HI_BYTE_SHIFT" "I" ∈ wsG := wG (mT3 _ (List.mem_of_getElem? (i := 47) (by decide +kernel))) rfl
theorem fl_J2_63 : Cond.fieldLink RJ2 63 "java/lang/StringUTF16" "LO_BYTE_SHIFT" "I" ∈ wsG := wG (mT3 _ (List.mem_of_getElem? (i := 49) (by decide +kernel))) rfl
theorem ml_X6_90 : Cond.methodLink RX6 90 yX6_isSame ∈ wsG := wG (mT3 _ (List.mem_of_getElem? (i := 51) (by decide +kernel))) rfl
theorem im_X6_isSame : Cond.instanceMethod yX6_isSame ∈ wsG := wG (mT3 _ (List.mem_of_getElem? (i := 53) (by decide +kernel))) rfl
theorem se_X6_isSame : Cond.selects RX6 yX6_isSame yX6_isSame ∈ wsG := wG (mP1 _ (List.mem_of_getElem? (i := 4) (by decide +kernel))) rfl
theorem co_X6_isSame : Cond.code yX6_isSame cX6_isSame 6 (some .boolean) ∈ wsG := wG (mT3 _ (List.mem_of_getElem? (i := 54) (by decide +kernel))) rfl
theorem ml_X6_60 : Cond.methodLink RX6 60 yX6_put ∈ wsG := wG (mT3 _ (List.mem_of_getElem? (i := 55) (by decide +kernel))) rfl
theorem im_X6_put : Cond.instanceMethod yX6_put ∈ wsG := wG (mT3 _ (List.mem_of_getElem? (i := 57) (by decide +kernel))) rfl
theorem se_X6_put : Cond.selects RX6 yX6_put yX6_put ∈ wsG := wG (mP1 _ (List.mem_of_getElem? (i := 5) (by decide +kernel))) rfl
theorem co_X6_put : Cond.code yX6_put cX6_put 4 none ∈ wsG := wG (mT3 _ (List.mem_of_getElem? (i := 58) (by decide +kernel))) rfl
theorem ml_X6_67 : Cond.methodLink RX6 67 yX6_amount ∈ wsG := wG (mT3 _ (List.mem_of_getElem? (i := 59) (by decide +kernel))) rfl
theorem im_X6_amount : Cond.instanceMethod yX6_amount ∈ wsG := wG (mT3 _ (List.mem_of_getElem? (i := 61) (by decide +kernel))) rfl
theorem se_X6_amount : Cond.selects RX6 yX6_amount yX6_amount ∈ wsG := wG (mP1 _ (List.mem_of_getElem? (i := 6) (by decide +kernel))) rfl
theorem co_X6_amount : Cond.code yX6_amount cX6_amount 5 (some .int) ∈ wsG := wG (mT3 _ (List.mem_of_getElem? (i := 62) (by decide +kernel))) rfl
theorem ml_X6_71 : Cond.methodLink RX6 71 yX6_isSign ∈ wsG := wG (mT3 _ (List.mem_of_getElem? (i := 63) (by decide +kernel))) rfl
theorem st_X6_isSign : Cond.static yX6_isSign ∈ wsG := wG (mT3 _ (List.mem_of_getElem? (i := 64) (by decide +kernel))) rfl
theorem co_X6_isSign : Cond.code yX6_isSign cX6_isSign 1 (some .boolean) ∈ wsG := wG (mT3 _ (List.mem_of_getElem? (i := 65) (by decide +kernel))) rfl
theorem ml_X6_74 : Cond.methodLink RX6 74 yX6_next ∈ wsG := wG (mT3 _ (List.mem_of_getElem? (i := 66) (by decide +kernel))) rfl
theorem im_X6_next : Cond.instanceMethod yX6_next ∈ wsG := wG (mT3 _ (List.mem_of_getElem? (i := 67) (by decide +kernel))) rfl
theorem se_X6_next : Cond.selects RX6 yX6_next yX6_next ∈ wsG := wG (mT3 _ (List.mem_of_getElem? (i := 68) (by decide +kernel))) rfl
theorem co_X6_next : Cond.code yX6_next cX6_next 1 none ∈ wsG := wG (mT3 _ (List.mem_of_getElem? (i := 69) (by decide +kernel))) rfl
theorem fl_X6_35 : Cond.fieldLink RX6 35 "PointFirst$Tape" "kind" "I" ∈ wsG := wG (mT1 _ (List.mem_of_getElem? (i := 208) (by decide +kernel))) rfl
theorem fl_X6_38 : Cond.fieldLink RX6 38 "PointFirst$Tape" "value" "I" ∈ wsG := wG (mT1 _ (List.mem_of_getElem? (i := 210) (by decide +kernel))) rfl
theorem fl_X6_41 : Cond.fieldLink RX6 41 "PointFirst$Tape" "place" "I" ∈ wsG := wG (mT1 _ (List.mem_of_getElem? (i := 213) (by decide +kernel))) rfl
theorem ml_X5_53 : Cond.methodLink RX5 53 yX5_fail ∈ wsG := wG (mT3 _ (List.mem_of_getElem? (i := 70) (by decide +kernel))) rfl
theorem im_X5_fail : Cond.instanceMethod yX5_fail ∈ wsG := wG (mT3 _ (List.mem_of_getElem? (i := 72) (by decide +kernel))) rfl
theorem se_X5_fail : Cond.selects RX5 yX5_fail yX5_fail ∈ wsG := wG (mP1 _ (List.mem_of_getElem? (i := 7) (by decide +kernel))) rfl
theorem co_X5_fail : Cond.code yX5_fail cX5_fail 2 none ∈ wsG := wG (mT3 _ (List.mem_of_getElem? (i := 73) (by decide +kernel))) rfl
theorem fl_X5_44 : Cond.fieldLink RX5 44 "PointFirst$Tape" "place" "I" ∈ wsG := wG (mT1 _ (List.mem_of_getElem? (i := 212) (by decide +kernel))) rfl
theorem ml_X5_50 : Cond.methodLink RX5 50 yX6_next ∈ wsG := wG (mT3 _ (List.mem_of_getElem? (i := 74) (by decide +kernel))) rfl
theorem ml_X5_70 : Cond.methodLink RX5 70 yX3_beginLine ∈ wsG := wG (mT3 _ (List.mem_of_getElem? (i := 75) (by decide +kernel))) rfl
theorem im_X3_beginLine : Cond.instanceMethod yX3_beginLine ∈ wsG := wG (mT3 _ (List.mem_of_getElem? (i := 76) (by decide +kernel))) rfl
theorem se_X3_beginLine : Cond.selects RX3 yX3_beginLine yX3_beginLine ∈ wsG := wG (mT3 _ (List.mem_of_getElem? (i := 77) (by decide +kernel))) rfl
theorem co_X3_beginLine : Cond.code yX3_beginLine cX3_beginLine 2 none ∈ wsG := wG (mT3 _ (List.mem_of_getElem? (i := 78) (by decide +kernel))) rfl
theorem ml_X5_73 : Cond.methodLink RX5 73 yX5_sum ∈ wsG := wG (mT3 _ (List.mem_of_getElem? (i := 79) (by decide +kernel))) rfl
theorem im_X5_sum : Cond.instanceMethod yX5_sum ∈ wsG := wG (mT3 _ (List.mem_of_getElem? (i := 81) (by decide +kernel))) rfl
theorem se_X5_sum : Cond.selects RX5 yX5_sum yX5_sum ∈ wsG := wG (mP1 _ (List.mem_of_getElem? (i := 8) (by decide +kernel))) rfl
theorem co_X5_sum : Cond.code yX5_sum cX5_sum 3 none ∈ wsG := wG (mT3 _ (List.mem_of_getElem? (i := 82) (by decide +kernel))) rfl
theorem ml_X5_106 : Cond.methodLink RX5 106 yX5_operand ∈ wsG := wG (mT3 _ (List.mem_of_getElem? (i := 83) (by decide +kernel))) rfl
theorem im_X5_operand : Cond.instanceMethod yX5_operand ∈ wsG := wG (mT3 _ (List.mem_of_getElem? (i := 85) (by decide +kernel))) rfl
theorem se_X5_operand : Cond.selects RX5 yX5_operand yX5_operand ∈ wsG := wG (mP1 _ (List.mem_of_getElem? (i := 9) (by decide +kernel))) rfl
theorem co_X5_operand : Cond.code yX5_operand cX5_operand 1 none ∈ wsG := wG (mT3 _ (List.mem_of_getElem? (i := 86) (by decide +kernel))) rfl
theorem fl_X5_57 : Cond.fieldLink RX5 57 "PointFirst$Tape" "value" "I" ∈ wsG := wG (mT1 _ (List.mem_of_getElem? (i := 211) (by decide +kernel))) rfl
theorem ml_X5_95 : Cond.methodLink RX5 95 yX3_put ∈ wsG := wG (mT3 _ (List.mem_of_getElem? (i := 87) (by decide +kernel))) rfl
theorem im_X3_put : Cond.instanceMethod yX3_put ∈ wsG := wG (mT3 _ (List.mem_of_getElem? (i := 88) (by decide +kernel))) rfl
theorem se_X3_put : Cond.selects RX3 yX3_put yX3_put ∈ wsG := wG (mT3 _ (List.mem_of_getElem? (i := 89) (by decide +kernel))) rfl
theorem co_X3_put : Cond.code yX3_put cX3_put 3 none ∈ wsG := wG (mT3 _ (List.mem_of_getElem? (i := 90) (by decide +kernel))) rfl
theorem ml_X5_79 : Cond.methodLink RX5 79 yX5_taken ∈ wsG := wG (mT3 _ (List.mem_of_getElem? (i := 91) (by decide +kernel))) rfl
theorem im_X5_taken : Cond.instanceMethod yX5_taken ∈ wsG := wG (mT3 _ (List.mem_of_getElem? (i := 93) (by decide +kernel))) rfl
theorem se_X5_taken : Cond.selects RX5 yX5_taken yX5_taken ∈ wsG := wG (mP1 _ (List.mem_of_getElem? (i := 10) (by decide +kernel))) rfl
theorem co_X5_taken : Cond.code yX5_taken cX5_taken 2 (some .boolean) ∈ wsG := wG (mT3 _ (List.mem_of_getElem? (i := 94) (by decide +kernel))) rfl
theorem ml_X5_109 : Cond.methodLink RX5 109 yX5_number ∈ wsG := wG (mT3 _ (List.mem_of_getElem? (i := 95) (by decide +kernel))) rfl
theorem im_X5_number : Cond.instanceMethod yX5_number ∈ wsG := wG (mT3 _ (List.mem_of_getElem? (i := 97) (by decide +kernel))) rfl
theorem se_X5_number : Cond.selects RX5 yX5_number yX5_number ∈ wsG := wG (mP1 _ (List.mem_of_getElem? (i := 11) (by decide +kernel))) rfl
theorem co_X5_number : Cond.code yX5_number cX5_number 4 (some .int) ∈ wsG := wG (mT3 _ (List.mem_of_getElem? (i := 98) (by decide +kernel))) rfl
theorem ml_X5_76 : Cond.methodLink RX5 76 yX3_beginWhen ∈ wsG := wG (mT3 _ (List.mem_of_getElem? (i := 99) (by decide +kernel))) rfl
theorem im_X3_beginWhen : Cond.instanceMethod yX3_beginWhen ∈ wsG := wG (mT3 _ (List.mem_of_getElem? (i := 100) (by decide +kernel))) rfl
theorem se_X3_beginWhen : Cond.selects RX3 yX3_beginWhen yX3_beginWhen ∈ wsG := wG (mT3 _ (List.mem_of_getElem? (i := 101) (by decide +kernel))) rfl
theorem co_X3_beginWhen : Cond.code yX3_beginWhen cX3_beginWhen 1 none ∈ wsG := wG (mT3 _ (List.mem_of_getElem? (i := 102) (by decide +kernel))) rfl
theorem ml_X5_83 : Cond.methodLink RX5 83 yX5_anyOf ∈ wsG := wG (mT3 _ (List.mem_of_getElem? (i := 103) (by decide +kernel))) rfl
theorem im_X5_anyOf : Cond.instanceMethod yX5_anyOf ∈ wsG := wG (mT3 _ (List.mem_of_getElem? (i := 105) (by decide +kernel))) rfl
theorem se_X5_anyOf : Cond.selects RX5 yX5_anyOf yX5_anyOf ∈ wsG := wG (mP1 _ (List.mem_of_getElem? (i := 12) (by decide +kernel))) rfl
theorem co_X5_anyOf : Cond.code yX5_anyOf cX5_anyOf 3 none ∈ wsG := wG (mT3 _ (List.mem_of_getElem? (i := 106) (by decide +kernel))) rfl
theorem ml_X5_92 : Cond.methodLink RX5 92 yX5_allOf ∈ wsG := wG (mT3 _ (List.mem_of_getElem? (i := 107) (by decide +kernel))) rfl
theorem im_X5_allOf : Cond.instanceMethod yX5_allOf ∈ wsG := wG (mT3 _ (List.mem_of_getElem? (i := 109) (by decide +kernel))) rfl
theorem se_X5_allOf : Cond.selects RX5 yX5_allOf yX5_allOf ∈ wsG := wG (mP1 _ (List.mem_of_getElem? (i := 13) (by decide +kernel))) rfl
theorem co_X5_allOf : Cond.code yX5_allOf cX5_allOf 3 none ∈ wsG := wG (mT3 _ (List.mem_of_getElem? (i := 110) (by decide +kernel))) rfl
theorem ml_X5_99 : Cond.methodLink RX5 99 yX5_single ∈ wsG := wG (mT3 _ (List.mem_of_getElem? (i := 111) (by decide +kernel))) rfl
theorem im_X5_single : Cond.instanceMethod yX5_single ∈ wsG := wG (mT3 _ (List.mem_of_getElem? (i := 113) (by decide +kernel))) rfl
theorem se_X5_single : Cond.selects RX5 yX5_single yX5_single ∈ wsG := wG (mP1 _ (List.mem_of_getElem? (i := 14) (by decide +kernel))) rfl
theorem co_X5_single : Cond.code yX5_single cX5_single 3 none ∈ wsG := wG (mT3 _ (List.mem_of_getElem? (i := 114) (by decide +kernel))) rfl
theorem ml_X5_102 : Cond.methodLink RX5 102 yX5_comparing ∈ wsG := wG (mT3 _ (List.mem_of_getElem? (i := 115) (by decide +kernel))) rfl
theorem im_X5_comparing : Cond.instanceMethod yX5_comparing ∈ wsG := wG (mT3 _ (List.mem_of_getElem? (i := 117) (by decide +kernel))) rfl
theorem se_X5_comparing : Cond.selects RX5 yX5_comparing yX5_comparing ∈ wsG := wG (mP1 _ (List.mem_of_getElem? (i := 15) (by decide +kernel))) rfl
theorem co_X5_comparing : Cond.code yX5_comparing cX5_comparing 2 (some .int) ∈ wsG := wG (mT3 _ (List.mem_of_getElem? (i := 118) (by decide +kernel))) rfl
theorem ml_X5_86 : Cond.methodLink RX5 86 yX5_take ∈ wsG := wG (mT3 _ (List.mem_of_getElem? (i := 119) (by decide +kernel))) rfl
theorem im_X5_take : Cond.instanceMethod yX5_take ∈ wsG := wG (mT3 _ (List.mem_of_getElem? (i := 121) (by decide +kernel))) rfl
theorem se_X5_take : Cond.selects RX5 yX5_take yX5_take ∈ wsG := wG (mP2 _ (List.mem_of_getElem? (i := 0) (by decide +kernel))) rfl
theorem co_X5_take : Cond.code yX5_take cX5_take 2 none ∈ wsG := wG (mT3 _ (List.mem_of_getElem? (i := 122) (by decide +kernel))) rfl
theorem ml_X5_89 : Cond.methodLink RX5 89 yX3_endLine ∈ wsG := wG (mT3 _ (List.mem_of_getElem? (i := 123) (by decide +kernel))) rfl
theorem im_X3_endLine : Cond.instanceMethod yX3_endLine ∈ wsG := wG (mT3 _ (List.mem_of_getElem? (i := 124) (by decide +kernel))) rfl
theorem se_X3_endLine : Cond.selects RX3 yX3_endLine yX3_endLine ∈ wsG := wG (mT3 _ (List.mem_of_getElem? (i := 125) (by decide +kernel))) rfl
theorem co_X3_endLine : Cond.code yX3_endLine cX3_endLine 1 none ∈ wsG := wG (mT3 _ (List.mem_of_getElem? (i := 126) (by decide +kernel))) rfl
theorem ml_X11_118 : Cond.methodLink RX11 118 yX11_keepLaw ∈ wsG := wG (mT3 _ (List.mem_of_getElem? (i := 127) (by decide +kernel))) rfl
theorem im_X11_keepLaw : Cond.instanceMethod yX11_keepLaw ∈ wsG := wG (mT3 _ (List.mem_of_getElem? (i := 129) (by decide +kernel))) rfl
theorem se_X11_keepLaw : Cond.selects RX11 yX11_keepLaw yX11_keepLaw ∈ wsG := wG (mP2 _ (List.mem_of_getElem? (i := 1) (by decide +kernel))) rfl
theorem co_X11_keepLaw : Cond.code yX11_keepLaw cX11_keepLaw 2 (some .int) ∈ wsG := wG (mT3 _ (List.mem_of_getElem? (i := 130) (by decide +kernel))) rfl
theorem fl_X11_139 : Cond.fieldLink RX11 139 "PointFirst$Reader" "law" "LPointFirst$Law;" ∈ wsG := wG (mT2 _ (List.mem_of_getElem? (i := 11) (by decide +kernel))) rfl
theorem fl_X11_147 : Cond.fieldLink RX11 147 "PointFirst$Law" "lines" "I" ∈ wsG := wG (mT1 _ (List.mem_of_getElem? (i := 45) (by decide +kernel))) rfl
theorem ml_X11_141 : Cond.methodLink RX11 141 yX3_copy ∈ wsG := wG (mT3 _ (List.mem_of_getElem? (i := 131) (by decide +kernel))) rfl
theorem im_X3_copy : Cond.instanceMethod yX3_copy ∈ wsG := wG (mT3 _ (List.mem_of_getElem? (i := 132) (by decide +kernel))) rfl
theorem se_X3_copy : Cond.selects RX3 yX3_copy yX3_copy ∈ wsG := wG (mT3 _ (List.mem_of_getElem? (i := 133) (by decide +kernel))) rfl
theorem co_X3_copy : Cond.code yX3_copy cX3_copy 2 none ∈ wsG := wG (mT3 _ (List.mem_of_getElem? (i := 134) (by decide +kernel))) rfl
theorem ml_X3_37 : Cond.methodLink RX3 37 arraycopyName ∈ wsG := wG (mT3 _ (List.mem_of_getElem? (i := 135) (by decide +kernel))) rfl
theorem nt_arraycopy : Cond.native arraycopyName ∈ wsG := wG (mT3 _ (List.mem_of_getElem? (i := 137) (by decide +kernel))) rfl
theorem st_arraycopy : Cond.static arraycopyName ∈ wsG := wG (mT3 _ (List.mem_of_getElem? (i := 136) (by decide +kernel))) rfl
theorem in_J10 : Cond.initialized "java/lang/System" ∈ wsG := wG (mT1 _ (List.mem_of_getElem? (i := 16) (by decide +kernel))) rfl
theorem ml_X11_126 : Cond.methodLink RX11 126 yX5_plan ∈ wsG := wG (mT3 _ (List.mem_of_getElem? (i := 139) (by decide +kernel))) rfl
theorem im_X5_plan : Cond.instanceMethod yX5_plan ∈ wsG := wG (mT3 _ (List.mem_of_getElem? (i := 140) (by decide +kernel))) rfl
theorem se_X5_plan : Cond.selects RX5 yX5_plan yX5_plan ∈ wsG := wG (mT3 _ (List.mem_of_getElem? (i := 141) (by decide +kernel))) rfl
theorem co_X5_plan : Cond.code yX5_plan cX5_plan 3 (some .boolean) ∈ wsG := wG (mT3 _ (List.mem_of_getElem? (i := 142) (by decide +kernel))) rfl
theorem ml_X5_115 : Cond.methodLink RX5 115 yX5_throwOrder ∈ wsG := wG (mT3 _ (List.mem_of_getElem? (i := 144) (by decide +kernel))) rfl
theorem im_X5_throwOrder : Cond.instanceMethod yX5_throwOrder ∈ wsG := wG (mT3 _ (List.mem_of_getElem? (i := 146) (by decide +kernel))) rfl
theorem se_X5_throwOrder : Cond.selects RX5 yX5_throwOrder yX5_throwOrder ∈ wsG := wG (mP2 _ (List.mem_of_getElem? (i := 2) (by decide +kernel))) rfl
theorem co_X5_throwOrder : Cond.code yX5_throwOrder cX5_throwOrder 2 none ∈ wsG := wG (mT3 _ (List.mem_of_getElem? (i := 147) (by decide +kernel))) rfl
theorem ml_X5_118 : Cond.methodLink RX5 118 yX5_part ∈ wsG := wG (mT3 _ (List.mem_of_getElem? (i := 148) (by decide +kernel))) rfl
theorem im_X5_part : Cond.instanceMethod yX5_part ∈ wsG := wG (mT3 _ (List.mem_of_getElem? (i := 150) (by decide +kernel))) rfl
theorem se_X5_part : Cond.selects RX5 yX5_part yX5_part ∈ wsG := wG (mP2 _ (List.mem_of_getElem? (i := 3) (by decide +kernel))) rfl
theorem co_X5_part : Cond.code yX5_part cX5_part 4 none ∈ wsG := wG (mT3 _ (List.mem_of_getElem? (i := 151) (by decide +kernel))) rfl
theorem ml_X11_130 : Cond.methodLink RX11 130 yX11_keepPlan ∈ wsG := wG (mT3 _ (List.mem_of_getElem? (i := 152) (by decide +kernel))) rfl
theorem im_X11_keepPlan : Cond.instanceMethod yX11_keepPlan ∈ wsG := wG (mT3 _ (List.mem_of_getElem? (i := 154) (by decide +kernel))) rfl
theorem se_X11_keepPlan : Cond.selects RX11 yX11_keepPlan yX11_keepPlan ∈ wsG := wG (mP2 _ (List.mem_of_getElem? (i := 4) (by decide +kernel))) rfl
theorem co_X11_keepPlan : Cond.code yX11_keepPlan cX11_keepPlan 2 (some .int) ∈ wsG := wG (mT3 _ (List.mem_of_getElem? (i := 155) (by decide +kernel))) rfl
theorem fl_X11_150 : Cond.fieldLink RX11 150 "PointFirst$Reader" "orders" "[I" ∈ wsG := wG (mT2 _ (List.mem_of_getElem? (i := 13) (by decide +kernel))) rfl
theorem fl_X11_154 : Cond.fieldLink RX11 154 "PointFirst$Thrower" "plan" "[I" ∈ wsG := wG (mT1 _ (List.mem_of_getElem? (i := 101) (by decide +kernel))) rfl
theorem ml_X11_156 : Cond.methodLink RX11 156 arraycopyName ∈ wsG := wG (mT3 _ (List.mem_of_getElem? (i := 156) (by decide +kernel))) rfl
theorem fl_X11_162 : Cond.fieldLink RX11 162 "PointFirst$Reader" "order" "I" ∈ wsG := wG (mT2 _ (List.mem_of_getElem? (i := 15) (by decide +kernel))) rfl
theorem fl_X11_165 : Cond.fieldLink RX11 165 "PointFirst$Thrower" "orders" "I" ∈ wsG := wG (mT1 _ (List.mem_of_getElem? (i := 96) (by decide +kernel))) rfl
theorem fl_X11_167 : Cond.fieldLink RX11 167 "PointFirst$Thrower" "next" "I" ∈ wsG := wG (mT1 _ (List.mem_of_getElem? (i := 99) (by decide +kernel))) rfl
theorem ml_L_45 : Cond.methodLink RL 45 yX12_text ∈ wsG := wG (mT6 _ (List.mem_of_getElem? (i := 123) (by decide +kernel))) rfl
theorem im_X12_text : Cond.instanceMethod yX12_text ∈ wsG := wG (mT6 _ (List.mem_of_getElem? (i := 124) (by decide +kernel))) rfl
theorem se_X12_text : Cond.selects RX12 yX12_text yX12_text ∈ wsG := wG (mT6 _ (List.mem_of_getElem? (i := 125) (by decide +kernel))) rfl
theorem co_X12_text : Cond.code yX12_text cX12_text 4 (some .int) ∈ wsG := wG (mT6 _ (List.mem_of_getElem? (i := 126) (by decide +kernel))) rfl
theorem fl_X12_299 : Cond.fieldLink RX12 299 "PointFirstModel" "faultKind" "I" ∈ wsG := wG (mT5 _ (List.mem_of_getElem? (i := 202) (by decide +kernel))) rfl
theorem fl_X12_227 : Cond.fieldLink RX12 227 "PointFirstModel" "wrong" "I" ∈ wsG := wG (mT5 _ (List.mem_of_getElem? (i := 200) (by decide +kernel))) rfl
theorem fl_X12_101 : Cond.fieldLink RX12 101 "PointFirstModel" "at" "I" ∈ wsG := wG (mT5 _ (List.mem_of_getElem? (i := 196) (by decide +kernel))) rfl
theorem fl_X12_186 : Cond.fieldLink RX12 186 "PointFirstModel" "reading" "I" ∈ wsG := wG (mT5 _ (List.mem_of_getElem? (i := 191) (by decide +kernel))) rfl
theorem fl_X12_230 : Cond.fieldLink RX12 230 "PointFirstModel" "wrongAt" "I" ∈ wsG := wG (mT5 _ (List.mem_of_getElem? (i := 201) (by decide +kernel))) rfl
theorem ml_X12_236 : Cond.methodLink RX12 236 yX12_next0 ∈ wsG := wG (mT6 _ (List.mem_of_getElem? (i := 127) (by decide +kernel))) rfl
theorem im_X12_next0 : Cond.instanceMethod yX12_next0 ∈ wsG := wG (mT6 _ (List.mem_of_getElem? (i := 129) (by decide +kernel))) rfl
theorem se_X12_next0 : Cond.selects RX12 yX12_next0 yX12_next0 ∈ wsG := wG (mP3 _ (List.mem_of_getElem? (i := 4) (by decide +kernel))) rfl
theorem co_X12_next0 : Cond.code yX12_next0 cX12_next0 3 none ∈ wsG := wG (mT6 _ (List.mem_of_getElem? (i := 130) (by decide +kernel))) rfl
theorem fl_X12_104 : Cond.fieldLink RX12 104 "PointFirstModel" "tokenAt" "I" ∈ wsG := wG (mT5 _ (List.mem_of_getElem? (i := 198) (by decide +kernel))) rfl
theorem fl_X12_212 : Cond.fieldLink RX12 212 "PointFirstModel" "token" "I" ∈ wsG := wG (mT5 _ (List.mem_of_getElem? (i := 197) (by decide +kernel))) rfl
theorem fl_X12_224 : Cond.fieldLink RX12 224 "PointFirstModel" "value" "I" ∈ wsG := wG (mT5 _ (List.mem_of_getElem? (i := 199) (by decide +kernel))) rfl
theorem ml_X12_209 : Cond.methodLink RX12 209 yX12_see ∈ wsG := wG (mT6 _ (List.mem_of_getElem? (i := 131) (by decide +kernel))) rfl
theorem im_X12_see : Cond.instanceMethod yX12_see ∈ wsG := wG (mT6 _ (List.mem_of_getElem? (i := 133) (by decide +kernel))) rfl
theorem se_X12_see : Cond.selects RX12 yX12_see yX12_see ∈ wsG := wG (mP3 _ (List.mem_of_getElem? (i := 5) (by decide +kernel))) rfl
theorem co_X12_see : Cond.code yX12_see cX12_see 2 (some .int) ∈ wsG := wG (mT6 _ (List.mem_of_getElem? (i := 134) (by decide +kernel))) rfl
theorem ml_X12_215 : Cond.methodLink RX12 215 yX12_isLetter ∈ wsG := wG (mT6 _ (List.mem_of_getElem? (i := 135) (by decide +kernel))) rfl
theorem st_X12_isLetter : Cond.static yX12_isLetter ∈ wsG := wG (mT6 _ (List.mem_of_getElem? (i := 136) (by decide +kernel))) rfl
theorem co_X12_isLetter : Cond.code yX12_isLetter cX12_isLetter 1 (some .boolean) ∈ wsG := wG (mT6 _ (List.mem_of_getElem? (i := 137) (by decide +kernel))) rfl
theorem ml_X12_218 : Cond.methodLink RX12 218 yX12_word ∈ wsG := wG (mT6 _ (List.mem_of_getElem? (i := 138) (by decide +kernel))) rfl
theorem im_X12_word : Cond.instanceMethod yX12_word ∈ wsG := wG (mT6 _ (List.mem_of_getElem? (i := 140) (by decide +kernel))) rfl
theorem se_X12_word : Cond.selects RX12 yX12_word yX12_word ∈ wsG := wG (mP3 _ (List.mem_of_getElem? (i := 6) (by decide +kernel))) rfl
theorem co_X12_word : Cond.code yX12_word cX12_word 1 (some .int) ∈ wsG := wG (mT6 _ (List.mem_of_getElem? (i := 141) (by decide +kernel))) rfl
theorem ml_X12_189 : Cond.methodLink RX12 189 yX12_planWord ∈ wsG := wG (mT6 _ (List.mem_of_getElem? (i := 142) (by decide +kernel))) rfl
theorem im_X12_planWord : Cond.instanceMethod yX12_planWord ∈ wsG := wG (mT6 _ (List.mem_of_getElem? (i := 144) (by decide +kernel))) rfl
theorem se_X12_planWord : Cond.selects RX12 yX12_planWord yX12_planWord ∈ wsG := wG (mP3 _ (List.mem_of_getElem? (i := 7) (by decide +kernel))) rfl
theorem co_X12_planWord : Cond.code yX12_planWord cX12_planWord 1 (some .int) ∈ wsG := wG (mT6 _ (List.mem_of_getElem? (i := 145) (by decide +kernel))) rfl
theorem ml_X12_119 : Cond.methodLink RX12 119 yX12_is ∈ wsG := wG (mT6 _ (List.mem_of_getElem? (i := 147) (by decide +kernel))) rfl
theorem im_X12_is : Cond.instanceMethod yX12_is ∈ wsG := wG (mT6 _ (List.mem_of_getElem? (i := 149) (by decide +kernel))) rfl
theorem se_X12_is : Cond.selects RX12 yX12_is yX12_is ∈ wsG := wG (mP3 _ (List.mem_of_getElem? (i := 8) (by decide +kernel))) rfl
theorem co_X12_is : Cond.code yX12_is cX12_is 4 (some .boolean) ∈ wsG := wG (mT6 _ (List.mem_of_getElem? (i := 150) (by decide +kernel))) rfl
theorem ml_X12_107 : Cond.methodLink RX12 107 yJ0_length_8abf5 ∈ wsG := wG (mT6 _ (List.mem_of_getElem? (i := 151) (by decide +kernel))) rfl
theorem ml_X12_113 : Cond.methodLink RX12 113 yJ0_charAt_5068e ∈ wsG := wG (mT6 _ (List.mem_of_getElem? (i := 152) (by decide +kernel))) rfl
theorem ml_X12_200 : Cond.methodLink RX12 200 yX12_flightWord ∈ wsG := wG (mT6 _ (List.mem_of_getElem? (i := 162) (by decide +kernel))) rfl
theorem im_X12_flightWord : Cond.instanceMethod yX12_flightWord ∈ wsG := wG (mT6 _ (List.mem_of_getElem? (i := 164) (by decide +kernel))) rfl
theorem se_X12_flightWord : Cond.selects RX12 yX12_flightWord yX12_flightWord ∈ wsG := wG (mP3 _ (List.mem_of_getElem? (i := 9) (by decide +kernel))) rfl
theorem co_X12_flightWord : Cond.code yX12_flightWord cX12_flightWord 1 (some .int) ∈ wsG := wG (mT6 _ (List.mem_of_getElem? (i := 165) (by decide +kernel))) rfl
theorem ml_X12_203 : Cond.methodLink RX12 203 yX12_armWord ∈ wsG := wG (mT6 _ (List.mem_of_getElem? (i := 179) (by decide +kernel))) rfl
theorem im_X12_armWord : Cond.instanceMethod yX12_armWord ∈ wsG := wG (mT6 _ (List.mem_of_getElem? (i := 181) (by decide +kernel))) rfl
theorem se_X12_armWord : Cond.selects RX12 yX12_armWord yX12_armWord ∈ wsG := wG (mP3 _ (List.mem_of_getElem? (i := 10) (by decide +kernel))) rfl
theorem co_X12_armWord : Cond.code yX12_armWord cX12_armWord 1 (some .int) ∈ wsG := wG (mT6 _ (List.mem_of_getElem? (i := 182) (by decide +kernel))) rfl
theorem ml_X12_206 : Cond.methodLink RX12 206 yX12_trainWord ∈ wsG := wG (mT6 _ (List.mem_of_getElem? (i := 193) (by decide +kernel))) rfl
theorem im_X12_trainWord : Cond.instanceMethod yX12_trainWord ∈ wsG := wG (mT6 _ (List.mem_of_getElem? (i := 195) (by decide +kernel))) rfl
theorem se_X12_trainWord : Cond.selects RX12 yX12_trainWord yX12_trainWord ∈ wsG := wG (mP3 _ (List.mem_of_getElem? (i := 11) (by decide +kernel))) rfl
theorem co_X12_trainWord : Cond.code yX12_trainWord cX12_trainWord 1 (some .int) ∈ wsG := wG (mT6 _ (List.mem_of_getElem? (i := 196) (by decide +kernel))) rfl
theorem ml_X12_221 : Cond.methodLink RX12 221 yX12_isDigit ∈ wsG := wG (mT6 _ (List.mem_of_getElem? (i := 201) (by decide +kernel))) rfl
theorem st_X12_isDigit : Cond.static yX12_isDigit ∈ wsG := wG (mT6 _ (List.mem_of_getElem? (i := 202) (by decide +kernel))) rfl
theorem co_X12_isDigit : Cond.code yX12_isDigit cX12_isDigit 1 (some .boolean) ∈ wsG := wG (mT6 _ (List.mem_of_getElem? (i := 203) (by decide +kernel))) rfl
theorem ml_X12_302 : Cond.methodLink RX12 302 yX12_readsPlan ∈ wsG := wG (mT6 _ (List.mem_of_getElem? (i := 204) (by decide +kernel))) rfl
theorem im_X12_readsPlan : Cond.instanceMethod yX12_readsPlan ∈ wsG := wG (mT6 _ (List.mem_of_getElem? (i := 206) (by decide +kernel))) rfl
theorem se_X12_readsPlan : Cond.selects RX12 yX12_readsPlan yX12_readsPlan ∈ wsG := wG (mP3 _ (List.mem_of_getElem? (i := 12) (by decide +kernel))) rfl
theorem co_X12_readsPlan : Cond.code yX12_readsPlan cX12_readsPlan 2 (some .boolean) ∈ wsG := wG (mT6 _ (List.mem_of_getElem? (i := 207) (by decide +kernel))) rfl
theorem fl_X12_287 : Cond.fieldLink RX12 287 "PointFirstModel" "ordered" "I" ∈ wsG := wG (mT5 _ (List.mem_of_getElem? (i := 194) (by decide +kernel))) rfl
theorem ml_X12_296 : Cond.methodLink RX12 296 yX12_anOrder ∈ wsG := wG (mT6 _ (List.mem_of_getElem? (i := 208) (by decide +kernel))) rfl
theorem im_X12_anOrder : Cond.instanceMethod yX12_anOrder ∈ wsG := wG (mT6 _ (List.mem_of_getElem? (i := 210) (by decide +kernel))) rfl
theorem se_X12_anOrder : Cond.selects RX12 yX12_anOrder yX12_anOrder ∈ wsG := wG (mP3 _ (List.mem_of_getElem? (i := 13) (by decide +kernel))) rfl
theorem co_X12_anOrder : Cond.code yX12_anOrder cX12_anOrder 2 (some .boolean) ∈ wsG := wG (mT6 _ (List.mem_of_getElem? (i := 211) (by decide +kernel))) rfl
theorem ml_X12_233 : Cond.methodLink RX12 233 yX12_bad ∈ wsG := wG (mT6 _ (List.mem_of_getElem? (i := 212) (by decide +kernel))) rfl
theorem im_X12_bad : Cond.instanceMethod yX12_bad ∈ wsG := wG (mT6 _ (List.mem_of_getElem? (i := 214) (by decide +kernel))) rfl
theorem se_X12_bad : Cond.selects RX12 yX12_bad yX12_bad ∈ wsG := wG (mP3 _ (List.mem_of_getElem? (i := 14) (by decide +kernel))) rfl
theorem co_X12_bad : Cond.code yX12_bad cX12_bad 2 (some .boolean) ∈ wsG := wG (mT6 _ (List.mem_of_getElem? (i := 215) (by decide +kernel))) rfl
theorem ml_X12_293 : Cond.methodLink RX12 293 yX12_aThrow ∈ wsG := wG (mT6 _ (List.mem_of_getElem? (i := 216) (by decide +kernel))) rfl
theorem im_X12_aThrow : Cond.instanceMethod yX12_aThrow ∈ wsG := wG (mT6 _ (List.mem_of_getElem? (i := 218) (by decide +kernel))) rfl
theorem se_X12_aThrow : Cond.selects RX12 yX12_aThrow yX12_aThrow ∈ wsG := wG (mP3 _ (List.mem_of_getElem? (i := 15) (by decide +kernel))) rfl
theorem co_X12_aThrow : Cond.code yX12_aThrow cX12_aThrow 1 (some .boolean) ∈ wsG := wG (mT6 _ (List.mem_of_getElem? (i := 219) (by decide +kernel))) rfl
theorem ml_X12_290 : Cond.methodLink RX12 290 yX12_told ∈ wsG := wG (mT6 _ (List.mem_of_getElem? (i := 220) (by decide +kernel))) rfl
theorem im_X12_told : Cond.instanceMethod yX12_told ∈ wsG := wG (mT6 _ (List.mem_of_getElem? (i := 222) (by decide +kernel))) rfl
theorem se_X12_told : Cond.selects RX12 yX12_told yX12_told ∈ wsG := wG (mP4 _ (List.mem_of_getElem? (i := 0) (by decide +kernel))) rfl
theorem co_X12_told : Cond.code yX12_told cX12_told 4 (some .boolean) ∈ wsG := wG (mT6 _ (List.mem_of_getElem? (i := 223) (by decide +kernel))) rfl
theorem fl_X12_280 : Cond.fieldLink RX12 280 "PointFirstModel" "numbered" "I" ∈ wsG := wG (mT5 _ (List.mem_of_getElem? (i := 205) (by decide +kernel))) rfl
theorem ml_X12_268 : Cond.methodLink RX12 268 yX12_need ∈ wsG := wG (mT6 _ (List.mem_of_getElem? (i := 224) (by decide +kernel))) rfl
theorem im_X12_need : Cond.instanceMethod yX12_need ∈ wsG := wG (mT6 _ (List.mem_of_getElem? (i := 226) (by decide +kernel))) rfl
theorem se_X12_need : Cond.selects RX12 yX12_need yX12_need ∈ wsG := wG (mP4 _ (List.mem_of_getElem? (i := 1) (by decide +kernel))) rfl
theorem co_X12_need : Cond.code yX12_need cX12_need 2 (some .boolean) ∈ wsG := wG (mT6 _ (List.mem_of_getElem? (i := 227) (by decide +kernel))) rfl
theorem ml_X12_283 : Cond.methodLink RX12 283 yX12_number ∈ wsG := wG (mT6 _ (List.mem_of_getElem? (i := 228) (by decide +kernel))) rfl
theorem im_X12_number : Cond.instanceMethod yX12_number ∈ wsG := wG (mT6 _ (List.mem_of_getElem? (i := 230) (by decide +kernel))) rfl
theorem se_X12_number : Cond.selects RX12 yX12_number yX12_number ∈ wsG := wG (mP4 _ (List.mem_of_getElem? (i := 2) (by decide +kernel))) rfl
theorem co_X12_number : Cond.code yX12_number cX12_number 3 (some .boolean) ∈ wsG := wG (mT6 _ (List.mem_of_getElem? (i := 231) (by decide +kernel))) rfl
theorem ml_X12_305 : Cond.methodLink RX12 305 yX12_readsLaw ∈ wsG := wG (mT6 _ (List.mem_of_getElem? (i := 232) (by decide +kernel))) rfl
theorem im_X12_readsLaw : Cond.instanceMethod yX12_readsLaw ∈ wsG := wG (mT6 _ (List.mem_of_getElem? (i := 234) (by decide +kernel))) rfl
theorem se_X12_readsLaw : Cond.selects RX12 yX12_readsLaw yX12_readsLaw ∈ wsG := wG (mP4 _ (List.mem_of_getElem? (i := 3) (by decide +kernel))) rfl
theorem co_X12_readsLaw : Cond.code yX12_readsLaw cX12_readsLaw 2 (some .boolean) ∈ wsG := wG (mT6 _ (List.mem_of_getElem? (i := 235) (by decide +kernel))) rfl
theorem fl_X12_274 : Cond.fieldLink RX12 274 "PointFirstModel" "lines" "I" ∈ wsG := wG (mT5 _ (List.mem_of_getElem? (i := 192) (by decide +kernel))) rfl
theorem fl_X12_239 : Cond.fieldLink RX12 239 "PointFirstModel" "steps" "I" ∈ wsG := wG (mT5 _ (List.mem_of_getElem? (i := 193) (by decide +kernel))) rfl
theorem ml_X12_277 : Cond.methodLink RX12 277 yX12_aLine ∈ wsG := wG (mT6 _ (List.mem_of_getElem? (i := 236) (by decide +kernel))) rfl
theorem im_X12_aLine : Cond.instanceMethod yX12_aLine ∈ wsG := wG (mT6 _ (List.mem_of_getElem? (i := 238) (by decide +kernel))) rfl
theorem se_X12_aLine : Cond.selects RX12 yX12_aLine yX12_aLine ∈ wsG := wG (mP4 _ (List.mem_of_getElem? (i := 4) (by decide +kernel))) rfl
theorem co_X12_aLine : Cond.code yX12_aLine cX12_aLine 1 (some .boolean) ∈ wsG := wG (mT6 _ (List.mem_of_getElem? (i := 239) (by decide +kernel))) rfl
theorem fl_X12_242 : Cond.fieldLink RX12 242 "PointFirstModel" "depth" "I" ∈ wsG := wG (mT5 _ (List.mem_of_getElem? (i := 203) (by decide +kernel))) rfl
theorem ml_X12_271 : Cond.methodLink RX12 271 yX12_sumUp ∈ wsG := wG (mT7 _ (List.mem_of_getElem? (i := 0) (by decide +kernel))) rfl
theorem im_X12_sumUp : Cond.instanceMethod yX12_sumUp ∈ wsG := wG (mT7 _ (List.mem_of_getElem? (i := 2) (by decide +kernel))) rfl
theorem se_X12_sumUp : Cond.selects RX12 yX12_sumUp yX12_sumUp ∈ wsG := wG (mP4 _ (List.mem_of_getElem? (i := 5) (by decide +kernel))) rfl
theorem co_X12_sumUp : Cond.code yX12_sumUp cX12_sumUp 2 (some .boolean) ∈ wsG := wG (mT7 _ (List.mem_of_getElem? (i := 3) (by decide +kernel))) rfl
theorem ml_X12_245 : Cond.methodLink RX12 245 yX12_product ∈ wsG := wG (mT7 _ (List.mem_of_getElem? (i := 4) (by decide +kernel))) rfl
theorem im_X12_product : Cond.instanceMethod yX12_product ∈ wsG := wG (mT7 _ (List.mem_of_getElem? (i := 6) (by decide +kernel))) rfl
theorem se_X12_product : Cond.selects RX12 yX12_product yX12_product ∈ wsG := wG (mP4 _ (List.mem_of_getElem? (i := 6) (by decide +kernel))) rfl
theorem co_X12_product : Cond.code yX12_product cX12_product 3 (some .boolean) ∈ wsG := wG (mT7 _ (List.mem_of_getElem? (i := 7) (by decide +kernel))) rfl
theorem ml_X12_253 : Cond.methodLink RX12 253 yX12_unit ∈ wsG := wG (mT7 _ (List.mem_of_getElem? (i := 8) (by decide +kernel))) rfl
theorem im_X12_unit : Cond.instanceMethod yX12_unit ∈ wsG := wG (mT7 _ (List.mem_of_getElem? (i := 10) (by decide +kernel))) rfl
theorem se_X12_unit : Cond.selects RX12 yX12_unit yX12_unit ∈ wsG := wG (mP4 _ (List.mem_of_getElem? (i := 7) (by decide +kernel))) rfl
theorem co_X12_unit : Cond.code yX12_unit cX12_unit 2 (some .boolean) ∈ wsG := wG (mT7 _ (List.mem_of_getElem? (i := 11) (by decide +kernel))) rfl
theorem ml_X12_249 : Cond.methodLink RX12 249 yX12_lay ∈ wsG := wG (mT7 _ (List.mem_of_getElem? (i := 12) (by decide +kernel))) rfl
theorem im_X12_lay : Cond.instanceMethod yX12_lay ∈ wsG := wG (mT7 _ (List.mem_of_getElem? (i := 14) (by decide +kernel))) rfl
theorem se_X12_lay : Cond.selects RX12 yX12_lay yX12_lay ∈ wsG := wG (mP4 _ (List.mem_of_getElem? (i := 8) (by decide +kernel))) rfl
theorem co_X12_lay : Cond.code yX12_lay cX12_lay 3 none ∈ wsG := wG (mT7 _ (List.mem_of_getElem? (i := 15) (by decide +kernel))) rfl
theorem ml_X12_265 : Cond.methodLink RX12 265 yX12_any ∈ wsG := wG (mT7 _ (List.mem_of_getElem? (i := 16) (by decide +kernel))) rfl
theorem im_X12_any : Cond.instanceMethod yX12_any ∈ wsG := wG (mT7 _ (List.mem_of_getElem? (i := 18) (by decide +kernel))) rfl
theorem se_X12_any : Cond.selects RX12 yX12_any yX12_any ∈ wsG := wG (mP4 _ (List.mem_of_getElem? (i := 9) (by decide +kernel))) rfl
theorem co_X12_any : Cond.code yX12_any cX12_any 1 (some .boolean) ∈ wsG := wG (mT7 _ (List.mem_of_getElem? (i := 19) (by decide +kernel))) rfl
theorem ml_X12_256 : Cond.methodLink RX12 256 yX12_every ∈ wsG := wG (mT7 _ (List.mem_of_getElem? (i := 20) (by decide +kernel))) rfl
theorem im_X12_every : Cond.instanceMethod yX12_every ∈ wsG := wG (mT7 _ (List.mem_of_getElem? (i := 22) (by decide +kernel))) rfl
theorem se_X12_every : Cond.selects RX12 yX12_every yX12_every ∈ wsG := wG (mP4 _ (List.mem_of_getElem? (i := 10) (by decide +kernel))) rfl
theorem co_X12_every : Cond.code yX12_every cX12_every 1 (some .boolean) ∈ wsG := wG (mT7 _ (List.mem_of_getElem? (i := 23) (by decide +kernel))) rfl
theorem ml_X12_259 : Cond.methodLink RX12 259 yX12_oneTest ∈ wsG := wG (mT7 _ (List.mem_of_getElem? (i := 24) (by decide +kernel))) rfl
theorem im_X12_oneTest : Cond.instanceMethod yX12_oneTest ∈ wsG := wG (mT7 _ (List.mem_of_getElem? (i := 26) (by decide +kernel))) rfl
theorem se_X12_oneTest : Cond.selects RX12 yX12_oneTest yX12_oneTest ∈ wsG := wG (mP4 _ (List.mem_of_getElem? (i := 11) (by decide +kernel))) rfl
theorem co_X12_oneTest : Cond.code yX12_oneTest cX12_oneTest 2 (some .boolean) ∈ wsG := wG (mT7 _ (List.mem_of_getElem? (i := 27) (by decide +kernel))) rfl
theorem ml_X12_262 : Cond.methodLink RX12 262 yX12_opens ∈ wsG := wG (mT7 _ (List.mem_of_getElem? (i := 28) (by decide +kernel))) rfl
theorem im_X12_opens : Cond.instanceMethod yX12_opens ∈ wsG := wG (mT7 _ (List.mem_of_getElem? (i := 30) (by decide +kernel))) rfl
theorem se_X12_opens : Cond.selects RX12 yX12_opens yX12_opens ∈ wsG := wG (mP4 _ (List.mem_of_getElem? (i := 12) (by decide +kernel))) rfl
theorem co_X12_opens : Cond.code yX12_opens cX12_opens 1 (some .boolean) ∈ wsG := wG (mT7 _ (List.mem_of_getElem? (i := 31) (by decide +kernel))) rfl
theorem ml_X12_308 : Cond.methodLink RX12 308 yX12_putsPlan ∈ wsG := wG (mT7 _ (List.mem_of_getElem? (i := 32) (by decide +kernel))) rfl
theorem im_X12_putsPlan : Cond.instanceMethod yX12_putsPlan ∈ wsG := wG (mT7 _ (List.mem_of_getElem? (i := 34) (by decide +kernel))) rfl
theorem se_X12_putsPlan : Cond.selects RX12 yX12_putsPlan yX12_putsPlan ∈ wsG := wG (mP4 _ (List.mem_of_getElem? (i := 13) (by decide +kernel))) rfl
theorem co_X12_putsPlan : Cond.code yX12_putsPlan cX12_putsPlan 3 (some .int) ∈ wsG := wG (mT7 _ (List.mem_of_getElem? (i := 35) (by decide +kernel))) rfl
theorem ml_X12_311 : Cond.methodLink RX12 311 yX12_putsLaw ∈ wsG := wG (mT7 _ (List.mem_of_getElem? (i := 36) (by decide +kernel))) rfl
theorem im_X12_putsLaw : Cond.instanceMethod yX12_putsLaw ∈ wsG := wG (mT7 _ (List.mem_of_getElem? (i := 38) (by decide +kernel))) rfl
theorem se_X12_putsLaw : Cond.selects RX12 yX12_putsLaw yX12_putsLaw ∈ wsG := wG (mP4 _ (List.mem_of_getElem? (i := 14) (by decide +kernel))) rfl
theorem co_X12_putsLaw : Cond.code yX12_putsLaw cX12_putsLaw 3 (some .int) ∈ wsG := wG (mT7 _ (List.mem_of_getElem? (i := 39) (by decide +kernel))) rfl
theorem ml_L_46 : Cond.methodLink RL 46 yX11_fault ∈ wsG := wG (mT3 _ (List.mem_of_getElem? (i := 158) (by decide +kernel))) rfl
theorem im_X11_fault : Cond.instanceMethod yX11_fault ∈ wsG := wG (mT3 _ (List.mem_of_getElem? (i := 159) (by decide +kernel))) rfl
theorem se_X11_fault : Cond.selects RX11 yX11_fault yX11_fault ∈ wsG := wG (mT3 _ (List.mem_of_getElem? (i := 160) (by decide +kernel))) rfl
theorem co_X11_fault : Cond.code yX11_fault cX11_fault 2 (some .int) ∈ wsG := wG (mT3 _ (List.mem_of_getElem? (i := 161) (by decide +kernel))) rfl
theorem fl_X11_170 : Cond.fieldLink RX11 170 "PointFirst$Reader" "fault" "I" ∈ wsG := wG (mT2 _ (List.mem_of_getElem? (i := 7) (by decide +kernel))) rfl
theorem fl_X11_173 : Cond.fieldLink RX11 173 "PointFirst$Reader" "faultPlace" "I" ∈ wsG := wG (mT2 _ (List.mem_of_getElem? (i := 9) (by decide +kernel))) rfl
theorem ml_L_49 : Cond.methodLink RL 49 yX12_fault ∈ wsG := wG (mT7 _ (List.mem_of_getElem? (i := 40) (by decide +kernel))) rfl
theorem im_X12_fault : Cond.instanceMethod yX12_fault ∈ wsG := wG (mT7 _ (List.mem_of_getElem? (i := 41) (by decide +kernel))) rfl
theorem se_X12_fault : Cond.selects RX12 yX12_fault yX12_fault ∈ wsG := wG (mT7 _ (List.mem_of_getElem? (i := 42) (by decide +kernel))) rfl
theorem co_X12_fault : Cond.code yX12_fault cX12_fault 2 (some .int) ∈ wsG := wG (mT7 _ (List.mem_of_getElem? (i := 43) (by decide +kernel))) rfl
theorem ml_L_50 : Cond.methodLink RL 50 yX11_throwIt ∈ wsG := wG (mT3 _ (List.mem_of_getElem? (i := 166) (by decide +kernel))) rfl
theorem im_X11_throwIt : Cond.instanceMethod yX11_throwIt ∈ wsG := wG (mT3 _ (List.mem_of_getElem? (i := 167) (by decide +kernel))) rfl
theorem se_X11_throwIt : Cond.selects RX11 yX11_throwIt yX11_throwIt ∈ wsG := wG (mT3 _ (List.mem_of_getElem? (i := 168) (by decide +kernel))) rfl
theorem co_X11_throwIt : Cond.code yX11_throwIt cX11_throwIt 6 (some .int) ∈ wsG := wG (mT3 _ (List.mem_of_getElem? (i := 169) (by decide +kernel))) rfl
theorem ml_X11_182 : Cond.methodLink RX11 182 yX10_whose ∈ wsG := wG (mT3 _ (List.mem_of_getElem? (i := 170) (by decide +kernel))) rfl
theorem im_X10_whose : Cond.instanceMethod yX10_whose ∈ wsG := wG (mT3 _ (List.mem_of_getElem? (i := 171) (by decide +kernel))) rfl
theorem se_X10_whose : Cond.selects RX10 yX10_whose yX10_whose ∈ wsG := wG (mT3 _ (List.mem_of_getElem? (i := 172) (by decide +kernel))) rfl
theorem co_X10_whose : Cond.code yX10_whose cX10_whose 1 (some (.object "PointFirst$Thrower")) ∈ wsG := wG (mT3 _ (List.mem_of_getElem? (i := 173) (by decide +kernel))) rfl
theorem ml_X10_93 : Cond.methodLink RX10 93 yX10_one ∈ wsG := wG (mT3 _ (List.mem_of_getElem? (i := 174) (by decide +kernel))) rfl
theorem ml_X11_186 : Cond.methodLink RX11 186 yX11_canThrow ∈ wsG := wG (mT3 _ (List.mem_of_getElem? (i := 175) (by decide +kernel))) rfl
theorem im_X11_canThrow : Cond.instanceMethod yX11_canThrow ∈ wsG := wG (mT3 _ (List.mem_of_getElem? (i := 177) (by decide +kernel))) rfl
theorem se_X11_canThrow : Cond.selects RX11 yX11_canThrow yX11_canThrow ∈ wsG := wG (mP2 _ (List.mem_of_getElem? (i := 5) (by decide +kernel))) rfl
theorem co_X11_canThrow : Cond.code yX11_canThrow cX11_canThrow 4 (some .boolean) ∈ wsG := wG (mT3 _ (List.mem_of_getElem? (i := 178) (by decide +kernel))) rfl
theorem ml_X11_193 : Cond.methodLink RX11 193 yX10_hasSpear ∈ wsG := wG (mT3 _ (List.mem_of_getElem? (i := 179) (by decide +kernel))) rfl
theorem im_X10_hasSpear : Cond.instanceMethod yX10_hasSpear ∈ wsG := wG (mT3 _ (List.mem_of_getElem? (i := 180) (by decide +kernel))) rfl
theorem se_X10_hasSpear : Cond.selects RX10 yX10_hasSpear yX10_hasSpear ∈ wsG := wG (mT3 _ (List.mem_of_getElem? (i := 181) (by decide +kernel))) rfl
theorem co_X10_hasSpear : Cond.code yX10_hasSpear cX10_hasSpear 2 (some .boolean) ∈ wsG := wG (mT3 _ (List.mem_of_getElem? (i := 182) (by decide +kernel))) rfl
theorem ml_X11_189 : Cond.methodLink RX11 189 yX11_hurl ∈ wsG := wG (mT3 _ (List.mem_of_getElem? (i := 183) (by decide +kernel))) rfl
theorem im_X11_hurl : Cond.instanceMethod yX11_hurl ∈ wsG := wG (mT3 _ (List.mem_of_getElem? (i := 185) (by decide +kernel))) rfl
theorem se_X11_hurl : Cond.selects RX11 yX11_hurl yX11_hurl ∈ wsG := wG (mP2 _ (List.mem_of_getElem? (i := 6) (by decide +kernel))) rfl
theorem co_X11_hurl : Cond.code yX11_hurl cX11_hurl 13 (some .int) ∈ wsG := wG (mT3 _ (List.mem_of_getElem? (i := 186) (by decide +kernel))) rfl
theorem ml_X11_200 : Cond.methodLink RX11 200 Lib.Math.min.name ∈ wsG := wG (mT3 _ (List.mem_of_getElem? (i := 194) (by decide +kernel))) rfl
theorem st_J9_min_7cf53 : Cond.static Lib.Math.min.name ∈ wsG := wG (mT3 _ (List.mem_of_getElem? (i := 192) (by decide +kernel))) rfl
theorem in_J9 : Cond.initialized "java/lang/Math" ∈ wsG := wG (mT1 _ (List.mem_of_getElem? (i := 17) (by decide +kernel))) rfl
theorem co_J9_min_7cf53 : Cond.code Lib.Math.min.name Lib.Math.min.code 2 (some .int) ∈ wsG := wG (mT3 _ (List.mem_of_getElem? (i := 193) (by decide +kernel))) rfl
theorem fl_X11_205 : Cond.fieldLink RX11 205 "PointFirst$World" "round" "I" ∈ wsG := wG (mT1 _ (List.mem_of_getElem? (i := 125) (by decide +kernel))) rfl
theorem fl_X11_222 : Cond.fieldLink RX11 222 "PointFirst$World" "told" "[I" ∈ wsG := wG (mT1 _ (List.mem_of_getElem? (i := 140) (by decide +kernel))) rfl
theorem fl_X11_232 : Cond.fieldLink RX11 232 "PointFirst$Thought" "flight" "LPointFirst$Flight;" ∈ wsG := wG (mT2 _ (List.mem_of_getElem? (i := 66) (by decide +kernel))) rfl
theorem fl_X11_247 : Cond.fieldLink RX11 247 "PointFirst$Thrower" "thrown" "I" ∈ wsG := wG (mT1 _ (List.mem_of_getElem? (i := 94) (by decide +kernel))) rfl
theorem fl_X11_250 : Cond.fieldLink RX11 250 "PointFirst$Thrower" "best" "I" ∈ wsG := wG (mT1 _ (List.mem_of_getElem? (i := 88) (by decide +kernel))) rfl
theorem fl_X11_253 : Cond.fieldLink RX11 253 "PointFirst$Flight" "far" "I" ∈ wsG := wG (mT2 _ (List.mem_of_getElem? (i := 48) (by decide +kernel))) rfl
theorem ml_X11_256 : Cond.methodLink RX11 256 Lib.Math.max.name ∈ wsG := wG (mT4 _ (List.mem_of_getElem? (i := 35) (by decide +kernel))) rfl
theorem st_J9_max_7cf53 : Cond.static Lib.Math.max.name ∈ wsG := wG (mT4 _ (List.mem_of_getElem? (i := 22) (by decide +kernel))) rfl
theorem co_J9_max_7cf53 : Cond.code Lib.Math.max.name Lib.Math.max.code 2 (some .int) ∈ wsG := wG (mT4 _ (List.mem_of_getElem? (i := 23) (by decide +kernel))) rfl
theorem ml_X11_196 : Cond.methodLink RX11 196 yX4_remember ∈ wsG := wG (mT3 _ (List.mem_of_getElem? (i := 187) (by decide +kernel))) rfl
theorem im_X4_remember : Cond.instanceMethod yX4_remember ∈ wsG := wG (mT3 _ (List.mem_of_getElem? (i := 188) (by decide +kernel))) rfl
theorem se_X4_remember : Cond.selects RX4 yX4_remember yX4_remember ∈ wsG := wG (mT3 _ (List.mem_of_getElem? (i := 189) (by decide +kernel))) rfl
theorem co_X4_remember : Cond.code yX4_remember cX4_remember 4 none ∈ wsG := wG (mT3 _ (List.mem_of_getElem? (i := 190) (by decide +kernel))) rfl
theorem fl_X4_18 : Cond.fieldLink RX4 18 "PointFirst$Past" "latest" "I" ∈ wsG := wG (mT2 _ (List.mem_of_getElem? (i := 101) (by decide +kernel))) rfl
theorem ml_X4_21 : Cond.methodLink RX4 21 Lib.Math.min.name ∈ wsG := wG (mT3 _ (List.mem_of_getElem? (i := 191) (by decide +kernel))) rfl
theorem fl_X4_27 : Cond.fieldLink RX4 27 "PointFirst$World" "state" "I" ∈ wsG := wG (mT1 _ (List.mem_of_getElem? (i := 119) (by decide +kernel))) rfl
theorem fl_X4_32 : Cond.fieldLink RX4 32 "PointFirst$World" "lines" "I" ∈ wsG := wG (mT1 _ (List.mem_of_getElem? (i := 134) (by decide +kernel))) rfl
theorem fl_X4_35 : Cond.fieldLink RX4 35 "PointFirst$World" "round" "I" ∈ wsG := wG (mT1 _ (List.mem_of_getElem? (i := 123) (by decide +kernel))) rfl
theorem fl_X4_38 : Cond.fieldLink RX4 38 "PointFirst$World" "turn" "I" ∈ wsG := wG (mT1 _ (List.mem_of_getElem? (i := 127) (by decide +kernel))) rfl
theorem fl_X4_41 : Cond.fieldLink RX4 41 "PointFirst$Thrower" "wear" "I" ∈ wsG := wG (mT1 _ (List.mem_of_getElem? (i := 82) (by decide +kernel))) rfl
theorem fl_X4_46 : Cond.fieldLink RX4 46 "PointFirst$Thrower" "best" "I" ∈ wsG := wG (mT1 _ (List.mem_of_getElem? (i := 87) (by decide +kernel))) rfl
theorem fl_X4_49 : Cond.fieldLink RX4 49 "PointFirst$Thrower" "thrown" "I" ∈ wsG := wG (mT1 _ (List.mem_of_getElem? (i := 92) (by decide +kernel))) rfl
theorem fl_X4_52 : Cond.fieldLink RX4 52 "PointFirst$Thrower" "next" "I" ∈ wsG := wG (mT1 _ (List.mem_of_getElem? (i := 98) (by decide +kernel))) rfl
theorem ml_X11_208 : Cond.methodLink RX11 208 yX0_ask ∈ wsG := wG (mT3 _ (List.mem_of_getElem? (i := 195) (by decide +kernel))) rfl
theorem im_X0_ask : Cond.instanceMethod yX0_ask ∈ wsG := wG (mT3 _ (List.mem_of_getElem? (i := 196) (by decide +kernel))) rfl
theorem se_X0_ask : Cond.selects RX0 yX0_ask yX0_ask ∈ wsG := wG (mT3 _ (List.mem_of_getElem? (i := 197) (by decide +kernel))) rfl
theorem co_X0_ask : Cond.code yX0_ask cX0_ask 3 none ∈ wsG := wG (mT3 _ (List.mem_of_getElem? (i := 198) (by decide +kernel))) rfl
theorem fl_X0_17 : Cond.fieldLink RX0 17 "PointFirst$Thrower" "wear" "I" ∈ wsG := wG (mT1 _ (List.mem_of_getElem? (i := 81) (by decide +kernel))) rfl
theorem fl_X0_23 : Cond.fieldLink RX0 23 "PointFirst$Thrower" "thrown" "I" ∈ wsG := wG (mT1 _ (List.mem_of_getElem? (i := 90) (by decide +kernel))) rfl
theorem fl_X0_30 : Cond.fieldLink RX0 30 "PointFirst$Thrower" "best" "I" ∈ wsG := wG (mT1 _ (List.mem_of_getElem? (i := 85) (by decide +kernel))) rfl
theorem fl_X0_37 : Cond.fieldLink RX0 37 "PointFirst$Thrower" "power" "I" ∈ wsG := wG (mT1 _ (List.mem_of_getElem? (i := 77) (by decide +kernel))) rfl
theorem ml_X0_13 : Cond.methodLink RX0 13 yX0_askThrow ∈ wsG := wG (mT3 _ (List.mem_of_getElem? (i := 199) (by decide +kernel))) rfl
theorem im_X0_askThrow : Cond.instanceMethod yX0_askThrow ∈ wsG := wG (mT3 _ (List.mem_of_getElem? (i := 200) (by decide +kernel))) rfl
theorem se_X0_askThrow : Cond.selects RX0 yX0_askThrow yX0_askThrow ∈ wsG := wG (mT3 _ (List.mem_of_getElem? (i := 201) (by decide +kernel))) rfl
theorem co_X0_askThrow : Cond.code yX0_askThrow cX0_askThrow 4 none ∈ wsG := wG (mT3 _ (List.mem_of_getElem? (i := 202) (by decide +kernel))) rfl
theorem ml_X0_26 : Cond.methodLink RX0 26 yX0_askState ∈ wsG := wG (mT3 _ (List.mem_of_getElem? (i := 203) (by decide +kernel))) rfl
theorem im_X0_askState : Cond.instanceMethod yX0_askState ∈ wsG := wG (mT3 _ (List.mem_of_getElem? (i := 204) (by decide +kernel))) rfl
theorem se_X0_askState : Cond.selects RX0 yX0_askState yX0_askState ∈ wsG := wG (mT3 _ (List.mem_of_getElem? (i := 205) (by decide +kernel))) rfl
theorem co_X0_askState : Cond.code yX0_askState cX0_askState 3 none ∈ wsG := wG (mT3 _ (List.mem_of_getElem? (i := 206) (by decide +kernel))) rfl
theorem ml_X0_33 : Cond.methodLink RX0 33 yX0_askBest ∈ wsG := wG (mT3 _ (List.mem_of_getElem? (i := 207) (by decide +kernel))) rfl
theorem im_X0_askBest : Cond.instanceMethod yX0_askBest ∈ wsG := wG (mT3 _ (List.mem_of_getElem? (i := 208) (by decide +kernel))) rfl
theorem se_X0_askBest : Cond.selects RX0 yX0_askBest yX0_askBest ∈ wsG := wG (mT3 _ (List.mem_of_getElem? (i := 209) (by decide +kernel))) rfl
theorem co_X0_askBest : Cond.code yX0_askBest cX0_askBest 2 none ∈ wsG := wG (mT3 _ (List.mem_of_getElem? (i := 210) (by decide +kernel))) rfl
theorem ml_X11_212 : Cond.methodLink RX11 212 yX0_askThrow ∈ wsG := wG (mT3 _ (List.mem_of_getElem? (i := 211) (by decide +kernel))) rfl
theorem ml_X11_216 : Cond.methodLink RX11 216 yX0_tell ∈ wsG := wG (mT3 _ (List.mem_of_getElem? (i := 212) (by decide +kernel))) rfl
theorem im_X0_tell : Cond.instanceMethod yX0_tell ∈ wsG := wG (mT3 _ (List.mem_of_getElem? (i := 213) (by decide +kernel))) rfl
theorem se_X0_tell : Cond.selects RX0 yX0_tell yX0_tell ∈ wsG := wG (mT3 _ (List.mem_of_getElem? (i := 214) (by decide +kernel))) rfl
theorem co_X0_tell : Cond.code yX0_tell cX0_tell 3 (some .int) ∈ wsG := wG (mT3 _ (List.mem_of_getElem? (i := 215) (by decide +kernel))) rfl
theorem ml_X0_40 : Cond.methodLink RX0 40 yX3_tell ∈ wsG := wG (mT3 _ (List.mem_of_getElem? (i := 216) (by decide +kernel))) rfl
theorem im_X3_tell : Cond.instanceMethod yX3_tell ∈ wsG := wG (mT3 _ (List.mem_of_getElem? (i := 217) (by decide +kernel))) rfl
theorem se_X3_tell : Cond.selects RX3 yX3_tell yX3_tell ∈ wsG := wG (mT3 _ (List.mem_of_getElem? (i := 218) (by decide +kernel))) rfl
theorem co_X3_tell : Cond.code yX3_tell cX3_tell 4 (some .int) ∈ wsG := wG (mT3 _ (List.mem_of_getElem? (i := 219) (by decide +kernel))) rfl
theorem ml_X3_43 : Cond.methodLink RX3 43 yX3_count ∈ wsG := wG (mT3 _ (List.mem_of_getElem? (i := 220) (by decide +kernel))) rfl
theorem im_X3_count : Cond.instanceMethod yX3_count ∈ wsG := wG (mT3 _ (List.mem_of_getElem? (i := 222) (by decide +kernel))) rfl
theorem se_X3_count : Cond.selects RX3 yX3_count yX3_count ∈ wsG := wG (mP2 _ (List.mem_of_getElem? (i := 7) (by decide +kernel))) rfl
theorem co_X3_count : Cond.code yX3_count cX3_count 8 (some .int) ∈ wsG := wG (mT3 _ (List.mem_of_getElem? (i := 223) (by decide +kernel))) rfl
theorem ml_X3_47 : Cond.methodLink RX3 47 yX3_join ∈ wsG := wG (mT3 _ (List.mem_of_getElem? (i := 224) (by decide +kernel))) rfl
theorem st_X3_join : Cond.static yX3_join ∈ wsG := wG (mT3 _ (List.mem_of_getElem? (i := 225) (by decide +kernel))) rfl
theorem co_X3_join : Cond.code yX3_join cX3_join 3 (some .int) ∈ wsG := wG (mT3 _ (List.mem_of_getElem? (i := 226) (by decide +kernel))) rfl
theorem st_X11_hold : Cond.static yX11_hold ∈ wsG := wG (mT3 _ (List.mem_of_getElem? (i := 228) (by decide +kernel))) rfl
theorem co_X11_hold : Cond.code yX11_hold cX11_hold 3 (some .int) ∈ wsG := wG (mT3 _ (List.mem_of_getElem? (i := 229) (by decide +kernel))) rfl
theorem ml_X11_219 : Cond.methodLink RX11 219 yX10_draw ∈ wsG := wG (mT3 _ (List.mem_of_getElem? (i := 230) (by decide +kernel))) rfl
theorem im_X10_draw : Cond.instanceMethod yX10_draw ∈ wsG := wG (mT3 _ (List.mem_of_getElem? (i := 231) (by decide +kernel))) rfl
theorem se_X10_draw : Cond.selects RX10 yX10_draw yX10_draw ∈ wsG := wG (mT3 _ (List.mem_of_getElem? (i := 232) (by decide +kernel))) rfl
theorem co_X10_draw : Cond.code yX10_draw cX10_draw 2 (some .int) ∈ wsG := wG (mT3 _ (List.mem_of_getElem? (i := 233) (by decide +kernel))) rfl
theorem fl_X10_47 : Cond.fieldLink RX10 47 "PointFirst$World" "state" "I" ∈ wsG := wG (mT1 _ (List.mem_of_getElem? (i := 117) (by decide +kernel))) rfl
theorem cn_X10_100 : Cond.constant RX10 100 (1664525) ∈ wsG := wG (mT3 _ (List.mem_of_getElem? (i := 234) (by decide +kernel))) rfl
theorem cn_X10_101 : Cond.constant RX10 101 (1013904223) ∈ wsG := wG (mT3 _ (List.mem_of_getElem? (i := 235) (by decide +kernel))) rfl
theorem ml_X11_225 : Cond.methodLink RX11 225 yX10_swing ∈ wsG := wG (mT3 _ (List.mem_of_getElem? (i := 236) (by decide +kernel))) rfl
theorem im_X10_swing : Cond.instanceMethod yX10_swing ∈ wsG := wG (mT3 _ (List.mem_of_getElem? (i := 237) (by decide +kernel))) rfl
theorem se_X10_swing : Cond.selects RX10 yX10_swing yX10_swing ∈ wsG := wG (mT3 _ (List.mem_of_getElem? (i := 238) (by decide +kernel))) rfl
theorem co_X10_swing : Cond.code yX10_swing cX10_swing 2 (some .int) ∈ wsG := wG (mT3 _ (List.mem_of_getElem? (i := 239) (by decide +kernel))) rfl
theorem ml_X10_102 : Cond.methodLink RX10 102 yX10_draw ∈ wsG := wG (mT4 _ (List.mem_of_getElem? (i := 0) (by decide +kernel))) rfl
theorem ml_X11_228 : Cond.methodLink RX11 228 yX11_hold ∈ wsG := wG (mT4 _ (List.mem_of_getElem? (i := 1) (by decide +kernel))) rfl
theorem ml_X11_235 : Cond.methodLink RX11 235 yX2_begin ∈ wsG := wG (mT4 _ (List.mem_of_getElem? (i := 2) (by decide +kernel))) rfl
theorem im_X2_begin : Cond.instanceMethod yX2_begin ∈ wsG := wG (mT4 _ (List.mem_of_getElem? (i := 3) (by decide +kernel))) rfl
theorem se_X2_begin : Cond.selects RX2 yX2_begin yX2_begin ∈ wsG := wG (mT4 _ (List.mem_of_getElem? (i := 4) (by decide +kernel))) rfl
theorem co_X2_begin : Cond.code yX2_begin cX2_begin 8 none ∈ wsG := wG (mT4 _ (List.mem_of_getElem? (i := 5) (by decide +kernel))) rfl
theorem fl_X2_25 : Cond.fieldLink RX2 25 "PointFirst$World" "soft" "[I" ∈ wsG := wG (mT1 _ (List.mem_of_getElem? (i := 142) (by decide +kernel))) rfl
theorem fl_X2_28 : Cond.fieldLink RX2 28 "PointFirst$World" "tip" "[I" ∈ wsG := wG (mT1 _ (List.mem_of_getElem? (i := 145) (by decide +kernel))) rfl
theorem fl_X2_31 : Cond.fieldLink RX2 31 "PointFirst$Flight" "far" "I" ∈ wsG := wG (mT2 _ (List.mem_of_getElem? (i := 47) (by decide +kernel))) rfl
theorem fl_X2_35 : Cond.fieldLink RX2 35 "PointFirst$Flight" "off" "I" ∈ wsG := wG (mT2 _ (List.mem_of_getElem? (i := 49) (by decide +kernel))) rfl
theorem fl_X2_38 : Cond.fieldLink RX2 38 "PointFirst$Flight" "out" "I" ∈ wsG := wG (mT2 _ (List.mem_of_getElem? (i := 53) (by decide +kernel))) rfl
theorem fl_X2_41 : Cond.fieldLink RX2 41 "PointFirst$Flight" "top" "I" ∈ wsG := wG (mT2 _ (List.mem_of_getElem? (i := 51) (by decide +kernel))) rfl
theorem ml_X2_15 : Cond.methodLink RX2 15 yX2_sine ∈ wsG := wG (mT4 _ (List.mem_of_getElem? (i := 6) (by decide +kernel))) rfl
theorem st_X2_sine : Cond.static yX2_sine ∈ wsG := wG (mT4 _ (List.mem_of_getElem? (i := 7) (by decide +kernel))) rfl
theorem co_X2_sine : Cond.code yX2_sine cX2_sine 2 (some .int) ∈ wsG := wG (mT4 _ (List.mem_of_getElem? (i := 8) (by decide +kernel))) rfl
theorem cn_X2_44 : Cond.constant RX2 44 (40500) ∈ wsG := wG (mT4 _ (List.mem_of_getElem? (i := 9) (by decide +kernel))) rfl
theorem ml_X2_19 : Cond.methodLink RX2 19 yX10_hasSpear ∈ wsG := wG (mT4 _ (List.mem_of_getElem? (i := 10) (by decide +kernel))) rfl
theorem ml_X11_240 : Cond.methodLink RX11 240 yX2_go ∈ wsG := wG (mT4 _ (List.mem_of_getElem? (i := 11) (by decide +kernel))) rfl
theorem im_X2_go : Cond.instanceMethod yX2_go ∈ wsG := wG (mT4 _ (List.mem_of_getElem? (i := 12) (by decide +kernel))) rfl
theorem se_X2_go : Cond.selects RX2 yX2_go yX2_go ∈ wsG := wG (mT4 _ (List.mem_of_getElem? (i := 13) (by decide +kernel))) rfl
theorem co_X2_go : Cond.code yX2_go cX2_go 4 none ∈ wsG := wG (mT4 _ (List.mem_of_getElem? (i := 14) (by decide +kernel))) rfl
theorem ml_X2_45 : Cond.methodLink RX2 45 yX2_tick ∈ wsG := wG (mT4 _ (List.mem_of_getElem? (i := 15) (by decide +kernel))) rfl
theorem im_X2_tick : Cond.instanceMethod yX2_tick ∈ wsG := wG (mT4 _ (List.mem_of_getElem? (i := 17) (by decide +kernel))) rfl
theorem se_X2_tick : Cond.selects RX2 yX2_tick yX2_tick ∈ wsG := wG (mP2 _ (List.mem_of_getElem? (i := 8) (by decide +kernel))) rfl
theorem co_X2_tick : Cond.code yX2_tick cX2_tick 6 none ∈ wsG := wG (mT4 _ (List.mem_of_getElem? (i := 18) (by decide +kernel))) rfl
theorem ml_X2_59 : Cond.methodLink RX2 59 Lib.Math.max.name ∈ wsG := wG (mT4 _ (List.mem_of_getElem? (i := 21) (by decide +kernel))) rfl
theorem ml_X2_49 : Cond.methodLink RX2 49 yX3_tell ∈ wsG := wG (mT4 _ (List.mem_of_getElem? (i := 19) (by decide +kernel))) rfl
theorem ml_X11_244 : Cond.methodLink RX11 244 yX2_how ∈ wsG := wG (mT4 _ (List.mem_of_getElem? (i := 24) (by decide +kernel))) rfl
theorem im_X2_how : Cond.instanceMethod yX2_how ∈ wsG := wG (mT4 _ (List.mem_of_getElem? (i := 25) (by decide +kernel))) rfl
theorem se_X2_how : Cond.selects RX2 yX2_how yX2_how ∈ wsG := wG (mT4 _ (List.mem_of_getElem? (i := 26) (by decide +kernel))) rfl
theorem co_X2_how : Cond.code yX2_how cX2_how 3 (some .int) ∈ wsG := wG (mT4 _ (List.mem_of_getElem? (i := 27) (by decide +kernel))) rfl
theorem ml_X2_69 : Cond.methodLink RX2 69 Lib.Math.abs.name ∈ wsG := wG (mT4 _ (List.mem_of_getElem? (i := 32) (by decide +kernel))) rfl
theorem st_J9_abs_0f7a4 : Cond.static Lib.Math.abs.name ∈ wsG := wG (mT4 _ (List.mem_of_getElem? (i := 33) (by decide +kernel))) rfl
theorem co_J9_abs_0f7a4 : Cond.code Lib.Math.abs.name Lib.Math.abs.code 1 (some .int) ∈ wsG := wG (mT4 _ (List.mem_of_getElem? (i := 34) (by decide +kernel))) rfl
theorem ml_X2_65 : Cond.methodLink RX2 65 yX2_landing ∈ wsG := wG (mT4 _ (List.mem_of_getElem? (i := 28) (by decide +kernel))) rfl
theorem im_X2_landing : Cond.instanceMethod yX2_landing ∈ wsG := wG (mT4 _ (List.mem_of_getElem? (i := 29) (by decide +kernel))) rfl
theorem se_X2_landing : Cond.selects RX2 yX2_landing yX2_landing ∈ wsG := wG (mT4 _ (List.mem_of_getElem? (i := 30) (by decide +kernel))) rfl
theorem co_X2_landing : Cond.code yX2_landing cX2_landing 1 (some .int) ∈ wsG := wG (mT4 _ (List.mem_of_getElem? (i := 31) (by decide +kernel))) rfl
theorem ml_X11_259 : Cond.methodLink RX11 259 yX10_write ∈ wsG := wG (mT4 _ (List.mem_of_getElem? (i := 36) (by decide +kernel))) rfl
theorem im_X10_write : Cond.instanceMethod yX10_write ∈ wsG := wG (mT4 _ (List.mem_of_getElem? (i := 37) (by decide +kernel))) rfl
theorem se_X10_write : Cond.selects RX10 yX10_write yX10_write ∈ wsG := wG (mT4 _ (List.mem_of_getElem? (i := 38) (by decide +kernel))) rfl
theorem co_X10_write : Cond.code yX10_write cX10_write 8 none ∈ wsG := wG (mT4 _ (List.mem_of_getElem? (i := 39) (by decide +kernel))) rfl
theorem fl_X10_66 : Cond.fieldLink RX10 66 "PointFirst$World" "lines" "I" ∈ wsG := wG (mT1 _ (List.mem_of_getElem? (i := 133) (by decide +kernel))) rfl
theorem fl_X10_51 : Cond.fieldLink RX10 51 "PointFirst$World" "day" "I" ∈ wsG := wG (mT1 _ (List.mem_of_getElem? (i := 120) (by decide +kernel))) rfl
theorem ml_X11_263 : Cond.methodLink RX11 263 yX10_nextTurn ∈ wsG := wG (mT4 _ (List.mem_of_getElem? (i := 40) (by decide +kernel))) rfl
theorem im_X10_nextTurn : Cond.instanceMethod yX10_nextTurn ∈ wsG := wG (mT4 _ (List.mem_of_getElem? (i := 41) (by decide +kernel))) rfl
theorem se_X10_nextTurn : Cond.selects RX10 yX10_nextTurn yX10_nextTurn ∈ wsG := wG (mT4 _ (List.mem_of_getElem? (i := 42) (by decide +kernel))) rfl
theorem co_X10_nextTurn : Cond.code yX10_nextTurn cX10_nextTurn 1 none ∈ wsG := wG (mT4 _ (List.mem_of_getElem? (i := 43) (by decide +kernel))) rfl
theorem ml_L_54 : Cond.methodLink RL 54 yX12_throwIt ∈ wsG := wG (mT7 _ (List.mem_of_getElem? (i := 48) (by decide +kernel))) rfl
theorem im_X12_throwIt : Cond.instanceMethod yX12_throwIt ∈ wsG := wG (mT7 _ (List.mem_of_getElem? (i := 49) (by decide +kernel))) rfl
theorem se_X12_throwIt : Cond.selects RX12 yX12_throwIt yX12_throwIt ∈ wsG := wG (mT7 _ (List.mem_of_getElem? (i := 50) (by decide +kernel))) rfl
theorem co_X12_throwIt : Cond.code yX12_throwIt cX12_throwIt 5 (some .int) ∈ wsG := wG (mT7 _ (List.mem_of_getElem? (i := 51) (by decide +kernel))) rfl
theorem ml_X12_398 : Cond.methodLink RX12 398 yX12_isOn ∈ wsG := wG (mT7 _ (List.mem_of_getElem? (i := 52) (by decide +kernel))) rfl
theorem im_X12_isOn : Cond.instanceMethod yX12_isOn ∈ wsG := wG (mT7 _ (List.mem_of_getElem? (i := 54) (by decide +kernel))) rfl
theorem se_X12_isOn : Cond.selects RX12 yX12_isOn yX12_isOn ∈ wsG := wG (mP4 _ (List.mem_of_getElem? (i := 15) (by decide +kernel))) rfl
theorem co_X12_isOn : Cond.code yX12_isOn cX12_isOn 1 (some .boolean) ∈ wsG := wG (mT7 _ (List.mem_of_getElem? (i := 55) (by decide +kernel))) rfl
theorem ml_X12_401 : Cond.methodLink RX12 401 yX12_isSpear ∈ wsG := wG (mT7 _ (List.mem_of_getElem? (i := 56) (by decide +kernel))) rfl
theorem im_X12_isSpear : Cond.instanceMethod yX12_isSpear ∈ wsG := wG (mT7 _ (List.mem_of_getElem? (i := 58) (by decide +kernel))) rfl
theorem se_X12_isSpear : Cond.selects RX12 yX12_isSpear yX12_isSpear ∈ wsG := wG (mP5 _ (List.mem_of_getElem? (i := 0) (by decide +kernel))) rfl
theorem co_X12_isSpear : Cond.code yX12_isSpear cX12_isSpear 2 (some .boolean) ∈ wsG := wG (mT7 _ (List.mem_of_getElem? (i := 59) (by decide +kernel))) rfl
theorem ml_X12_324 : Cond.methodLink RX12 324 yX12_own ∈ wsG := wG (mT7 _ (List.mem_of_getElem? (i := 60) (by decide +kernel))) rfl
theorem im_X12_own : Cond.instanceMethod yX12_own ∈ wsG := wG (mT7 _ (List.mem_of_getElem? (i := 62) (by decide +kernel))) rfl
theorem se_X12_own : Cond.selects RX12 yX12_own yX12_own ∈ wsG := wG (mP5 _ (List.mem_of_getElem? (i := 1) (by decide +kernel))) rfl
theorem co_X12_own : Cond.code yX12_own cX12_own 3 (some .int) ∈ wsG := wG (mT7 _ (List.mem_of_getElem? (i := 63) (by decide +kernel))) rfl
theorem ml_X12_404 : Cond.methodLink RX12 404 yX12_keeps ∈ wsG := wG (mT7 _ (List.mem_of_getElem? (i := 64) (by decide +kernel))) rfl
theorem im_X12_keeps : Cond.instanceMethod yX12_keeps ∈ wsG := wG (mT7 _ (List.mem_of_getElem? (i := 66) (by decide +kernel))) rfl
theorem se_X12_keeps : Cond.selects RX12 yX12_keeps yX12_keeps ∈ wsG := wG (mP5 _ (List.mem_of_getElem? (i := 2) (by decide +kernel))) rfl
theorem co_X12_keeps : Cond.code yX12_keeps cX12_keeps 2 none ∈ wsG := wG (mT7 _ (List.mem_of_getElem? (i := 67) (by decide +kernel))) rfl
theorem ml_X12_407 : Cond.methodLink RX12 407 yX12_throwsIt ∈ wsG := wG (mT7 _ (List.mem_of_getElem? (i := 68) (by decide +kernel))) rfl
theorem im_X12_throwsIt : Cond.instanceMethod yX12_throwsIt ∈ wsG := wG (mT7 _ (List.mem_of_getElem? (i := 70) (by decide +kernel))) rfl
theorem se_X12_throwsIt : Cond.selects RX12 yX12_throwsIt yX12_throwsIt ∈ wsG := wG (mP5 _ (List.mem_of_getElem? (i := 3) (by decide +kernel))) rfl
theorem co_X12_throwsIt : Cond.code yX12_throwsIt cX12_throwsIt 13 (some .int) ∈ wsG := wG (mT7 _ (List.mem_of_getElem? (i := 71) (by decide +kernel))) rfl
theorem fl_X12_341 : Cond.fieldLink RX12 341 "PointFirstModel" "far" "I" ∈ wsG := wG (mT5 _ (List.mem_of_getElem? (i := 209) (by decide +kernel))) rfl
theorem ml_X12_64 : Cond.methodLink RX12 64 yX12_lesser ∈ wsG := wG (mT7 _ (List.mem_of_getElem? (i := 72) (by decide +kernel))) rfl
theorem st_X12_lesser : Cond.static yX12_lesser ∈ wsG := wG (mT7 _ (List.mem_of_getElem? (i := 73) (by decide +kernel))) rfl
theorem co_X12_lesser : Cond.code yX12_lesser cX12_lesser 2 (some .int) ∈ wsG := wG (mT7 _ (List.mem_of_getElem? (i := 74) (by decide +kernel))) rfl
theorem ml_X12_376 : Cond.methodLink RX12 376 yX12_armFacts ∈ wsG := wG (mT7 _ (List.mem_of_getElem? (i := 75) (by decide +kernel))) rfl
theorem im_X12_armFacts : Cond.instanceMethod yX12_armFacts ∈ wsG := wG (mT7 _ (List.mem_of_getElem? (i := 77) (by decide +kernel))) rfl
theorem se_X12_armFacts : Cond.selects RX12 yX12_armFacts yX12_armFacts ∈ wsG := wG (mP5 _ (List.mem_of_getElem? (i := 4) (by decide +kernel))) rfl
theorem co_X12_armFacts : Cond.code yX12_armFacts cX12_armFacts 7 none ∈ wsG := wG (mT7 _ (List.mem_of_getElem? (i := 78) (by decide +kernel))) rfl
theorem ml_X12_380 : Cond.methodLink RX12 380 yX12_overOf ∈ wsG := wG (mT7 _ (List.mem_of_getElem? (i := 79) (by decide +kernel))) rfl
theorem im_X12_overOf : Cond.instanceMethod yX12_overOf ∈ wsG := wG (mT7 _ (List.mem_of_getElem? (i := 81) (by decide +kernel))) rfl
theorem se_X12_overOf : Cond.selects RX12 yX12_overOf yX12_overOf ∈ wsG := wG (mP5 _ (List.mem_of_getElem? (i := 5) (by decide +kernel))) rfl
theorem co_X12_overOf : Cond.code yX12_overOf cX12_overOf 1 (some .int) ∈ wsG := wG (mT7 _ (List.mem_of_getElem? (i := 82) (by decide +kernel))) rfl
theorem ml_X12_327 : Cond.methodLink RX12 327 yX12_lawSays ∈ wsG := wG (mT7 _ (List.mem_of_getElem? (i := 83) (by decide +kernel))) rfl
theorem im_X12_lawSays : Cond.instanceMethod yX12_lawSays ∈ wsG := wG (mT7 _ (List.mem_of_getElem? (i := 85) (by decide +kernel))) rfl
theorem se_X12_lawSays : Cond.selects RX12 yX12_lawSays yX12_lawSays ∈ wsG := wG (mP5 _ (List.mem_of_getElem? (i := 6) (by decide +kernel))) rfl
theorem co_X12_lawSays : Cond.code yX12_lawSays cX12_lawSays 6 (some .int) ∈ wsG := wG (mT7 _ (List.mem_of_getElem? (i := 86) (by decide +kernel))) rfl
theorem ml_X12_318 : Cond.methodLink RX12 318 yX12_comesTo ∈ wsG := wG (mT7 _ (List.mem_of_getElem? (i := 87) (by decide +kernel))) rfl
theorem im_X12_comesTo : Cond.instanceMethod yX12_comesTo ∈ wsG := wG (mT7 _ (List.mem_of_getElem? (i := 89) (by decide +kernel))) rfl
theorem se_X12_comesTo : Cond.selects RX12 yX12_comesTo yX12_comesTo ∈ wsG := wG (mP5 _ (List.mem_of_getElem? (i := 7) (by decide +kernel))) rfl
theorem co_X12_comesTo : Cond.code yX12_comesTo cX12_comesTo 8 (some .int) ∈ wsG := wG (mT7 _ (List.mem_of_getElem? (i := 90) (by decide +kernel))) rfl
theorem ml_X12_314 : Cond.methodLink RX12 314 yX12_both ∈ wsG := wG (mT7 _ (List.mem_of_getElem? (i := 91) (by decide +kernel))) rfl
theorem st_X12_both : Cond.static yX12_both ∈ wsG := wG (mT7 _ (List.mem_of_getElem? (i := 92) (by decide +kernel))) rfl
theorem co_X12_both : Cond.code yX12_both cX12_both 3 (some .int) ∈ wsG := wG (mT7 _ (List.mem_of_getElem? (i := 93) (by decide +kernel))) rfl
theorem ml_X12_321 : Cond.methodLink RX12 321 yX12_held ∈ wsG := wG (mT7 _ (List.mem_of_getElem? (i := 94) (by decide +kernel))) rfl
theorem st_X12_held : Cond.static yX12_held ∈ wsG := wG (mT7 _ (List.mem_of_getElem? (i := 95) (by decide +kernel))) rfl
theorem co_X12_held : Cond.code yX12_held cX12_held 3 (some .int) ∈ wsG := wG (mT7 _ (List.mem_of_getElem? (i := 96) (by decide +kernel))) rfl
theorem ml_X12_68 : Cond.methodLink RX12 68 yX12_greater ∈ wsG := wG (mT7 _ (List.mem_of_getElem? (i := 97) (by decide +kernel))) rfl
theorem st_X12_greater : Cond.static yX12_greater ∈ wsG := wG (mT7 _ (List.mem_of_getElem? (i := 98) (by decide +kernel))) rfl
theorem co_X12_greater : Cond.code yX12_greater cX12_greater 2 (some .int) ∈ wsG := wG (mT7 _ (List.mem_of_getElem? (i := 99) (by decide +kernel))) rfl
theorem ml_X12_383 : Cond.methodLink RX12 383 yX12_wearOf ∈ wsG := wG (mT7 _ (List.mem_of_getElem? (i := 100) (by decide +kernel))) rfl
theorem im_X12_wearOf : Cond.instanceMethod yX12_wearOf ∈ wsG := wG (mT7 _ (List.mem_of_getElem? (i := 102) (by decide +kernel))) rfl
theorem se_X12_wearOf : Cond.selects RX12 yX12_wearOf yX12_wearOf ∈ wsG := wG (mP5 _ (List.mem_of_getElem? (i := 8) (by decide +kernel))) rfl
theorem co_X12_wearOf : Cond.code yX12_wearOf cX12_wearOf 1 (some .int) ∈ wsG := wG (mT7 _ (List.mem_of_getElem? (i := 103) (by decide +kernel))) rfl
theorem ml_X12_373 : Cond.methodLink RX12 373 yX12_draw ∈ wsG := wG (mT7 _ (List.mem_of_getElem? (i := 104) (by decide +kernel))) rfl
theorem im_X12_draw : Cond.instanceMethod yX12_draw ∈ wsG := wG (mT7 _ (List.mem_of_getElem? (i := 106) (by decide +kernel))) rfl
theorem se_X12_draw : Cond.selects RX12 yX12_draw yX12_draw ∈ wsG := wG (mP5 _ (List.mem_of_getElem? (i := 9) (by decide +kernel))) rfl
theorem co_X12_draw : Cond.code yX12_draw cX12_draw 2 (some .int) ∈ wsG := wG (mT7 _ (List.mem_of_getElem? (i := 107) (by decide +kernel))) rfl
theorem cn_X12_81 : Cond.constant RX12 81 (1664525) ∈ wsG := wG (mT7 _ (List.mem_of_getElem? (i := 108) (by decide +kernel))) rfl
theorem cn_X12_82 : Cond.constant RX12 82 (1013904223) ∈ wsG := wG (mT7 _ (List.mem_of_getElem? (i := 109) (by decide +kernel))) rfl
theorem ml_X12_364 : Cond.methodLink RX12 364 yX12_weather ∈ wsG := wG (mT7 _ (List.mem_of_getElem? (i := 110) (by decide +kernel))) rfl
theorem im_X12_weather : Cond.instanceMethod yX12_weather ∈ wsG := wG (mT7 _ (List.mem_of_getElem? (i := 112) (by decide +kernel))) rfl
theorem se_X12_weather : Cond.selects RX12 yX12_weather yX12_weather ∈ wsG := wG (mP5 _ (List.mem_of_getElem? (i := 10) (by decide +kernel))) rfl
theorem co_X12_weather : Cond.code yX12_weather cX12_weather 2 (some .int) ∈ wsG := wG (mT7 _ (List.mem_of_getElem? (i := 113) (by decide +kernel))) rfl
theorem ml_X12_386 : Cond.methodLink RX12 386 yX12_slipped ∈ wsG := wG (mT7 _ (List.mem_of_getElem? (i := 114) (by decide +kernel))) rfl
theorem im_X12_slipped : Cond.instanceMethod yX12_slipped ∈ wsG := wG (mT7 _ (List.mem_of_getElem? (i := 116) (by decide +kernel))) rfl
theorem se_X12_slipped : Cond.selects RX12 yX12_slipped yX12_slipped ∈ wsG := wG (mP5 _ (List.mem_of_getElem? (i := 11) (by decide +kernel))) rfl
theorem co_X12_slipped : Cond.code yX12_slipped cX12_slipped 3 (some .int) ∈ wsG := wG (mT7 _ (List.mem_of_getElem? (i := 117) (by decide +kernel))) rfl
theorem ml_X12_389 : Cond.methodLink RX12 389 yX12_flies ∈ wsG := wG (mT7 _ (List.mem_of_getElem? (i := 118) (by decide +kernel))) rfl
theorem im_X12_flies : Cond.instanceMethod yX12_flies ∈ wsG := wG (mT7 _ (List.mem_of_getElem? (i := 120) (by decide +kernel))) rfl
theorem se_X12_flies : Cond.selects RX12 yX12_flies yX12_flies ∈ wsG := wG (mP5 _ (List.mem_of_getElem? (i := 12) (by decide +kernel))) rfl
theorem co_X12_flies : Cond.code yX12_flies cX12_flies 7 none ∈ wsG := wG (mT7 _ (List.mem_of_getElem? (i := 121) (by decide +kernel))) rfl
theorem fl_X12_352 : Cond.fieldLink RX12 352 "PointFirstModel" "ticks" "I" ∈ wsG := wG (mT5 _ (List.mem_of_getElem? (i := 213) (by decide +kernel))) rfl
theorem fl_X12_339 : Cond.fieldLink RX12 339 "PointFirstModel" "height" "I" ∈ wsG := wG (mT5 _ (List.mem_of_getElem? (i := 208) (by decide +kernel))) rfl
theorem ml_X12_358 : Cond.methodLink RX12 358 yX12_begins ∈ wsG := wG (mT7 _ (List.mem_of_getElem? (i := 122) (by decide +kernel))) rfl
theorem im_X12_begins : Cond.instanceMethod yX12_begins ∈ wsG := wG (mT7 _ (List.mem_of_getElem? (i := 124) (by decide +kernel))) rfl
theorem se_X12_begins : Cond.selects RX12 yX12_begins yX12_begins ∈ wsG := wG (mP5 _ (List.mem_of_getElem? (i := 13) (by decide +kernel))) rfl
theorem co_X12_begins : Cond.code yX12_begins cX12_begins 4 none ∈ wsG := wG (mT7 _ (List.mem_of_getElem? (i := 125) (by decide +kernel))) rfl
theorem fl_X12_335 : Cond.fieldLink RX12 335 "PointFirstModel" "fore" "I" ∈ wsG := wG (mT5 _ (List.mem_of_getElem? (i := 206) (by decide +kernel))) rfl
theorem fl_X12_337 : Cond.fieldLink RX12 337 "PointFirstModel" "up" "I" ∈ wsG := wG (mT5 _ (List.mem_of_getElem? (i := 207) (by decide +kernel))) rfl
theorem fl_X12_344 : Cond.fieldLink RX12 344 "PointFirstModel" "off" "I" ∈ wsG := wG (mT5 _ (List.mem_of_getElem? (i := 210) (by decide +kernel))) rfl
theorem fl_X12_347 : Cond.fieldLink RX12 347 "PointFirstModel" "aside" "I" ∈ wsG := wG (mT5 _ (List.mem_of_getElem? (i := 211) (by decide +kernel))) rfl
theorem fl_X12_350 : Cond.fieldLink RX12 350 "PointFirstModel" "pitch" "I" ∈ wsG := wG (mT5 _ (List.mem_of_getElem? (i := 212) (by decide +kernel))) rfl
theorem fl_X12_355 : Cond.fieldLink RX12 355 "PointFirstModel" "highest" "I" ∈ wsG := wG (mT5 _ (List.mem_of_getElem? (i := 214) (by decide +kernel))) rfl
theorem ml_X12_332 : Cond.methodLink RX12 332 yX12_sine ∈ wsG := wG (mT7 _ (List.mem_of_getElem? (i := 126) (by decide +kernel))) rfl
theorem st_X12_sine : Cond.static yX12_sine ∈ wsG := wG (mT7 _ (List.mem_of_getElem? (i := 127) (by decide +kernel))) rfl
theorem co_X12_sine : Cond.code yX12_sine cX12_sine 1 (some .int) ∈ wsG := wG (mT7 _ (List.mem_of_getElem? (i := 128) (by decide +kernel))) rfl
theorem cn_X12_331 : Cond.constant RX12 331 (40500) ∈ wsG := wG (mT7 _ (List.mem_of_getElem? (i := 129) (by decide +kernel))) rfl
theorem ml_X12_361 : Cond.methodLink RX12 361 yX12_ticksOn ∈ wsG := wG (mT7 _ (List.mem_of_getElem? (i := 130) (by decide +kernel))) rfl
theorem im_X12_ticksOn : Cond.instanceMethod yX12_ticksOn ∈ wsG := wG (mT7 _ (List.mem_of_getElem? (i := 132) (by decide +kernel))) rfl
theorem se_X12_ticksOn : Cond.selects RX12 yX12_ticksOn yX12_ticksOn ∈ wsG := wG (mP5 _ (List.mem_of_getElem? (i := 14) (by decide +kernel))) rfl
theorem co_X12_ticksOn : Cond.code yX12_ticksOn cX12_ticksOn 4 none ∈ wsG := wG (mT7 _ (List.mem_of_getElem? (i := 133) (by decide +kernel))) rfl
theorem ml_X12_367 : Cond.methodLink RX12 367 yX12_landed ∈ wsG := wG (mT7 _ (List.mem_of_getElem? (i := 134) (by decide +kernel))) rfl
theorem im_X12_landed : Cond.instanceMethod yX12_landed ∈ wsG := wG (mT7 _ (List.mem_of_getElem? (i := 136) (by decide +kernel))) rfl
theorem se_X12_landed : Cond.selects RX12 yX12_landed yX12_landed ∈ wsG := wG (mP5 _ (List.mem_of_getElem? (i := 15) (by decide +kernel))) rfl
theorem co_X12_landed : Cond.code yX12_landed cX12_landed 1 (some .int) ∈ wsG := wG (mT7 _ (List.mem_of_getElem? (i := 137) (by decide +kernel))) rfl
theorem ml_X12_370 : Cond.methodLink RX12 370 yX12_isInSector ∈ wsG := wG (mT7 _ (List.mem_of_getElem? (i := 138) (by decide +kernel))) rfl
theorem im_X12_isInSector : Cond.instanceMethod yX12_isInSector ∈ wsG := wG (mT7 _ (List.mem_of_getElem? (i := 140) (by decide +kernel))) rfl
theorem se_X12_isInSector : Cond.selects RX12 yX12_isInSector yX12_isInSector ∈ wsG := wG (mP6 _ (List.mem_of_getElem? (i := 0) (by decide +kernel))) rfl
theorem co_X12_isInSector : Cond.code yX12_isInSector cX12_isInSector 1 (some .boolean) ∈ wsG := wG (mT7 _ (List.mem_of_getElem? (i := 141) (by decide +kernel))) rfl
theorem ml_X12_392 : Cond.methodLink RX12 392 yX12_notes ∈ wsG := wG (mT7 _ (List.mem_of_getElem? (i := 142) (by decide +kernel))) rfl
theorem im_X12_notes : Cond.instanceMethod yX12_notes ∈ wsG := wG (mT7 _ (List.mem_of_getElem? (i := 144) (by decide +kernel))) rfl
theorem se_X12_notes : Cond.selects RX12 yX12_notes yX12_notes ∈ wsG := wG (mP6 _ (List.mem_of_getElem? (i := 1) (by decide +kernel))) rfl
theorem co_X12_notes : Cond.code yX12_notes cX12_notes 8 none ∈ wsG := wG (mT7 _ (List.mem_of_getElem? (i := 145) (by decide +kernel))) rfl
theorem ml_X12_395 : Cond.methodLink RX12 395 yX12_nextTurn ∈ wsG := wG (mT7 _ (List.mem_of_getElem? (i := 146) (by decide +kernel))) rfl
theorem im_X12_nextTurn : Cond.instanceMethod yX12_nextTurn ∈ wsG := wG (mT7 _ (List.mem_of_getElem? (i := 148) (by decide +kernel))) rfl
theorem se_X12_nextTurn : Cond.selects RX12 yX12_nextTurn yX12_nextTurn ∈ wsG := wG (mP6 _ (List.mem_of_getElem? (i := 2) (by decide +kernel))) rfl
theorem co_X12_nextTurn : Cond.code yX12_nextTurn cX12_nextTurn 1 none ∈ wsG := wG (mT7 _ (List.mem_of_getElem? (i := 149) (by decide +kernel))) rfl
theorem ml_L_55 : Cond.methodLink RL 55 yX11_pass ∈ wsG := wG (mT4 _ (List.mem_of_getElem? (i := 44) (by decide +kernel))) rfl
theorem im_X11_pass : Cond.instanceMethod yX11_pass ∈ wsG := wG (mT4 _ (List.mem_of_getElem? (i := 45) (by decide +kernel))) rfl
theorem se_X11_pass : Cond.selects RX11 yX11_pass yX11_pass ∈ wsG := wG (mT4 _ (List.mem_of_getElem? (i := 46) (by decide +kernel))) rfl
theorem co_X11_pass : Cond.code yX11_pass cX11_pass 2 (some .boolean) ∈ wsG := wG (mT4 _ (List.mem_of_getElem? (i := 47) (by decide +kernel))) rfl
theorem ml_L_59 : Cond.methodLink RL 59 yX12_pass ∈ wsG := wG (mT7 _ (List.mem_of_getElem? (i := 150) (by decide +kernel))) rfl
theorem im_X12_pass : Cond.instanceMethod yX12_pass ∈ wsG := wG (mT7 _ (List.mem_of_getElem? (i := 151) (by decide +kernel))) rfl
theorem se_X12_pass : Cond.selects RX12 yX12_pass yX12_pass ∈ wsG := wG (mT7 _ (List.mem_of_getElem? (i := 152) (by decide +kernel))) rfl
theorem co_X12_pass : Cond.code yX12_pass cX12_pass 1 (some .boolean) ∈ wsG := wG (mT7 _ (List.mem_of_getElem? (i := 153) (by decide +kernel))) rfl
theorem ml_L_60 : Cond.methodLink RL 60 yX11_turnsGo ∈ wsG := wG (mT4 _ (List.mem_of_getElem? (i := 48) (by decide +kernel))) rfl
theorem im_X11_turnsGo : Cond.instanceMethod yX11_turnsGo ∈ wsG := wG (mT4 _ (List.mem_of_getElem? (i := 49) (by decide +kernel))) rfl
theorem se_X11_turnsGo : Cond.selects RX11 yX11_turnsGo yX11_turnsGo ∈ wsG := wG (mT4 _ (List.mem_of_getElem? (i := 50) (by decide +kernel))) rfl
theorem co_X11_turnsGo : Cond.code yX11_turnsGo cX11_turnsGo 5 (some .int) ∈ wsG := wG (mT4 _ (List.mem_of_getElem? (i := 51) (by decide +kernel))) rfl
theorem ml_X11_266 : Cond.methodLink RX11 266 yX11_turnByPlan ∈ wsG := wG (mT4 _ (List.mem_of_getElem? (i := 52) (by decide +kernel))) rfl
theorem im_X11_turnByPlan : Cond.instanceMethod yX11_turnByPlan ∈ wsG := wG (mT4 _ (List.mem_of_getElem? (i := 54) (by decide +kernel))) rfl
theorem se_X11_turnByPlan : Cond.selects RX11 yX11_turnByPlan yX11_turnByPlan ∈ wsG := wG (mP2 _ (List.mem_of_getElem? (i := 9) (by decide +kernel))) rfl
theorem co_X11_turnByPlan : Cond.code yX11_turnByPlan cX11_turnByPlan 3 (some .boolean) ∈ wsG := wG (mT4 _ (List.mem_of_getElem? (i := 55) (by decide +kernel))) rfl
theorem ml_X11_270 : Cond.methodLink RX11 270 yX8_throwsBy ∈ wsG := wG (mT4 _ (List.mem_of_getElem? (i := 56) (by decide +kernel))) rfl
theorem im_X8_throwsBy : Cond.instanceMethod yX8_throwsBy ∈ wsG := wG (mT4 _ (List.mem_of_getElem? (i := 57) (by decide +kernel))) rfl
theorem se_X8_throwsBy : Cond.selects RX8 yX8_throwsBy yX8_throwsBy ∈ wsG := wG (mT4 _ (List.mem_of_getElem? (i := 58) (by decide +kernel))) rfl
theorem co_X8_throwsBy : Cond.code yX8_throwsBy cX8_throwsBy 2 (some .boolean) ∈ wsG := wG (mT4 _ (List.mem_of_getElem? (i := 59) (by decide +kernel))) rfl
theorem ml_X8_47 : Cond.methodLink RX8 47 yX8_wouldThrow ∈ wsG := wG (mT4 _ (List.mem_of_getElem? (i := 60) (by decide +kernel))) rfl
theorem im_X8_wouldThrow : Cond.instanceMethod yX8_wouldThrow ∈ wsG := wG (mT4 _ (List.mem_of_getElem? (i := 61) (by decide +kernel))) rfl
theorem se_X8_wouldThrow : Cond.selects RX8 yX8_wouldThrow yX8_wouldThrow ∈ wsG := wG (mT4 _ (List.mem_of_getElem? (i := 62) (by decide +kernel))) rfl
theorem co_X8_wouldThrow : Cond.code yX8_wouldThrow cX8_wouldThrow 5 (some .boolean) ∈ wsG := wG (mT4 _ (List.mem_of_getElem? (i := 63) (by decide +kernel))) rfl
theorem ml_X8_50 : Cond.methodLink RX8 50 yX8_order ∈ wsG := wG (mT4 _ (List.mem_of_getElem? (i := 64) (by decide +kernel))) rfl
theorem im_X8_order : Cond.instanceMethod yX8_order ∈ wsG := wG (mT4 _ (List.mem_of_getElem? (i := 65) (by decide +kernel))) rfl
theorem se_X8_order : Cond.selects RX8 yX8_order yX8_order ∈ wsG := wG (mT4 _ (List.mem_of_getElem? (i := 66) (by decide +kernel))) rfl
theorem co_X8_order : Cond.code yX8_order cX8_order 3 (some .int) ∈ wsG := wG (mT4 _ (List.mem_of_getElem? (i := 67) (by decide +kernel))) rfl
theorem ml_X11_273 : Cond.methodLink RX11 273 yX8_order ∈ wsG := wG (mT4 _ (List.mem_of_getElem? (i := 69) (by decide +kernel))) rfl
theorem ml_L_63 : Cond.methodLink RL 63 yX12_turnsGo ∈ wsG := wG (mT7 _ (List.mem_of_getElem? (i := 154) (by decide +kernel))) rfl
theorem im_X12_turnsGo : Cond.instanceMethod yX12_turnsGo ∈ wsG := wG (mT7 _ (List.mem_of_getElem? (i := 155) (by decide +kernel))) rfl
theorem se_X12_turnsGo : Cond.selects RX12 yX12_turnsGo yX12_turnsGo ∈ wsG := wG (mT7 _ (List.mem_of_getElem? (i := 156) (by decide +kernel))) rfl
theorem co_X12_turnsGo : Cond.code yX12_turnsGo cX12_turnsGo 4 (some .int) ∈ wsG := wG (mT7 _ (List.mem_of_getElem? (i := 157) (by decide +kernel))) rfl
theorem ml_X12_413 : Cond.methodLink RX12 413 yX12_goesOn ∈ wsG := wG (mT7 _ (List.mem_of_getElem? (i := 158) (by decide +kernel))) rfl
theorem im_X12_goesOn : Cond.instanceMethod yX12_goesOn ∈ wsG := wG (mT7 _ (List.mem_of_getElem? (i := 160) (by decide +kernel))) rfl
theorem se_X12_goesOn : Cond.selects RX12 yX12_goesOn yX12_goesOn ∈ wsG := wG (mP6 _ (List.mem_of_getElem? (i := 3) (by decide +kernel))) rfl
theorem co_X12_goesOn : Cond.code yX12_goesOn cX12_goesOn 5 (some .boolean) ∈ wsG := wG (mT7 _ (List.mem_of_getElem? (i := 161) (by decide +kernel))) rfl
theorem ml_X12_410 : Cond.methodLink RX12 410 yX12_passesBy ∈ wsG := wG (mT7 _ (List.mem_of_getElem? (i := 162) (by decide +kernel))) rfl
theorem im_X12_passesBy : Cond.instanceMethod yX12_passesBy ∈ wsG := wG (mT7 _ (List.mem_of_getElem? (i := 164) (by decide +kernel))) rfl
theorem se_X12_passesBy : Cond.selects RX12 yX12_passesBy yX12_passesBy ∈ wsG := wG (mP6 _ (List.mem_of_getElem? (i := 4) (by decide +kernel))) rfl
theorem co_X12_passesBy : Cond.code yX12_passesBy cX12_passesBy 4 (some .boolean) ∈ wsG := wG (mT7 _ (List.mem_of_getElem? (i := 165) (by decide +kernel))) rfl
theorem ml_L_64 : Cond.methodLink RL 64 yX11_meet ∈ wsG := wG (mT4 _ (List.mem_of_getElem? (i := 70) (by decide +kernel))) rfl
theorem im_X11_meet : Cond.instanceMethod yX11_meet ∈ wsG := wG (mT4 _ (List.mem_of_getElem? (i := 71) (by decide +kernel))) rfl
theorem se_X11_meet : Cond.selects RX11 yX11_meet yX11_meet ∈ wsG := wG (mT4 _ (List.mem_of_getElem? (i := 72) (by decide +kernel))) rfl
theorem co_X11_meet : Cond.code yX11_meet cX11_meet 1 none ∈ wsG := wG (mT4 _ (List.mem_of_getElem? (i := 73) (by decide +kernel))) rfl
theorem ml_X11_275 : Cond.methodLink RX11 275 yX10_beginMeet ∈ wsG := wG (mT4 _ (List.mem_of_getElem? (i := 74) (by decide +kernel))) rfl
theorem im_X10_beginMeet : Cond.instanceMethod yX10_beginMeet ∈ wsG := wG (mT4 _ (List.mem_of_getElem? (i := 75) (by decide +kernel))) rfl
theorem se_X10_beginMeet : Cond.selects RX10 yX10_beginMeet yX10_beginMeet ∈ wsG := wG (mT4 _ (List.mem_of_getElem? (i := 76) (by decide +kernel))) rfl
theorem co_X10_beginMeet : Cond.code yX10_beginMeet cX10_beginMeet 2 none ∈ wsG := wG (mT4 _ (List.mem_of_getElem? (i := 77) (by decide +kernel))) rfl
theorem ml_X10_97 : Cond.methodLink RX10 97 yX8_beginMeet ∈ wsG := wG (mT4 _ (List.mem_of_getElem? (i := 78) (by decide +kernel))) rfl
theorem ml_L_67 : Cond.methodLink RL 67 yX12_meet ∈ wsG := wG (mT7 _ (List.mem_of_getElem? (i := 166) (by decide +kernel))) rfl
theorem im_X12_meet : Cond.instanceMethod yX12_meet ∈ wsG := wG (mT7 _ (List.mem_of_getElem? (i := 167) (by decide +kernel))) rfl
theorem se_X12_meet : Cond.selects RX12 yX12_meet yX12_meet ∈ wsG := wG (mT7 _ (List.mem_of_getElem? (i := 168) (by decide +kernel))) rfl
theorem co_X12_meet : Cond.code yX12_meet cX12_meet 2 none ∈ wsG := wG (mT7 _ (List.mem_of_getElem? (i := 169) (by decide +kernel))) rfl
theorem ml_L_68 : Cond.methodLink RL 68 yX11_days ∈ wsG := wG (mT4 _ (List.mem_of_getElem? (i := 79) (by decide +kernel))) rfl
theorem im_X11_days : Cond.instanceMethod yX11_days ∈ wsG := wG (mT4 _ (List.mem_of_getElem? (i := 80) (by decide +kernel))) rfl
theorem se_X11_days : Cond.selects RX11 yX11_days yX11_days ∈ wsG := wG (mT4 _ (List.mem_of_getElem? (i := 81) (by decide +kernel))) rfl
theorem co_X11_days : Cond.code yX11_days cX11_days 4 (some .boolean) ∈ wsG := wG (mT4 _ (List.mem_of_getElem? (i := 82) (by decide +kernel))) rfl
theorem fl_X11_278 : Cond.fieldLink RX11 278 "PointFirst$World" "day" "I" ∈ wsG := wG (mT1 _ (List.mem_of_getElem? (i := 121) (by decide +kernel))) rfl
theorem ml_X11_281 : Cond.methodLink RX11 281 yX11_mend ∈ wsG := wG (mT4 _ (List.mem_of_getElem? (i := 83) (by decide +kernel))) rfl
theorem im_X11_mend : Cond.instanceMethod yX11_mend ∈ wsG := wG (mT4 _ (List.mem_of_getElem? (i := 85) (by decide +kernel))) rfl
theorem se_X11_mend : Cond.selects RX11 yX11_mend yX11_mend ∈ wsG := wG (mP2 _ (List.mem_of_getElem? (i := 10) (by decide +kernel))) rfl
theorem co_X11_mend : Cond.code yX11_mend cX11_mend 2 none ∈ wsG := wG (mT4 _ (List.mem_of_getElem? (i := 86) (by decide +kernel))) rfl
theorem ml_L_71 : Cond.methodLink RL 71 yX12_days ∈ wsG := wG (mT7 _ (List.mem_of_getElem? (i := 170) (by decide +kernel))) rfl
theorem im_X12_days : Cond.instanceMethod yX12_days ∈ wsG := wG (mT7 _ (List.mem_of_getElem? (i := 171) (by decide +kernel))) rfl
theorem se_X12_days : Cond.selects RX12 yX12_days yX12_days ∈ wsG := wG (mT7 _ (List.mem_of_getElem? (i := 172) (by decide +kernel))) rfl
theorem co_X12_days : Cond.code yX12_days cX12_days 4 (some .boolean) ∈ wsG := wG (mT7 _ (List.mem_of_getElem? (i := 173) (by decide +kernel))) rfl
theorem ml_L_72 : Cond.methodLink RL 72 yX11_of ∈ wsG := wG (mT4 _ (List.mem_of_getElem? (i := 111) (by decide +kernel))) rfl
theorem im_X11_of : Cond.instanceMethod yX11_of ∈ wsG := wG (mT4 _ (List.mem_of_getElem? (i := 112) (by decide +kernel))) rfl
theorem se_X11_of : Cond.selects RX11 yX11_of yX11_of ∈ wsG := wG (mT4 _ (List.mem_of_getElem? (i := 113) (by decide +kernel))) rfl
theorem co_X11_of : Cond.code yX11_of cX11_of 4 (some .int) ∈ wsG := wG (mT4 _ (List.mem_of_getElem? (i := 114) (by decide +kernel))) rfl
theorem ml_X11_295 : Cond.methodLink RX11 295 yX10_rank ∈ wsG := wG (mT4 _ (List.mem_of_getElem? (i := 115) (by decide +kernel))) rfl
theorem im_X10_rank : Cond.instanceMethod yX10_rank ∈ wsG := wG (mT4 _ (List.mem_of_getElem? (i := 116) (by decide +kernel))) rfl
theorem se_X10_rank : Cond.selects RX10 yX10_rank yX10_rank ∈ wsG := wG (mT4 _ (List.mem_of_getElem? (i := 117) (by decide +kernel))) rfl
theorem co_X10_rank : Cond.code yX10_rank cX10_rank 4 (some .int) ∈ wsG := wG (mT4 _ (List.mem_of_getElem? (i := 118) (by decide +kernel))) rfl
theorem fl_X10_123 : Cond.fieldLink RX10 123 "PointFirst$Thrower" "best" "I" ∈ wsG := wG (mT1 _ (List.mem_of_getElem? (i := 89) (by decide +kernel))) rfl
theorem ml_X11_298 : Cond.methodLink RX11 298 yX10_needs ∈ wsG := wG (mT4 _ (List.mem_of_getElem? (i := 119) (by decide +kernel))) rfl
theorem im_X10_needs : Cond.instanceMethod yX10_needs ∈ wsG := wG (mT4 _ (List.mem_of_getElem? (i := 120) (by decide +kernel))) rfl
theorem se_X10_needs : Cond.selects RX10 yX10_needs yX10_needs ∈ wsG := wG (mT4 _ (List.mem_of_getElem? (i := 121) (by decide +kernel))) rfl
theorem co_X10_needs : Cond.code yX10_needs cX10_needs 5 (some .int) ∈ wsG := wG (mT4 _ (List.mem_of_getElem? (i := 122) (by decide +kernel))) rfl
theorem ml_X10_118 : Cond.methodLink RX10 118 Lib.Math.max.name ∈ wsG := wG (mT4 _ (List.mem_of_getElem? (i := 123) (by decide +kernel))) rfl
theorem ml_X11_301 : Cond.methodLink RX11 301 yX10_rule ∈ wsG := wG (mT4 _ (List.mem_of_getElem? (i := 124) (by decide +kernel))) rfl
theorem im_X10_rule : Cond.instanceMethod yX10_rule ∈ wsG := wG (mT4 _ (List.mem_of_getElem? (i := 125) (by decide +kernel))) rfl
theorem se_X10_rule : Cond.selects RX10 yX10_rule yX10_rule ∈ wsG := wG (mT4 _ (List.mem_of_getElem? (i := 126) (by decide +kernel))) rfl
theorem co_X10_rule : Cond.code yX10_rule cX10_rule 5 (some .int) ∈ wsG := wG (mT4 _ (List.mem_of_getElem? (i := 127) (by decide +kernel))) rfl
theorem ml_X10_110 : Cond.methodLink RX10 110 yX10_column ∈ wsG := wG (mT4 _ (List.mem_of_getElem? (i := 128) (by decide +kernel))) rfl
theorem im_X10_column : Cond.instanceMethod yX10_column ∈ wsG := wG (mT4 _ (List.mem_of_getElem? (i := 129) (by decide +kernel))) rfl
theorem se_X10_column : Cond.selects RX10 yX10_column yX10_column ∈ wsG := wG (mT4 _ (List.mem_of_getElem? (i := 130) (by decide +kernel))) rfl
theorem co_X10_column : Cond.code yX10_column cX10_column 3 (some .int) ∈ wsG := wG (mT4 _ (List.mem_of_getElem? (i := 131) (by decide +kernel))) rfl
theorem ml_X10_106 : Cond.methodLink RX10 106 yX10_hasLine ∈ wsG := wG (mT4 _ (List.mem_of_getElem? (i := 132) (by decide +kernel))) rfl
theorem im_X10_hasLine : Cond.instanceMethod yX10_hasLine ∈ wsG := wG (mT4 _ (List.mem_of_getElem? (i := 133) (by decide +kernel))) rfl
theorem se_X10_hasLine : Cond.selects RX10 yX10_hasLine yX10_hasLine ∈ wsG := wG (mT4 _ (List.mem_of_getElem? (i := 134) (by decide +kernel))) rfl
theorem co_X10_hasLine : Cond.code yX10_hasLine cX10_hasLine 2 (some .boolean) ∈ wsG := wG (mT4 _ (List.mem_of_getElem? (i := 135) (by decide +kernel))) rfl
theorem ml_X10_114 : Cond.methodLink RX10 114 yX10_isToday ∈ wsG := wG (mT4 _ (List.mem_of_getElem? (i := 136) (by decide +kernel))) rfl
theorem im_X10_isToday : Cond.instanceMethod yX10_isToday ∈ wsG := wG (mT4 _ (List.mem_of_getElem? (i := 138) (by decide +kernel))) rfl
theorem se_X10_isToday : Cond.selects RX10 yX10_isToday yX10_isToday ∈ wsG := wG (mP2 _ (List.mem_of_getElem? (i := 11) (by decide +kernel))) rfl
theorem co_X10_isToday : Cond.code yX10_isToday cX10_isToday 3 (some .boolean) ∈ wsG := wG (mT4 _ (List.mem_of_getElem? (i := 139) (by decide +kernel))) rfl
theorem ml_L_75 : Cond.methodLink RL 75 yX12_of ∈ wsG := wG (mT7 _ (List.mem_of_getElem? (i := 174) (by decide +kernel))) rfl
theorem im_X12_of : Cond.instanceMethod yX12_of ∈ wsG := wG (mT7 _ (List.mem_of_getElem? (i := 175) (by decide +kernel))) rfl
theorem se_X12_of : Cond.selects RX12 yX12_of yX12_of ∈ wsG := wG (mT7 _ (List.mem_of_getElem? (i := 176) (by decide +kernel))) rfl
theorem co_X12_of : Cond.code yX12_of cX12_of 3 (some .int) ∈ wsG := wG (mT7 _ (List.mem_of_getElem? (i := 177) (by decide +kernel))) rfl
theorem ml_X12_416 : Cond.methodLink RX12 416 yX12_rank ∈ wsG := wG (mT7 _ (List.mem_of_getElem? (i := 178) (by decide +kernel))) rfl
theorem im_X12_rank : Cond.instanceMethod yX12_rank ∈ wsG := wG (mT7 _ (List.mem_of_getElem? (i := 180) (by decide +kernel))) rfl
theorem se_X12_rank : Cond.selects RX12 yX12_rank yX12_rank ∈ wsG := wG (mP6 _ (List.mem_of_getElem? (i := 5) (by decide +kernel))) rfl
theorem co_X12_rank : Cond.code yX12_rank cX12_rank 4 (some .int) ∈ wsG := wG (mT7 _ (List.mem_of_getElem? (i := 181) (by decide +kernel))) rfl
theorem ml_X12_419 : Cond.methodLink RX12 419 yX12_needs ∈ wsG := wG (mT7 _ (List.mem_of_getElem? (i := 182) (by decide +kernel))) rfl
theorem im_X12_needs : Cond.instanceMethod yX12_needs ∈ wsG := wG (mT7 _ (List.mem_of_getElem? (i := 184) (by decide +kernel))) rfl
theorem se_X12_needs : Cond.selects RX12 yX12_needs yX12_needs ∈ wsG := wG (mP6 _ (List.mem_of_getElem? (i := 6) (by decide +kernel))) rfl
theorem co_X12_needs : Cond.code yX12_needs cX12_needs 4 (some .int) ∈ wsG := wG (mT7 _ (List.mem_of_getElem? (i := 185) (by decide +kernel))) rfl
theorem ml_X12_422 : Cond.methodLink RX12 422 yX12_ruled ∈ wsG := wG (mT7 _ (List.mem_of_getElem? (i := 186) (by decide +kernel))) rfl
theorem im_X12_ruled : Cond.instanceMethod yX12_ruled ∈ wsG := wG (mT7 _ (List.mem_of_getElem? (i := 188) (by decide +kernel))) rfl
theorem se_X12_ruled : Cond.selects RX12 yX12_ruled yX12_ruled ∈ wsG := wG (mP6 _ (List.mem_of_getElem? (i := 7) (by decide +kernel))) rfl
theorem co_X12_ruled : Cond.code yX12_ruled cX12_ruled 5 (some .int) ∈ wsG := wG (mT7 _ (List.mem_of_getElem? (i := 189) (by decide +kernel))) rfl
theorem ml_L_76 : Cond.methodLink RL 76 yX11_at ∈ wsG := wG (mT4 _ (List.mem_of_getElem? (i := 140) (by decide +kernel))) rfl
theorem im_X11_at : Cond.instanceMethod yX11_at ∈ wsG := wG (mT4 _ (List.mem_of_getElem? (i := 141) (by decide +kernel))) rfl
theorem se_X11_at : Cond.selects RX11 yX11_at yX11_at ∈ wsG := wG (mT4 _ (List.mem_of_getElem? (i := 142) (by decide +kernel))) rfl
theorem co_X11_at : Cond.code yX11_at cX11_at 3 (some .int) ∈ wsG := wG (mT4 _ (List.mem_of_getElem? (i := 143) (by decide +kernel))) rfl
theorem fl_X11_304 : Cond.fieldLink RX11 304 "PointFirst$World" "soft" "[I" ∈ wsG := wG (mT1 _ (List.mem_of_getElem? (i := 143) (by decide +kernel))) rfl
theorem fl_X11_307 : Cond.fieldLink RX11 307 "PointFirst$World" "tip" "[I" ∈ wsG := wG (mT1 _ (List.mem_of_getElem? (i := 146) (by decide +kernel))) rfl
theorem ml_L_79 : Cond.methodLink RL 79 yX12_at ∈ wsG := wG (mT7 _ (List.mem_of_getElem? (i := 190) (by decide +kernel))) rfl
theorem im_X12_at : Cond.instanceMethod yX12_at ∈ wsG := wG (mT7 _ (List.mem_of_getElem? (i := 191) (by decide +kernel))) rfl
theorem se_X12_at : Cond.selects RX12 yX12_at yX12_at ∈ wsG := wG (mT7 _ (List.mem_of_getElem? (i := 192) (by decide +kernel))) rfl
theorem co_X12_at : Cond.code yX12_at cX12_at 3 (some .int) ∈ wsG := wG (mT7 _ (List.mem_of_getElem? (i := 193) (by decide +kernel))) rfl
theorem ml_L_80 : Cond.methodLink RL 80 yX11_book ∈ wsG := wG (mT4 _ (List.mem_of_getElem? (i := 144) (by decide +kernel))) rfl
theorem im_X11_book : Cond.instanceMethod yX11_book ∈ wsG := wG (mT4 _ (List.mem_of_getElem? (i := 145) (by decide +kernel))) rfl
theorem se_X11_book : Cond.selects RX11 yX11_book yX11_book ∈ wsG := wG (mT4 _ (List.mem_of_getElem? (i := 146) (by decide +kernel))) rfl
theorem co_X11_book : Cond.code yX11_book cX11_book 3 (some .int) ∈ wsG := wG (mT4 _ (List.mem_of_getElem? (i := 147) (by decide +kernel))) rfl
theorem ml_X11_310 : Cond.methodLink RX11 310 yX10_hasLine ∈ wsG := wG (mT4 _ (List.mem_of_getElem? (i := 148) (by decide +kernel))) rfl
theorem ml_X11_313 : Cond.methodLink RX11 313 yX10_column ∈ wsG := wG (mT4 _ (List.mem_of_getElem? (i := 149) (by decide +kernel))) rfl
theorem ml_L_83 : Cond.methodLink RL 83 yX12_book ∈ wsG := wG (mT7 _ (List.mem_of_getElem? (i := 194) (by decide +kernel))) rfl
theorem im_X12_book : Cond.instanceMethod yX12_book ∈ wsG := wG (mT7 _ (List.mem_of_getElem? (i := 195) (by decide +kernel))) rfl
theorem se_X12_book : Cond.selects RX12 yX12_book yX12_book ∈ wsG := wG (mT7 _ (List.mem_of_getElem? (i := 196) (by decide +kernel))) rfl
theorem co_X12_book : Cond.code yX12_book cX12_book 3 (some .int) ∈ wsG := wG (mT7 _ (List.mem_of_getElem? (i := 197) (by decide +kernel))) rfl
theorem ml_L_84 : Cond.methodLink RL 84 yX11_fly ∈ wsG := wG (mT4 _ (List.mem_of_getElem? (i := 174) (by decide +kernel))) rfl
theorem im_X11_fly : Cond.instanceMethod yX11_fly ∈ wsG := wG (mT4 _ (List.mem_of_getElem? (i := 175) (by decide +kernel))) rfl
theorem se_X11_fly : Cond.selects RX11 yX11_fly yX11_fly ∈ wsG := wG (mT4 _ (List.mem_of_getElem? (i := 176) (by decide +kernel))) rfl
theorem co_X11_fly : Cond.code yX11_fly cX11_fly 9 (some .int) ∈ wsG := wG (mT4 _ (List.mem_of_getElem? (i := 177) (by decide +kernel))) rfl
theorem fl_X11_336 : Cond.fieldLink RX11 336 "PointFirst$Flight" "off" "I" ∈ wsG := wG (mT2 _ (List.mem_of_getElem? (i := 50) (by decide +kernel))) rfl
theorem fl_X11_339 : Cond.fieldLink RX11 339 "PointFirst$Flight" "is" "[I" ∈ wsG := wG (mT2 _ (List.mem_of_getElem? (i := 45) (by decide +kernel))) rfl
theorem fl_X11_342 : Cond.fieldLink RX11 342 "PointFirst$Flight" "top" "I" ∈ wsG := wG (mT2 _ (List.mem_of_getElem? (i := 52) (by decide +kernel))) rfl
theorem ml_X11_329 : Cond.methodLink RX11 329 yX11_canBlow ∈ wsG := wG (mT4 _ (List.mem_of_getElem? (i := 178) (by decide +kernel))) rfl
theorem st_X11_canBlow : Cond.static yX11_canBlow ∈ wsG := wG (mT4 _ (List.mem_of_getElem? (i := 179) (by decide +kernel))) rfl
theorem co_X11_canBlow : Cond.code yX11_canBlow cX11_canBlow 1 (some .boolean) ∈ wsG := wG (mT4 _ (List.mem_of_getElem? (i := 180) (by decide +kernel))) rfl
theorem ml_X11_332 : Cond.methodLink RX11 332 yX2_landing ∈ wsG := wG (mT4 _ (List.mem_of_getElem? (i := 181) (by decide +kernel))) rfl
theorem ml_L_88 : Cond.methodLink RL 88 yX12_fly ∈ wsG := wG (mT7 _ (List.mem_of_getElem? (i := 198) (by decide +kernel))) rfl
theorem im_X12_fly : Cond.instanceMethod yX12_fly ∈ wsG := wG (mT7 _ (List.mem_of_getElem? (i := 199) (by decide +kernel))) rfl
theorem se_X12_fly : Cond.selects RX12 yX12_fly yX12_fly ∈ wsG := wG (mT7 _ (List.mem_of_getElem? (i := 200) (by decide +kernel))) rfl
theorem co_X12_fly : Cond.code yX12_fly cX12_fly 8 (some .int) ∈ wsG := wG (mT7 _ (List.mem_of_getElem? (i := 201) (by decide +kernel))) rfl
theorem ml_X12_425 : Cond.methodLink RX12 425 yX12_isGood ∈ wsG := wG (mT7 _ (List.mem_of_getElem? (i := 202) (by decide +kernel))) rfl
theorem im_X12_isGood : Cond.instanceMethod yX12_isGood ∈ wsG := wG (mT7 _ (List.mem_of_getElem? (i := 204) (by decide +kernel))) rfl
theorem se_X12_isGood : Cond.selects RX12 yX12_isGood yX12_isGood ∈ wsG := wG (mP6 _ (List.mem_of_getElem? (i := 8) (by decide +kernel))) rfl
theorem co_X12_isGood : Cond.code yX12_isGood cX12_isGood 1 (some .boolean) ∈ wsG := wG (mT7 _ (List.mem_of_getElem? (i := 205) (by decide +kernel))) rfl
theorem ml_L_89 : Cond.methodLink RL 89 yX11_angle ∈ wsG := wG (mT4 _ (List.mem_of_getElem? (i := 182) (by decide +kernel))) rfl
theorem im_X11_angle : Cond.instanceMethod yX11_angle ∈ wsG := wG (mT4 _ (List.mem_of_getElem? (i := 183) (by decide +kernel))) rfl
theorem se_X11_angle : Cond.selects RX11 yX11_angle yX11_angle ∈ wsG := wG (mT4 _ (List.mem_of_getElem? (i := 184) (by decide +kernel))) rfl
theorem co_X11_angle : Cond.code yX11_angle cX11_angle 5 (some .int) ∈ wsG := wG (mT4 _ (List.mem_of_getElem? (i := 185) (by decide +kernel))) rfl
theorem fl_X11_352 : Cond.fieldLink RX11 352 "PointFirst$Thought" "foundAngle" "I" ∈ wsG := wG (mT2 _ (List.mem_of_getElem? (i := 68) (by decide +kernel))) rfl
theorem fl_X11_355 : Cond.fieldLink RX11 355 "PointFirst$Thought" "foundFar" "I" ∈ wsG := wG (mT2 _ (List.mem_of_getElem? (i := 70) (by decide +kernel))) rfl
theorem ml_X11_345 : Cond.methodLink RX11 345 yX7_findAngle ∈ wsG := wG (mT4 _ (List.mem_of_getElem? (i := 186) (by decide +kernel))) rfl
theorem im_X7_findAngle : Cond.instanceMethod yX7_findAngle ∈ wsG := wG (mT4 _ (List.mem_of_getElem? (i := 187) (by decide +kernel))) rfl
theorem se_X7_findAngle : Cond.selects RX7 yX7_findAngle yX7_findAngle ∈ wsG := wG (mT4 _ (List.mem_of_getElem? (i := 188) (by decide +kernel))) rfl
theorem co_X7_findAngle : Cond.code yX7_findAngle cX7_findAngle 6 none ∈ wsG := wG (mT4 _ (List.mem_of_getElem? (i := 189) (by decide +kernel))) rfl
theorem fl_X7_46 : Cond.fieldLink RX7 46 "PointFirst$Thought" "foundAngle" "I" ∈ wsG := wG (mT2 _ (List.mem_of_getElem? (i := 67) (by decide +kernel))) rfl
theorem fl_X7_49 : Cond.fieldLink RX7 49 "PointFirst$Thought" "foundFar" "I" ∈ wsG := wG (mT2 _ (List.mem_of_getElem? (i := 69) (by decide +kernel))) rfl
theorem ml_X7_52 : Cond.methodLink RX7 52 yX7_goodFar ∈ wsG := wG (mT4 _ (List.mem_of_getElem? (i := 190) (by decide +kernel))) rfl
theorem im_X7_goodFar : Cond.instanceMethod yX7_goodFar ∈ wsG := wG (mT4 _ (List.mem_of_getElem? (i := 191) (by decide +kernel))) rfl
theorem se_X7_goodFar : Cond.selects RX7 yX7_goodFar yX7_goodFar ∈ wsG := wG (mT4 _ (List.mem_of_getElem? (i := 192) (by decide +kernel))) rfl
theorem co_X7_goodFar : Cond.code yX7_goodFar cX7_goodFar 6 (some .int) ∈ wsG := wG (mT4 _ (List.mem_of_getElem? (i := 193) (by decide +kernel))) rfl
theorem fl_X7_22 : Cond.fieldLink RX7 22 "PointFirst$World" "told" "[I" ∈ wsG := wG (mT1 _ (List.mem_of_getElem? (i := 139) (by decide +kernel))) rfl
theorem fl_X7_31 : Cond.fieldLink RX7 31 "PointFirst$World" "flight" "LPointFirst$Law;" ∈ wsG := wG (mT1 _ (List.mem_of_getElem? (i := 152) (by decide +kernel))) rfl
theorem fl_X7_38 : Cond.fieldLink RX7 38 "PointFirst$Flight" "far" "I" ∈ wsG := wG (mT2 _ (List.mem_of_getElem? (i := 46) (by decide +kernel))) rfl
theorem ml_X7_27 : Cond.methodLink RX7 27 yX2_begin ∈ wsG := wG (mT4 _ (List.mem_of_getElem? (i := 194) (by decide +kernel))) rfl
theorem ml_X7_34 : Cond.methodLink RX7 34 yX2_go ∈ wsG := wG (mT4 _ (List.mem_of_getElem? (i := 195) (by decide +kernel))) rfl
theorem ml_X7_42 : Cond.methodLink RX7 42 yX2_how ∈ wsG := wG (mT4 _ (List.mem_of_getElem? (i := 196) (by decide +kernel))) rfl
theorem ml_X7_56 : Cond.methodLink RX7 56 yX7_found ∈ wsG := wG (mT4 _ (List.mem_of_getElem? (i := 197) (by decide +kernel))) rfl
theorem im_X7_found : Cond.instanceMethod yX7_found ∈ wsG := wG (mT4 _ (List.mem_of_getElem? (i := 199) (by decide +kernel))) rfl
theorem se_X7_found : Cond.selects RX7 yX7_found yX7_found ∈ wsG := wG (mP2 _ (List.mem_of_getElem? (i := 12) (by decide +kernel))) rfl
theorem co_X7_found : Cond.code yX7_found cX7_found 3 none ∈ wsG := wG (mT4 _ (List.mem_of_getElem? (i := 200) (by decide +kernel))) rfl
theorem ml_X11_349 : Cond.methodLink RX11 349 yX7_findSafe ∈ wsG := wG (mT4 _ (List.mem_of_getElem? (i := 201) (by decide +kernel))) rfl
theorem im_X7_findSafe : Cond.instanceMethod yX7_findSafe ∈ wsG := wG (mT4 _ (List.mem_of_getElem? (i := 202) (by decide +kernel))) rfl
theorem se_X7_findSafe : Cond.selects RX7 yX7_findSafe yX7_findSafe ∈ wsG := wG (mT4 _ (List.mem_of_getElem? (i := 203) (by decide +kernel))) rfl
theorem co_X7_findSafe : Cond.code yX7_findSafe cX7_findSafe 7 none ∈ wsG := wG (mT4 _ (List.mem_of_getElem? (i := 204) (by decide +kernel))) rfl
theorem ml_X7_60 : Cond.methodLink RX7 60 yX7_leastAround ∈ wsG := wG (mT4 _ (List.mem_of_getElem? (i := 205) (by decide +kernel))) rfl
theorem im_X7_leastAround : Cond.instanceMethod yX7_leastAround ∈ wsG := wG (mT4 _ (List.mem_of_getElem? (i := 207) (by decide +kernel))) rfl
theorem se_X7_leastAround : Cond.selects RX7 yX7_leastAround yX7_leastAround ∈ wsG := wG (mP2 _ (List.mem_of_getElem? (i := 13) (by decide +kernel))) rfl
theorem co_X7_leastAround : Cond.code yX7_leastAround cX7_leastAround 5 (some .int) ∈ wsG := wG (mT4 _ (List.mem_of_getElem? (i := 208) (by decide +kernel))) rfl
theorem ml_X7_68 : Cond.methodLink RX7 68 Lib.Math.min.name ∈ wsG := wG (mT4 _ (List.mem_of_getElem? (i := 210) (by decide +kernel))) rfl
theorem ml_L_92 : Cond.methodLink RL 92 yX12_angle ∈ wsG := wG (mT7 _ (List.mem_of_getElem? (i := 206) (by decide +kernel))) rfl
theorem im_X12_angle : Cond.instanceMethod yX12_angle ∈ wsG := wG (mT7 _ (List.mem_of_getElem? (i := 207) (by decide +kernel))) rfl
theorem se_X12_angle : Cond.selects RX12 yX12_angle yX12_angle ∈ wsG := wG (mT7 _ (List.mem_of_getElem? (i := 208) (by decide +kernel))) rfl
theorem co_X12_angle : Cond.code yX12_angle cX12_angle 5 (some .int) ∈ wsG := wG (mT7 _ (List.mem_of_getElem? (i := 209) (by decide +kernel))) rfl
theorem fl_X12_428 : Cond.fieldLink RX12 428 "PointFirstModel" "bestAngle" "I" ∈ wsG := wG (mT5 _ (List.mem_of_getElem? (i := 215) (by decide +kernel))) rfl
theorem fl_X12_431 : Cond.fieldLink RX12 431 "PointFirstModel" "bestFar" "I" ∈ wsG := wG (mT5 _ (List.mem_of_getElem? (i := 216) (by decide +kernel))) rfl
theorem ml_X12_440 : Cond.methodLink RX12 440 yX12_isForce ∈ wsG := wG (mT7 _ (List.mem_of_getElem? (i := 210) (by decide +kernel))) rfl
theorem st_X12_isForce : Cond.static yX12_isForce ∈ wsG := wG (mT7 _ (List.mem_of_getElem? (i := 211) (by decide +kernel))) rfl
theorem co_X12_isForce : Cond.code yX12_isForce cX12_isForce 1 (some .boolean) ∈ wsG := wG (mT7 _ (List.mem_of_getElem? (i := 212) (by decide +kernel))) rfl
theorem ml_X12_443 : Cond.methodLink RX12 443 yX12_isWind ∈ wsG := wG (mT7 _ (List.mem_of_getElem? (i := 213) (by decide +kernel))) rfl
theorem st_X12_isWind : Cond.static yX12_isWind ∈ wsG := wG (mT7 _ (List.mem_of_getElem? (i := 214) (by decide +kernel))) rfl
theorem co_X12_isWind : Cond.code yX12_isWind cX12_isWind 1 (some .boolean) ∈ wsG := wG (mT7 _ (List.mem_of_getElem? (i := 215) (by decide +kernel))) rfl
theorem ml_X12_446 : Cond.methodLink RX12 446 yX12_laysAngle ∈ wsG := wG (mT7 _ (List.mem_of_getElem? (i := 216) (by decide +kernel))) rfl
theorem im_X12_laysAngle : Cond.instanceMethod yX12_laysAngle ∈ wsG := wG (mT7 _ (List.mem_of_getElem? (i := 218) (by decide +kernel))) rfl
theorem se_X12_laysAngle : Cond.selects RX12 yX12_laysAngle yX12_laysAngle ∈ wsG := wG (mP6 _ (List.mem_of_getElem? (i := 9) (by decide +kernel))) rfl
theorem co_X12_laysAngle : Cond.code yX12_laysAngle cX12_laysAngle 6 none ∈ wsG := wG (mT7 _ (List.mem_of_getElem? (i := 219) (by decide +kernel))) rfl
theorem ml_X12_434 : Cond.methodLink RX12 434 yX12_goodFar ∈ wsG := wG (mT7 _ (List.mem_of_getElem? (i := 220) (by decide +kernel))) rfl
theorem im_X12_goodFar : Cond.instanceMethod yX12_goodFar ∈ wsG := wG (mT7 _ (List.mem_of_getElem? (i := 222) (by decide +kernel))) rfl
theorem se_X12_goodFar : Cond.selects RX12 yX12_goodFar yX12_goodFar ∈ wsG := wG (mP6 _ (List.mem_of_getElem? (i := 10) (by decide +kernel))) rfl
theorem co_X12_goodFar : Cond.code yX12_goodFar cX12_goodFar 5 (some .int) ∈ wsG := wG (mT7 _ (List.mem_of_getElem? (i := 223) (by decide +kernel))) rfl
theorem ml_X12_449 : Cond.methodLink RX12 449 yX12_laysSafe ∈ wsG := wG (mT7 _ (List.mem_of_getElem? (i := 224) (by decide +kernel))) rfl
theorem im_X12_laysSafe : Cond.instanceMethod yX12_laysSafe ∈ wsG := wG (mT7 _ (List.mem_of_getElem? (i := 226) (by decide +kernel))) rfl
theorem se_X12_laysSafe : Cond.selects RX12 yX12_laysSafe yX12_laysSafe ∈ wsG := wG (mP6 _ (List.mem_of_getElem? (i := 11) (by decide +kernel))) rfl
theorem co_X12_laysSafe : Cond.code yX12_laysSafe cX12_laysSafe 6 none ∈ wsG := wG (mT7 _ (List.mem_of_getElem? (i := 227) (by decide +kernel))) rfl
theorem ml_X12_437 : Cond.methodLink RX12 437 yX12_safeFar ∈ wsG := wG (mT7 _ (List.mem_of_getElem? (i := 228) (by decide +kernel))) rfl
theorem im_X12_safeFar : Cond.instanceMethod yX12_safeFar ∈ wsG := wG (mT7 _ (List.mem_of_getElem? (i := 230) (by decide +kernel))) rfl
theorem se_X12_safeFar : Cond.selects RX12 yX12_safeFar yX12_safeFar ∈ wsG := wG (mP6 _ (List.mem_of_getElem? (i := 12) (by decide +kernel))) rfl
theorem co_X12_safeFar : Cond.code yX12_safeFar cX12_safeFar 7 (some .int) ∈ wsG := wG (mT7 _ (List.mem_of_getElem? (i := 231) (by decide +kernel))) rfl
theorem ml_L_93 : Cond.methodLink RL 93 yX11_right ∈ wsG := wG (mT4 _ (List.mem_of_getElem? (i := 211) (by decide +kernel))) rfl
theorem im_X11_right : Cond.instanceMethod yX11_right ∈ wsG := wG (mT4 _ (List.mem_of_getElem? (i := 212) (by decide +kernel))) rfl
theorem se_X11_right : Cond.selects RX11 yX11_right yX11_right ∈ wsG := wG (mT4 _ (List.mem_of_getElem? (i := 213) (by decide +kernel))) rfl
theorem co_X11_right : Cond.code yX11_right cX11_right 6 (some .int) ∈ wsG := wG (mT4 _ (List.mem_of_getElem? (i := 214) (by decide +kernel))) rfl
theorem ml_L_96 : Cond.methodLink RL 96 yX12_right ∈ wsG := wG (mT7 _ (List.mem_of_getElem? (i := 232) (by decide +kernel))) rfl
theorem im_X12_right : Cond.instanceMethod yX12_right ∈ wsG := wG (mT7 _ (List.mem_of_getElem? (i := 233) (by decide +kernel))) rfl
theorem se_X12_right : Cond.selects RX12 yX12_right yX12_right ∈ wsG := wG (mT7 _ (List.mem_of_getElem? (i := 234) (by decide +kernel))) rfl
theorem co_X12_right : Cond.code yX12_right cX12_right 6 (some .int) ∈ wsG := wG (mT7 _ (List.mem_of_getElem? (i := 235) (by decide +kernel))) rfl
theorem ml_L_97 : Cond.methodLink RL 97 yX11_winds ∈ wsG := wG (mT4 _ (List.mem_of_getElem? (i := 215) (by decide +kernel))) rfl
theorem im_X11_winds : Cond.instanceMethod yX11_winds ∈ wsG := wG (mT4 _ (List.mem_of_getElem? (i := 216) (by decide +kernel))) rfl
theorem se_X11_winds : Cond.selects RX11 yX11_winds yX11_winds ∈ wsG := wG (mT4 _ (List.mem_of_getElem? (i := 217) (by decide +kernel))) rfl
theorem co_X11_winds : Cond.code yX11_winds cX11_winds 11 (some .long) ∈ wsG := wG (mT4 _ (List.mem_of_getElem? (i := 218) (by decide +kernel))) rfl
theorem cl_X11_358 : Cond.constantLong RX11 358 (-1) ∈ wsG := wG (mT4 _ (List.mem_of_getElem? (i := 219) (by decide +kernel))) rfl
theorem ml_X11_363 : Cond.methodLink RX11 363 Lib.MathLoose.abs_long.x ∈ wsG := wG (mT4 _ (List.mem_of_getElem? (i := 224) (by decide +kernel))) rfl
theorem st_J9_abs_067f4 : Cond.static Lib.MathLoose.abs_long.x ∈ wsG := wG (mT4 _ (List.mem_of_getElem? (i := 225) (by decide +kernel))) rfl
theorem co_J9_abs_067f4 : Cond.code Lib.MathLoose.abs_long.x Lib.MathLoose.abs_long.code 2 (some .long) ∈ wsG := wG (mT4 _ (List.mem_of_getElem? (i := 226) (by decide +kernel))) rfl
theorem ml_X11_360 : Cond.methodLink RX11 360 yX7_far ∈ wsG := wG (mT4 _ (List.mem_of_getElem? (i := 220) (by decide +kernel))) rfl
theorem im_X7_far : Cond.instanceMethod yX7_far ∈ wsG := wG (mT4 _ (List.mem_of_getElem? (i := 221) (by decide +kernel))) rfl
theorem se_X7_far : Cond.selects RX7 yX7_far yX7_far ∈ wsG := wG (mT4 _ (List.mem_of_getElem? (i := 222) (by decide +kernel))) rfl
theorem co_X7_far : Cond.code yX7_far cX7_far 6 (some .int) ∈ wsG := wG (mT4 _ (List.mem_of_getElem? (i := 223) (by decide +kernel))) rfl
theorem ml_L_101 : Cond.methodLink RL 101 yX12_winds ∈ wsG := wG (mT7 _ (List.mem_of_getElem? (i := 236) (by decide +kernel))) rfl
theorem im_X12_winds : Cond.instanceMethod yX12_winds ∈ wsG := wG (mT7 _ (List.mem_of_getElem? (i := 237) (by decide +kernel))) rfl
theorem se_X12_winds : Cond.selects RX12 yX12_winds yX12_winds ∈ wsG := wG (mT7 _ (List.mem_of_getElem? (i := 238) (by decide +kernel))) rfl
theorem co_X12_winds : Cond.code yX12_winds cX12_winds 11 (some .long) ∈ wsG := wG (mT7 _ (List.mem_of_getElem? (i := 239) (by decide +kernel))) rfl
theorem cl_X12_452 : Cond.constantLong RX12 452 (-1) ∈ wsG := wG (mT8 _ (List.mem_of_getElem? (i := 0) (by decide +kernel))) rfl
theorem ml_L_102 : Cond.methodLink RL 102 yX11_still ∈ wsG := wG (mT4 _ (List.mem_of_getElem? (i := 227) (by decide +kernel))) rfl
theorem im_X11_still : Cond.instanceMethod yX11_still ∈ wsG := wG (mT4 _ (List.mem_of_getElem? (i := 228) (by decide +kernel))) rfl
theorem se_X11_still : Cond.selects RX11 yX11_still yX11_still ∈ wsG := wG (mT4 _ (List.mem_of_getElem? (i := 229) (by decide +kernel))) rfl
theorem co_X11_still : Cond.code yX11_still cX11_still 2 (some .int) ∈ wsG := wG (mT4 _ (List.mem_of_getElem? (i := 230) (by decide +kernel))) rfl
theorem ml_L_105 : Cond.methodLink RL 105 yX12_still ∈ wsG := wG (mT8 _ (List.mem_of_getElem? (i := 1) (by decide +kernel))) rfl
theorem im_X12_still : Cond.instanceMethod yX12_still ∈ wsG := wG (mT8 _ (List.mem_of_getElem? (i := 2) (by decide +kernel))) rfl
theorem se_X12_still : Cond.selects RX12 yX12_still yX12_still ∈ wsG := wG (mT8 _ (List.mem_of_getElem? (i := 3) (by decide +kernel))) rfl
theorem co_X12_still : Cond.code yX12_still cX12_still 3 (some .int) ∈ wsG := wG (mT8 _ (List.mem_of_getElem? (i := 4) (by decide +kernel))) rfl
theorem ml_L_106 : Cond.methodLink RL 106 yX11_holds ∈ wsG := wG (mT4 _ (List.mem_of_getElem? (i := 231) (by decide +kernel))) rfl
theorem im_X11_holds : Cond.instanceMethod yX11_holds ∈ wsG := wG (mT4 _ (List.mem_of_getElem? (i := 232) (by decide +kernel))) rfl
theorem se_X11_holds : Cond.selects RX11 yX11_holds yX11_holds ∈ wsG := wG (mT4 _ (List.mem_of_getElem? (i := 233) (by decide +kernel))) rfl
theorem co_X11_holds : Cond.code yX11_holds cX11_holds 8 (some .int) ∈ wsG := wG (mT4 _ (List.mem_of_getElem? (i := 234) (by decide +kernel))) rfl
theorem ml_X11_367 : Cond.methodLink RX11 367 yX0_askState ∈ wsG := wG (mT4 _ (List.mem_of_getElem? (i := 235) (by decide +kernel))) rfl
theorem ml_L_110 : Cond.methodLink RL 110 yX12_holds ∈ wsG := wG (mT8 _ (List.mem_of_getElem? (i := 75) (by decide +kernel))) rfl
theorem im_X12_holds : Cond.instanceMethod yX12_holds ∈ wsG := wG (mT8 _ (List.mem_of_getElem? (i := 76) (by decide +kernel))) rfl
theorem se_X12_holds : Cond.selects RX12 yX12_holds yX12_holds ∈ wsG := wG (mT8 _ (List.mem_of_getElem? (i := 77) (by decide +kernel))) rfl
theorem co_X12_holds : Cond.code yX12_holds cX12_holds 6 (some .int) ∈ wsG := wG (mT8 _ (List.mem_of_getElem? (i := 78) (by decide +kernel))) rfl
theorem ml_L_111 : Cond.methodLink RL 111 yX11_chance ∈ wsG := wG (mT4 _ (List.mem_of_getElem? (i := 236) (by decide +kernel))) rfl
theorem im_X11_chance : Cond.instanceMethod yX11_chance ∈ wsG := wG (mT4 _ (List.mem_of_getElem? (i := 237) (by decide +kernel))) rfl
theorem se_X11_chance : Cond.selects RX11 yX11_chance yX11_chance ∈ wsG := wG (mT4 _ (List.mem_of_getElem? (i := 238) (by decide +kernel))) rfl
theorem co_X11_chance : Cond.code yX11_chance cX11_chance 10 (some .int) ∈ wsG := wG (mT4 _ (List.mem_of_getElem? (i := 239) (by decide +kernel))) rfl
theorem fl_X11_371 : Cond.fieldLink RX11 371 "PointFirst" "chances" "LPointFirst$Chances;" ∈ wsG := wG (mT2 _ (List.mem_of_getElem? (i := 116) (by decide +kernel))) rfl
theorem kl_X11_375 : Cond.classLink RX11 375 RX1 ∈ wsG := wG (mT5 _ (List.mem_of_getElem? (i := 0) (by decide +kernel))) rfl
theorem ia_X1 : Cond.instantiable RX1 9 ∈ wsG := wG (mT5 _ (List.mem_of_getElem? (i := 1) (by decide +kernel))) rfl
theorem in_X1 : Cond.initialized RX1 ∈ wsG := wG (mT1 _ (List.mem_of_getElem? (i := 18) (by decide +kernel))) rfl
theorem fl_X11_384 : Cond.fieldLink RX11 384 "PointFirst$Chances" "reaches" "[Z" ∈ wsG := wG (mT5 _ (List.mem_of_getElem? (i := 10) (by decide +kernel))) rfl
theorem fl_X11_392 : Cond.fieldLink RX11 392 "PointFirst$Chances" "most" "I" ∈ wsG := wG (mT5 _ (List.mem_of_getElem? (i := 12) (by decide +kernel))) rfl
theorem fl_X11_395 : Cond.fieldLink RX11 395 "PointFirst$Chances" "force" "I" ∈ wsG := wG (mT5 _ (List.mem_of_getElem? (i := 14) (by decide +kernel))) rfl
theorem ml_X11_377 : Cond.methodLink RX11 377 yX1_init ∈ wsG := wG (mT5 _ (List.mem_of_getElem? (i := 2) (by decide +kernel))) rfl
theorem im_X1_init : Cond.instanceMethod yX1_init ∈ wsG := wG (mT5 _ (List.mem_of_getElem? (i := 3) (by decide +kernel))) rfl
theorem co_X1_init : Cond.code yX1_init cX1_init 1 none ∈ wsG := wG (mT5 _ (List.mem_of_getElem? (i := 4) (by decide +kernel))) rfl
theorem ml_X1_3 : Cond.methodLink RX1 3 objectInit ∈ wsG := wG (mT5 _ (List.mem_of_getElem? (i := 5) (by decide +kernel))) rfl
theorem fl_X1_11 : Cond.fieldLink RX1 11 "PointFirst$Chances" "reaches" "[Z" ∈ wsG := wG (mT5 _ (List.mem_of_getElem? (i := 9) (by decide +kernel))) rfl
theorem kl_X1_15 : Cond.classLink RX1 15 RX0 ∈ wsG := wG (mT5 _ (List.mem_of_getElem? (i := 6) (by decide +kernel))) rfl
theorem fl_X1_18 : Cond.fieldLink RX1 18 "PointFirst$Chances" "arms" "LPointFirst$Arms;" ∈ wsG := wG (mT5 _ (List.mem_of_getElem? (i := 15) (by decide +kernel))) rfl
theorem kl_X1_24 : Cond.classLink RX1 24 "[[I" ∈ wsG := wG (mT5 _ (List.mem_of_getElem? (i := 8) (by decide +kernel))) rfl
theorem fl_X1_26 : Cond.fieldLink RX1 26 "PointFirst$Chances" "known" "[[I" ∈ wsG := wG (mT5 _ (List.mem_of_getElem? (i := 16) (by decide +kernel))) rfl
theorem ml_X1_17 : Cond.methodLink RX1 17 yX0_init ∈ wsG := wG (mT5 _ (List.mem_of_getElem? (i := 7) (by decide +kernel))) rfl
theorem ml_X11_378 : Cond.methodLink RX11 378 yX1_choice ∈ wsG := wG (mT5 _ (List.mem_of_getElem? (i := 41) (by decide +kernel))) rfl
theorem st_X1_choice : Cond.static yX1_choice ∈ wsG := wG (mT5 _ (List.mem_of_getElem? (i := 42) (by decide +kernel))) rfl
theorem co_X1_choice : Cond.code yX1_choice cX1_choice 1 (some .int) ∈ wsG := wG (mT5 _ (List.mem_of_getElem? (i := 43) (by decide +kernel))) rfl
theorem ml_X11_381 : Cond.methodLink RX11 381 yX7_goodFar ∈ wsG := wG (mT5 _ (List.mem_of_getElem? (i := 44) (by decide +kernel))) rfl
theorem ml_X11_388 : Cond.methodLink RX11 388 yX1_weigh ∈ wsG := wG (mT5 _ (List.mem_of_getElem? (i := 45) (by decide +kernel))) rfl
theorem im_X1_weigh : Cond.instanceMethod yX1_weigh ∈ wsG := wG (mT5 _ (List.mem_of_getElem? (i := 46) (by decide +kernel))) rfl
theorem se_X1_weigh : Cond.selects RX1 yX1_weigh yX1_weigh ∈ wsG := wG (mT5 _ (List.mem_of_getElem? (i := 47) (by decide +kernel))) rfl
theorem co_X1_weigh : Cond.code yX1_weigh cX1_weigh 7 none ∈ wsG := wG (mT5 _ (List.mem_of_getElem? (i := 48) (by decide +kernel))) rfl
theorem fl_X1_33 : Cond.fieldLink RX1 33 "PointFirst$World" "arms" "LPointFirst$Law;" ∈ wsG := wG (mT1 _ (List.mem_of_getElem? (i := 155) (by decide +kernel))) rfl
theorem fl_X1_36 : Cond.fieldLink RX1 36 "PointFirst$Chances" "law" "LPointFirst$Law;" ∈ wsG := wG (mT5 _ (List.mem_of_getElem? (i := 17) (by decide +kernel))) rfl
theorem fl_X1_39 : Cond.fieldLink RX1 39 "PointFirst$Chances" "angle" "I" ∈ wsG := wG (mT5 _ (List.mem_of_getElem? (i := 18) (by decide +kernel))) rfl
theorem fl_X1_43 : Cond.fieldLink RX1 43 "PointFirst$Thrower" "power" "I" ∈ wsG := wG (mT1 _ (List.mem_of_getElem? (i := 78) (by decide +kernel))) rfl
theorem fl_X1_51 : Cond.fieldLink RX1 51 "PointFirst$Chances" "forces" "I" ∈ wsG := wG (mT5 _ (List.mem_of_getElem? (i := 19) (by decide +kernel))) rfl
theorem fl_X1_54 : Cond.fieldLink RX1 54 "PointFirst$Thrower" "thrown" "I" ∈ wsG := wG (mT1 _ (List.mem_of_getElem? (i := 93) (by decide +kernel))) rfl
theorem fl_X1_57 : Cond.fieldLink RX1 57 "PointFirst$Chances" "thrown" "I" ∈ wsG := wG (mT5 _ (List.mem_of_getElem? (i := 20) (by decide +kernel))) rfl
theorem fl_X1_58 : Cond.fieldLink RX1 58 "PointFirst$World" "round" "I" ∈ wsG := wG (mT1 _ (List.mem_of_getElem? (i := 124) (by decide +kernel))) rfl
theorem fl_X1_71 : Cond.fieldLink RX1 71 "PointFirst$Chances" "most" "I" ∈ wsG := wG (mT5 _ (List.mem_of_getElem? (i := 11) (by decide +kernel))) rfl
theorem fl_X1_74 : Cond.fieldLink RX1 74 "PointFirst$Chances" "force" "I" ∈ wsG := wG (mT5 _ (List.mem_of_getElem? (i := 13) (by decide +kernel))) rfl
theorem fl_X1_77 : Cond.fieldLink RX1 77 "PointFirst$Thrower" "wear" "I" ∈ wsG := wG (mT1 _ (List.mem_of_getElem? (i := 83) (by decide +kernel))) rfl
theorem ml_X1_48 : Cond.methodLink RX1 48 yX1_upTo ∈ wsG := wG (mT5 _ (List.mem_of_getElem? (i := 49) (by decide +kernel))) rfl
theorem st_X1_upTo : Cond.static yX1_upTo ∈ wsG := wG (mT5 _ (List.mem_of_getElem? (i := 50) (by decide +kernel))) rfl
theorem co_X1_upTo : Cond.code yX1_upTo cX1_upTo 2 (some .int) ∈ wsG := wG (mT5 _ (List.mem_of_getElem? (i := 51) (by decide +kernel))) rfl
theorem ml_X1_29 : Cond.methodLink RX1 29 yX1_choice ∈ wsG := wG (mT5 _ (List.mem_of_getElem? (i := 52) (by decide +kernel))) rfl
theorem ml_X1_61 : Cond.methodLink RX1 61 yX0_ask ∈ wsG := wG (mT5 _ (List.mem_of_getElem? (i := 53) (by decide +kernel))) rfl
theorem ml_X1_65 : Cond.methodLink RX1 65 yJ7_fill_53178 ∈ wsG := wG (mT5 _ (List.mem_of_getElem? (i := 54) (by decide +kernel))) rfl
theorem st_J7_fill_53178 : Cond.static yJ7_fill_53178 ∈ wsG := wG (mT5 _ (List.mem_of_getElem? (i := 55) (by decide +kernel))) rfl
theorem in_J7 : Cond.initialized RJ7 ∈ wsG := wG (mT1 _ (List.mem_of_getElem? (i := 19) (by decide +kernel))) rfl
theorem co_J7_fill_53178 : Cond.code yJ7_fill_53178 cJ7_fill_53178 4 none ∈ wsG := wG (mT5 _ (List.mem_of_getElem? (i := 56) (by decide +kernel))) rfl
theorem ml_X1_80 : Cond.methodLink RX1 80 yX1_by ∈ wsG := wG (mT5 _ (List.mem_of_getElem? (i := 57) (by decide +kernel))) rfl
theorem im_X1_by : Cond.instanceMethod yX1_by ∈ wsG := wG (mT5 _ (List.mem_of_getElem? (i := 59) (by decide +kernel))) rfl
theorem se_X1_by : Cond.selects RX1 yX1_by yX1_by ∈ wsG := wG (mP2 _ (List.mem_of_getElem? (i := 14) (by decide +kernel))) rfl
theorem co_X1_by : Cond.code yX1_by cX1_by 6 (some .int) ∈ wsG := wG (mT5 _ (List.mem_of_getElem? (i := 60) (by decide +kernel))) rfl
theorem cn_X1_92 : Cond.constant RX1 92 (1000000) ∈ wsG := wG (mT5 _ (List.mem_of_getElem? (i := 63) (by decide +kernel))) rfl
theorem ml_X1_97 : Cond.methodLink RX1 97 Lib.Math.min.name ∈ wsG := wG (mT5 _ (List.mem_of_getElem? (i := 65) (by decide +kernel))) rfl
theorem cl_X1_106 : Cond.constantLong RX1 106 (1000000) ∈ wsG := wG (mT5 _ (List.mem_of_getElem? (i := 71) (by decide +kernel))) rfl
theorem ml_X1_84 : Cond.methodLink RX1 84 yX0_askThrow ∈ wsG := wG (mT5 _ (List.mem_of_getElem? (i := 61) (by decide +kernel))) rfl
theorem ml_X1_88 : Cond.methodLink RX1 88 yX0_askState ∈ wsG := wG (mT5 _ (List.mem_of_getElem? (i := 62) (by decide +kernel))) rfl
theorem ml_X1_93 : Cond.methodLink RX1 93 yX0_tell ∈ wsG := wG (mT5 _ (List.mem_of_getElem? (i := 64) (by decide +kernel))) rfl
theorem ml_X1_103 : Cond.methodLink RX1 103 yX1_greatest ∈ wsG := wG (mT5 _ (List.mem_of_getElem? (i := 66) (by decide +kernel))) rfl
theorem im_X1_greatest : Cond.instanceMethod yX1_greatest ∈ wsG := wG (mT5 _ (List.mem_of_getElem? (i := 68) (by decide +kernel))) rfl
theorem se_X1_greatest : Cond.selects RX1 yX1_greatest yX1_greatest ∈ wsG := wG (mP2 _ (List.mem_of_getElem? (i := 15) (by decide +kernel))) rfl
theorem co_X1_greatest : Cond.code yX1_greatest cX1_greatest 5 (some .int) ∈ wsG := wG (mT5 _ (List.mem_of_getElem? (i := 69) (by decide +kernel))) rfl
theorem ml_X1_108 : Cond.methodLink RX1 108 Lib.Math.max.name ∈ wsG := wG (mT5 _ (List.mem_of_getElem? (i := 70) (by decide +kernel))) rfl
theorem ml_L_115 : Cond.methodLink RL 115 yX12_chance ∈ wsG := wG (mT8 _ (List.mem_of_getElem? (i := 79) (by decide +kernel))) rfl
theorem im_X12_chance : Cond.instanceMethod yX12_chance ∈ wsG := wG (mT8 _ (List.mem_of_getElem? (i := 80) (by decide +kernel))) rfl
theorem se_X12_chance : Cond.selects RX12 yX12_chance yX12_chance ∈ wsG := wG (mT8 _ (List.mem_of_getElem? (i := 81) (by decide +kernel))) rfl
theorem co_X12_chance : Cond.code yX12_chance cX12_chance 8 (some .int) ∈ wsG := wG (mT8 _ (List.mem_of_getElem? (i := 82) (by decide +kernel))) rfl
theorem ml_X12_486 : Cond.methodLink RX12 486 yX12_laysReached ∈ wsG := wG (mT8 _ (List.mem_of_getElem? (i := 83) (by decide +kernel))) rfl
theorem im_X12_laysReached : Cond.instanceMethod yX12_laysReached ∈ wsG := wG (mT8 _ (List.mem_of_getElem? (i := 85) (by decide +kernel))) rfl
theorem se_X12_laysReached : Cond.selects RX12 yX12_laysReached yX12_laysReached ∈ wsG := wG (mP7 _ (List.mem_of_getElem? (i := 2) (by decide +kernel))) rfl
theorem co_X12_laysReached : Cond.code yX12_laysReached cX12_laysReached 6 none ∈ wsG := wG (mT8 _ (List.mem_of_getElem? (i := 86) (by decide +kernel))) rfl
theorem ml_X12_481 : Cond.methodLink RX12 481 yX12_chanceBy ∈ wsG := wG (mT8 _ (List.mem_of_getElem? (i := 87) (by decide +kernel))) rfl
theorem im_X12_chanceBy : Cond.instanceMethod yX12_chanceBy ∈ wsG := wG (mT8 _ (List.mem_of_getElem? (i := 89) (by decide +kernel))) rfl
theorem se_X12_chanceBy : Cond.selects RX12 yX12_chanceBy yX12_chanceBy ∈ wsG := wG (mP7 _ (List.mem_of_getElem? (i := 3) (by decide +kernel))) rfl
theorem co_X12_chanceBy : Cond.code yX12_chanceBy cX12_chanceBy 15 (some .int) ∈ wsG := wG (mT8 _ (List.mem_of_getElem? (i := 90) (by decide +kernel))) rfl
theorem cn_X12_480 : Cond.constant RX12 480 (1000000) ∈ wsG := wG (mT8 _ (List.mem_of_getElem? (i := 91) (by decide +kernel))) rfl
theorem cl_X12_484 : Cond.constantLong RX12 484 (1000000) ∈ wsG := wG (mT8 _ (List.mem_of_getElem? (i := 92) (by decide +kernel))) rfl
theorem ml_L_116 : Cond.methodLink RL 116 yX11_gust ∈ wsG := wG (mT3 _ (List.mem_of_getElem? (i := 162) (by decide +kernel))) rfl
theorem im_X11_gust : Cond.instanceMethod yX11_gust ∈ wsG := wG (mT3 _ (List.mem_of_getElem? (i := 163) (by decide +kernel))) rfl
theorem se_X11_gust : Cond.selects RX11 yX11_gust yX11_gust ∈ wsG := wG (mT3 _ (List.mem_of_getElem? (i := 164) (by decide +kernel))) rfl
theorem co_X11_gust : Cond.code yX11_gust cX11_gust 2 (some .int) ∈ wsG := wG (mT3 _ (List.mem_of_getElem? (i := 165) (by decide +kernel))) rfl
theorem fl_X11_176 : Cond.fieldLink RX11 176 "PointFirst$World" "gusts" "I" ∈ wsG := wG (mT1 _ (List.mem_of_getElem? (i := 137) (by decide +kernel))) rfl
theorem fl_X11_179 : Cond.fieldLink RX11 179 "PointFirst$World" "minute" "[I" ∈ wsG := wG (mT1 _ (List.mem_of_getElem? (i := 150) (by decide +kernel))) rfl
theorem ml_L_119 : Cond.methodLink RL 119 yX12_gust ∈ wsG := wG (mT8 _ (List.mem_of_getElem? (i := 93) (by decide +kernel))) rfl
theorem im_X12_gust : Cond.instanceMethod yX12_gust ∈ wsG := wG (mT8 _ (List.mem_of_getElem? (i := 94) (by decide +kernel))) rfl
theorem se_X12_gust : Cond.selects RX12 yX12_gust yX12_gust ∈ wsG := wG (mT8 _ (List.mem_of_getElem? (i := 95) (by decide +kernel))) rfl
theorem co_X12_gust : Cond.code yX12_gust cX12_gust 2 (some .int) ∈ wsG := wG (mT8 _ (List.mem_of_getElem? (i := 96) (by decide +kernel))) rfl
theorem ml_L_120 : Cond.methodLink RL 120 yX11_waitFor ∈ wsG := wG (mT5 _ (List.mem_of_getElem? (i := 72) (by decide +kernel))) rfl
theorem im_X11_waitFor : Cond.instanceMethod yX11_waitFor ∈ wsG := wG (mT5 _ (List.mem_of_getElem? (i := 73) (by decide +kernel))) rfl
theorem se_X11_waitFor : Cond.selects RX11 yX11_waitFor yX11_waitFor ∈ wsG := wG (mT5 _ (List.mem_of_getElem? (i := 74) (by decide +kernel))) rfl
theorem co_X11_waitFor : Cond.code yX11_waitFor cX11_waitFor 9 (some .int) ∈ wsG := wG (mT5 _ (List.mem_of_getElem? (i := 75) (by decide +kernel))) rfl
theorem ml_L_123 : Cond.methodLink RL 123 yX12_waitFor ∈ wsG := wG (mT8 _ (List.mem_of_getElem? (i := 97) (by decide +kernel))) rfl
theorem im_X12_waitFor : Cond.instanceMethod yX12_waitFor ∈ wsG := wG (mT8 _ (List.mem_of_getElem? (i := 98) (by decide +kernel))) rfl
theorem se_X12_waitFor : Cond.selects RX12 yX12_waitFor yX12_waitFor ∈ wsG := wG (mT8 _ (List.mem_of_getElem? (i := 99) (by decide +kernel))) rfl
theorem co_X12_waitFor : Cond.code yX12_waitFor cX12_waitFor 9 (some .int) ∈ wsG := wG (mT8 _ (List.mem_of_getElem? (i := 100) (by decide +kernel))) rfl
theorem ml_L_124 : Cond.methodLink RL 124 yX11_leastForce ∈ wsG := wG (mT5 _ (List.mem_of_getElem? (i := 76) (by decide +kernel))) rfl
theorem im_X11_leastForce : Cond.instanceMethod yX11_leastForce ∈ wsG := wG (mT5 _ (List.mem_of_getElem? (i := 77) (by decide +kernel))) rfl
theorem se_X11_leastForce : Cond.selects RX11 yX11_leastForce yX11_leastForce ∈ wsG := wG (mT5 _ (List.mem_of_getElem? (i := 78) (by decide +kernel))) rfl
theorem co_X11_leastForce : Cond.code yX11_leastForce cX11_leastForce 7 (some .int) ∈ wsG := wG (mT5 _ (List.mem_of_getElem? (i := 79) (by decide +kernel))) rfl
theorem ml_X11_398 : Cond.methodLink RX11 398 yX7_angleFor ∈ wsG := wG (mT5 _ (List.mem_of_getElem? (i := 80) (by decide +kernel))) rfl
theorem im_X7_angleFor : Cond.instanceMethod yX7_angleFor ∈ wsG := wG (mT5 _ (List.mem_of_getElem? (i := 81) (by decide +kernel))) rfl
theorem se_X7_angleFor : Cond.selects RX7 yX7_angleFor yX7_angleFor ∈ wsG := wG (mT5 _ (List.mem_of_getElem? (i := 82) (by decide +kernel))) rfl
theorem co_X7_angleFor : Cond.code yX7_angleFor cX7_angleFor 8 (some .int) ∈ wsG := wG (mT5 _ (List.mem_of_getElem? (i := 83) (by decide +kernel))) rfl
theorem ml_L_127 : Cond.methodLink RL 127 yX12_leastForce ∈ wsG := wG (mT8 _ (List.mem_of_getElem? (i := 5) (by decide +kernel))) rfl
theorem im_X12_leastForce : Cond.instanceMethod yX12_leastForce ∈ wsG := wG (mT8 _ (List.mem_of_getElem? (i := 6) (by decide +kernel))) rfl
theorem se_X12_leastForce : Cond.selects RX12 yX12_leastForce yX12_leastForce ∈ wsG := wG (mT8 _ (List.mem_of_getElem? (i := 7) (by decide +kernel))) rfl
theorem co_X12_leastForce : Cond.code yX12_leastForce cX12_leastForce 5 (some .int) ∈ wsG := wG (mT8 _ (List.mem_of_getElem? (i := 8) (by decide +kernel))) rfl
theorem fl_X12_454 : Cond.fieldLink RX12 454 "PointFirstModel" "markForce" "I" ∈ wsG := wG (mT5 _ (List.mem_of_getElem? (i := 217) (by decide +kernel))) rfl
theorem fl_X12_457 : Cond.fieldLink RX12 457 "PointFirstModel" "markAngle" "I" ∈ wsG := wG (mT5 _ (List.mem_of_getElem? (i := 218) (by decide +kernel))) rfl
theorem ml_X12_460 : Cond.methodLink RX12 460 yX12_laysMark ∈ wsG := wG (mT8 _ (List.mem_of_getElem? (i := 9) (by decide +kernel))) rfl
theorem im_X12_laysMark : Cond.instanceMethod yX12_laysMark ∈ wsG := wG (mT8 _ (List.mem_of_getElem? (i := 11) (by decide +kernel))) rfl
theorem se_X12_laysMark : Cond.selects RX12 yX12_laysMark yX12_laysMark ∈ wsG := wG (mP6 _ (List.mem_of_getElem? (i := 13) (by decide +kernel))) rfl
theorem co_X12_laysMark : Cond.code yX12_laysMark cX12_laysMark 7 none ∈ wsG := wG (mT8 _ (List.mem_of_getElem? (i := 12) (by decide +kernel))) rfl
theorem ml_L_128 : Cond.methodLink RL 128 yX11_better ∈ wsG := wG (mT5 _ (List.mem_of_getElem? (i := 84) (by decide +kernel))) rfl
theorem im_X11_better : Cond.instanceMethod yX11_better ∈ wsG := wG (mT5 _ (List.mem_of_getElem? (i := 85) (by decide +kernel))) rfl
theorem se_X11_better : Cond.selects RX11 yX11_better yX11_better ∈ wsG := wG (mT5 _ (List.mem_of_getElem? (i := 86) (by decide +kernel))) rfl
theorem co_X11_better : Cond.code yX11_better cX11_better 9 (some .long) ∈ wsG := wG (mT5 _ (List.mem_of_getElem? (i := 87) (by decide +kernel))) rfl
theorem ml_L_132 : Cond.methodLink RL 132 yX12_better ∈ wsG := wG (mT8 _ (List.mem_of_getElem? (i := 13) (by decide +kernel))) rfl
theorem im_X12_better : Cond.instanceMethod yX12_better ∈ wsG := wG (mT8 _ (List.mem_of_getElem? (i := 14) (by decide +kernel))) rfl
theorem se_X12_better : Cond.selects RX12 yX12_better yX12_better ∈ wsG := wG (mT8 _ (List.mem_of_getElem? (i := 15) (by decide +kernel))) rfl
theorem co_X12_better : Cond.code yX12_better cX12_better 8 (some .long) ∈ wsG := wG (mT8 _ (List.mem_of_getElem? (i := 16) (by decide +kernel))) rfl
theorem ml_L_133 : Cond.methodLink RL 133 yX11_span ∈ wsG := wG (mT5 _ (List.mem_of_getElem? (i := 88) (by decide +kernel))) rfl
theorem im_X11_span : Cond.instanceMethod yX11_span ∈ wsG := wG (mT5 _ (List.mem_of_getElem? (i := 89) (by decide +kernel))) rfl
theorem se_X11_span : Cond.selects RX11 yX11_span yX11_span ∈ wsG := wG (mT5 _ (List.mem_of_getElem? (i := 90) (by decide +kernel))) rfl
theorem co_X11_span : Cond.code yX11_span cX11_span 8 (some .int) ∈ wsG := wG (mT5 _ (List.mem_of_getElem? (i := 91) (by decide +kernel))) rfl
theorem ml_L_136 : Cond.methodLink RL 136 yX12_span ∈ wsG := wG (mT8 _ (List.mem_of_getElem? (i := 17) (by decide +kernel))) rfl
theorem im_X12_span : Cond.instanceMethod yX12_span ∈ wsG := wG (mT8 _ (List.mem_of_getElem? (i := 18) (by decide +kernel))) rfl
theorem se_X12_span : Cond.selects RX12 yX12_span yX12_span ∈ wsG := wG (mT8 _ (List.mem_of_getElem? (i := 19) (by decide +kernel))) rfl
theorem co_X12_span : Cond.code yX12_span cX12_span 6 (some .int) ∈ wsG := wG (mT8 _ (List.mem_of_getElem? (i := 20) (by decide +kernel))) rfl
theorem ml_X12_463 : Cond.methodLink RX12 463 yX12_isLine ∈ wsG := wG (mT8 _ (List.mem_of_getElem? (i := 21) (by decide +kernel))) rfl
theorem im_X12_isLine : Cond.instanceMethod yX12_isLine ∈ wsG := wG (mT8 _ (List.mem_of_getElem? (i := 23) (by decide +kernel))) rfl
theorem se_X12_isLine : Cond.selects RX12 yX12_isLine yX12_isLine ∈ wsG := wG (mP6 _ (List.mem_of_getElem? (i := 14) (by decide +kernel))) rfl
theorem co_X12_isLine : Cond.code yX12_isLine cX12_isLine 2 (some .boolean) ∈ wsG := wG (mT8 _ (List.mem_of_getElem? (i := 24) (by decide +kernel))) rfl
theorem ml_L_137 : Cond.methodLink RL 137 yX11_train ∈ wsG := wG (mT5 _ (List.mem_of_getElem? (i := 92) (by decide +kernel))) rfl
theorem im_X11_train : Cond.instanceMethod yX11_train ∈ wsG := wG (mT5 _ (List.mem_of_getElem? (i := 93) (by decide +kernel))) rfl
theorem se_X11_train : Cond.selects RX11 yX11_train yX11_train ∈ wsG := wG (mT5 _ (List.mem_of_getElem? (i := 94) (by decide +kernel))) rfl
theorem co_X11_train : Cond.code yX11_train cX11_train 7 (some .int) ∈ wsG := wG (mT5 _ (List.mem_of_getElem? (i := 95) (by decide +kernel))) rfl
theorem fl_X11_401 : Cond.fieldLink RX11 401 "PointFirst" "training" "LPointFirst$Training;" ∈ wsG := wG (mT2 _ (List.mem_of_getElem? (i := 117) (by decide +kernel))) rfl
theorem kl_X11_404 : Cond.classLink RX11 404 RX9 ∈ wsG := wG (mT5 _ (List.mem_of_getElem? (i := 96) (by decide +kernel))) rfl
theorem ia_X9 : Cond.instantiable RX9 5 ∈ wsG := wG (mT5 _ (List.mem_of_getElem? (i := 97) (by decide +kernel))) rfl
theorem in_X9 : Cond.initialized RX9 ∈ wsG := wG (mT1 _ (List.mem_of_getElem? (i := 20) (by decide +kernel))) rfl
theorem fl_X11_416 : Cond.fieldLink RX11 416 "PointFirst$Training" "power" "I" ∈ wsG := wG (mT5 _ (List.mem_of_getElem? (i := 103) (by decide +kernel))) rfl
theorem fl_X11_417 : Cond.fieldLink RX11 417 "PointFirst$Training" "hundreds" "I" ∈ wsG := wG (mT5 _ (List.mem_of_getElem? (i := 105) (by decide +kernel))) rfl
theorem ml_X11_406 : Cond.methodLink RX11 406 yX9_init ∈ wsG := wG (mT5 _ (List.mem_of_getElem? (i := 98) (by decide +kernel))) rfl
theorem im_X9_init : Cond.instanceMethod yX9_init ∈ wsG := wG (mT5 _ (List.mem_of_getElem? (i := 99) (by decide +kernel))) rfl
theorem co_X9_init : Cond.code yX9_init cX9_init 1 none ∈ wsG := wG (mT5 _ (List.mem_of_getElem? (i := 100) (by decide +kernel))) rfl
theorem ml_X9_3 : Cond.methodLink RX9 3 objectInit ∈ wsG := wG (mT5 _ (List.mem_of_getElem? (i := 101) (by decide +kernel))) rfl
theorem ac_long : Cond.arrayClass .long ∈ wsG := wG (mT5 _ (List.mem_of_getElem? (i := 120) (by decide +kernel))) rfl
theorem fl_X9_11 : Cond.fieldLink RX9 11 "PointFirst$Training" "here" "[J" ∈ wsG := wG (mT5 _ (List.mem_of_getElem? (i := 106) (by decide +kernel))) rfl
theorem fl_X9_15 : Cond.fieldLink RX9 15 "PointFirst$Training" "there" "[J" ∈ wsG := wG (mT5 _ (List.mem_of_getElem? (i := 107) (by decide +kernel))) rfl
theorem fl_X9_18 : Cond.fieldLink RX9 18 "PointFirst$Training" "asked" "[I" ∈ wsG := wG (mT5 _ (List.mem_of_getElem? (i := 108) (by decide +kernel))) rfl
theorem ml_X11_407 : Cond.methodLink RX11 407 yX9_begin ∈ wsG := wG (mT5 _ (List.mem_of_getElem? (i := 121) (by decide +kernel))) rfl
theorem im_X9_begin : Cond.instanceMethod yX9_begin ∈ wsG := wG (mT5 _ (List.mem_of_getElem? (i := 122) (by decide +kernel))) rfl
theorem se_X9_begin : Cond.selects RX9 yX9_begin yX9_begin ∈ wsG := wG (mT5 _ (List.mem_of_getElem? (i := 123) (by decide +kernel))) rfl
theorem co_X9_begin : Cond.code yX9_begin cX9_begin 3 none ∈ wsG := wG (mT5 _ (List.mem_of_getElem? (i := 124) (by decide +kernel))) rfl
theorem ml_X9_22 : Cond.methodLink RX9 22 yJ7_fill_d0a16 ∈ wsG := wG (mT5 _ (List.mem_of_getElem? (i := 125) (by decide +kernel))) rfl
theorem st_J7_fill_d0a16 : Cond.static yJ7_fill_d0a16 ∈ wsG := wG (mT5 _ (List.mem_of_getElem? (i := 126) (by decide +kernel))) rfl
theorem co_J7_fill_d0a16 : Cond.code yJ7_fill_d0a16 cJ7_fill_d0a16 5 none ∈ wsG := wG (mT5 _ (List.mem_of_getElem? (i := 127) (by decide +kernel))) rfl
theorem ml_X9_28 : Cond.methodLink RX9 28 yX9_put ∈ wsG := wG (mT5 _ (List.mem_of_getElem? (i := 128) (by decide +kernel))) rfl
theorem st_X9_put : Cond.static yX9_put ∈ wsG := wG (mT5 _ (List.mem_of_getElem? (i := 129) (by decide +kernel))) rfl
theorem co_X9_put : Cond.code yX9_put cX9_put 5 none ∈ wsG := wG (mT5 _ (List.mem_of_getElem? (i := 130) (by decide +kernel))) rfl
theorem ml_X11_409 : Cond.methodLink RX11 409 yX9_week ∈ wsG := wG (mT5 _ (List.mem_of_getElem? (i := 131) (by decide +kernel))) rfl
theorem im_X9_week : Cond.instanceMethod yX9_week ∈ wsG := wG (mT5 _ (List.mem_of_getElem? (i := 132) (by decide +kernel))) rfl
theorem se_X9_week : Cond.selects RX9 yX9_week yX9_week ∈ wsG := wG (mT5 _ (List.mem_of_getElem? (i := 133) (by decide +kernel))) rfl
theorem co_X9_week : Cond.code yX9_week cX9_week 9 none ∈ wsG := wG (mT5 _ (List.mem_of_getElem? (i := 134) (by decide +kernel))) rfl
theorem cl_X9_32 : Cond.constantLong RX9 32 (15) ∈ wsG := wG (mT5 _ (List.mem_of_getElem? (i := 135) (by decide +kernel))) rfl
theorem ml_X9_34 : Cond.methodLink RX9 34 yX9_spread ∈ wsG := wG (mT5 _ (List.mem_of_getElem? (i := 136) (by decide +kernel))) rfl
theorem im_X9_spread : Cond.instanceMethod yX9_spread ∈ wsG := wG (mT5 _ (List.mem_of_getElem? (i := 138) (by decide +kernel))) rfl
theorem se_X9_spread : Cond.selects RX9 yX9_spread yX9_spread ∈ wsG := wG (mP3 _ (List.mem_of_getElem? (i := 0) (by decide +kernel))) rfl
theorem co_X9_spread : Cond.code yX9_spread cX9_spread 10 none ∈ wsG := wG (mT5 _ (List.mem_of_getElem? (i := 139) (by decide +kernel))) rfl
theorem ml_X9_48 : Cond.methodLink RX9 48 Lib.Math.min.name ∈ wsG := wG (mT5 _ (List.mem_of_getElem? (i := 142) (by decide +kernel))) rfl
theorem ml_X9_38 : Cond.methodLink RX9 38 yX3_tell ∈ wsG := wG (mT5 _ (List.mem_of_getElem? (i := 140) (by decide +kernel))) rfl
theorem ml_X11_413 : Cond.methodLink RX11 413 yX9_judge ∈ wsG := wG (mT5 _ (List.mem_of_getElem? (i := 143) (by decide +kernel))) rfl
theorem im_X9_judge : Cond.instanceMethod yX9_judge ∈ wsG := wG (mT5 _ (List.mem_of_getElem? (i := 144) (by decide +kernel))) rfl
theorem se_X9_judge : Cond.selects RX9 yX9_judge yX9_judge ∈ wsG := wG (mT5 _ (List.mem_of_getElem? (i := 145) (by decide +kernel))) rfl
theorem co_X9_judge : Cond.code yX9_judge cX9_judge 4 none ∈ wsG := wG (mT5 _ (List.mem_of_getElem? (i := 146) (by decide +kernel))) rfl
theorem fl_X9_54 : Cond.fieldLink RX9 54 "PointFirst$Training" "power" "I" ∈ wsG := wG (mT5 _ (List.mem_of_getElem? (i := 102) (by decide +kernel))) rfl
theorem fl_X9_58 : Cond.fieldLink RX9 58 "PointFirst$Training" "hundreds" "I" ∈ wsG := wG (mT5 _ (List.mem_of_getElem? (i := 104) (by decide +kernel))) rfl
theorem cl_X9_61 : Cond.constantLong RX9 61 (1229782938247303441) ∈ wsG := wG (mT5 _ (List.mem_of_getElem? (i := 147) (by decide +kernel))) rfl
theorem ml_L_140 : Cond.methodLink RL 140 yX12_train ∈ wsG := wG (mT8 _ (List.mem_of_getElem? (i := 63) (by decide +kernel))) rfl
theorem im_X12_train : Cond.instanceMethod yX12_train ∈ wsG := wG (mT8 _ (List.mem_of_getElem? (i := 64) (by decide +kernel))) rfl
theorem se_X12_train : Cond.selects RX12 yX12_train yX12_train ∈ wsG := wG (mT8 _ (List.mem_of_getElem? (i := 65) (by decide +kernel))) rfl
theorem co_X12_train : Cond.code yX12_train cX12_train 9 (some .int) ∈ wsG := wG (mT8 _ (List.mem_of_getElem? (i := 66) (by decide +kernel))) rfl
theorem ml_X12_477 : Cond.methodLink RX12 477 yX12_trained ∈ wsG := wG (mT8 _ (List.mem_of_getElem? (i := 67) (by decide +kernel))) rfl
theorem im_X12_trained : Cond.instanceMethod yX12_trained ∈ wsG := wG (mT8 _ (List.mem_of_getElem? (i := 69) (by decide +kernel))) rfl
theorem se_X12_trained : Cond.selects RX12 yX12_trained yX12_trained ∈ wsG := wG (mP7 _ (List.mem_of_getElem? (i := 0) (by decide +kernel))) rfl
theorem co_X12_trained : Cond.code yX12_trained cX12_trained 8 (some .int) ∈ wsG := wG (mT8 _ (List.mem_of_getElem? (i := 70) (by decide +kernel))) rfl
theorem ml_X12_473 : Cond.methodLink RX12 473 yX12_trains ∈ wsG := wG (mT8 _ (List.mem_of_getElem? (i := 71) (by decide +kernel))) rfl
theorem im_X12_trains : Cond.instanceMethod yX12_trains ∈ wsG := wG (mT8 _ (List.mem_of_getElem? (i := 73) (by decide +kernel))) rfl
theorem se_X12_trains : Cond.selects RX12 yX12_trains yX12_trains ∈ wsG := wG (mP7 _ (List.mem_of_getElem? (i := 1) (by decide +kernel))) rfl
theorem co_X12_trains : Cond.code yX12_trains cX12_trains 11 (some .int) ∈ wsG := wG (mT8 _ (List.mem_of_getElem? (i := 74) (by decide +kernel))) rfl
theorem ml_L_141 : Cond.methodLink RL 141 yX11_after ∈ wsG := wG (mT4 _ (List.mem_of_getElem? (i := 162) (by decide +kernel))) rfl
theorem im_X11_after : Cond.instanceMethod yX11_after ∈ wsG := wG (mT4 _ (List.mem_of_getElem? (i := 163) (by decide +kernel))) rfl
theorem se_X11_after : Cond.selects RX11 yX11_after yX11_after ∈ wsG := wG (mT4 _ (List.mem_of_getElem? (i := 164) (by decide +kernel))) rfl
theorem co_X11_after : Cond.code yX11_after cX11_after 3 (some .int) ∈ wsG := wG (mT4 _ (List.mem_of_getElem? (i := 165) (by decide +kernel))) rfl
theorem ml_X11_320 : Cond.methodLink RX11 320 yX10_bestBefore ∈ wsG := wG (mT4 _ (List.mem_of_getElem? (i := 166) (by decide +kernel))) rfl
theorem im_X10_bestBefore : Cond.instanceMethod yX10_bestBefore ∈ wsG := wG (mT4 _ (List.mem_of_getElem? (i := 167) (by decide +kernel))) rfl
theorem se_X10_bestBefore : Cond.selects RX10 yX10_bestBefore yX10_bestBefore ∈ wsG := wG (mT4 _ (List.mem_of_getElem? (i := 168) (by decide +kernel))) rfl
theorem co_X10_bestBefore : Cond.code yX10_bestBefore cX10_bestBefore 5 (some .int) ∈ wsG := wG (mT4 _ (List.mem_of_getElem? (i := 169) (by decide +kernel))) rfl
theorem ml_L_144 : Cond.methodLink RL 144 yX12_after ∈ wsG := wG (mT8 _ (List.mem_of_getElem? (i := 45) (by decide +kernel))) rfl
theorem im_X12_after : Cond.instanceMethod yX12_after ∈ wsG := wG (mT8 _ (List.mem_of_getElem? (i := 46) (by decide +kernel))) rfl
theorem se_X12_after : Cond.selects RX12 yX12_after yX12_after ∈ wsG := wG (mT8 _ (List.mem_of_getElem? (i := 47) (by decide +kernel))) rfl
theorem co_X12_after : Cond.code yX12_after cX12_after 6 (some .int) ∈ wsG := wG (mT8 _ (List.mem_of_getElem? (i := 48) (by decide +kernel))) rfl
theorem ml_L_145 : Cond.methodLink RL 145 yX11_would ∈ wsG := wG (mT5 _ (List.mem_of_getElem? (i := 148) (by decide +kernel))) rfl
theorem im_X11_would : Cond.instanceMethod yX11_would ∈ wsG := wG (mT5 _ (List.mem_of_getElem? (i := 149) (by decide +kernel))) rfl
theorem se_X11_would : Cond.selects RX11 yX11_would yX11_would ∈ wsG := wG (mT5 _ (List.mem_of_getElem? (i := 150) (by decide +kernel))) rfl
theorem co_X11_would : Cond.code yX11_would cX11_would 11 (some .int) ∈ wsG := wG (mT5 _ (List.mem_of_getElem? (i := 151) (by decide +kernel))) rfl
theorem fl_X11_323 : Cond.fieldLink RX11 323 "PointFirst$World" "turn" "I" ∈ wsG := wG (mT1 _ (List.mem_of_getElem? (i := 128) (by decide +kernel))) rfl
theorem ml_X11_420 : Cond.methodLink RX11 420 yX8_wouldThrow ∈ wsG := wG (mT5 _ (List.mem_of_getElem? (i := 152) (by decide +kernel))) rfl
theorem ml_X11_423 : Cond.methodLink RX11 423 yX0_askBest ∈ wsG := wG (mT5 _ (List.mem_of_getElem? (i := 153) (by decide +kernel))) rfl
theorem ml_L_148 : Cond.methodLink RL 148 yX12_would ∈ wsG := wG (mT8 _ (List.mem_of_getElem? (i := 49) (by decide +kernel))) rfl
theorem im_X12_would : Cond.instanceMethod yX12_would ∈ wsG := wG (mT8 _ (List.mem_of_getElem? (i := 50) (by decide +kernel))) rfl
theorem se_X12_would : Cond.selects RX12 yX12_would yX12_would ∈ wsG := wG (mT8 _ (List.mem_of_getElem? (i := 51) (by decide +kernel))) rfl
theorem co_X12_would : Cond.code yX12_would cX12_would 4 (some .int) ∈ wsG := wG (mT8 _ (List.mem_of_getElem? (i := 52) (by decide +kernel))) rfl
theorem ml_X12_466 : Cond.methodLink RX12 466 yX12_isMeant ∈ wsG := wG (mT8 _ (List.mem_of_getElem? (i := 53) (by decide +kernel))) rfl
theorem im_X12_isMeant : Cond.instanceMethod yX12_isMeant ∈ wsG := wG (mT8 _ (List.mem_of_getElem? (i := 55) (by decide +kernel))) rfl
theorem se_X12_isMeant : Cond.selects RX12 yX12_isMeant yX12_isMeant ∈ wsG := wG (mP6 _ (List.mem_of_getElem? (i := 15) (by decide +kernel))) rfl
theorem co_X12_isMeant : Cond.code yX12_isMeant cX12_isMeant 5 none ∈ wsG := wG (mT8 _ (List.mem_of_getElem? (i := 56) (by decide +kernel))) rfl
theorem ml_L_149 : Cond.methodLink RL 149 yX11_verdict ∈ wsG := wG (mT5 _ (List.mem_of_getElem? (i := 154) (by decide +kernel))) rfl
theorem im_X11_verdict : Cond.instanceMethod yX11_verdict ∈ wsG := wG (mT5 _ (List.mem_of_getElem? (i := 155) (by decide +kernel))) rfl
theorem se_X11_verdict : Cond.selects RX11 yX11_verdict yX11_verdict ∈ wsG := wG (mT5 _ (List.mem_of_getElem? (i := 156) (by decide +kernel))) rfl
theorem co_X11_verdict : Cond.code yX11_verdict cX11_verdict 4 (some .long) ∈ wsG := wG (mT5 _ (List.mem_of_getElem? (i := 157) (by decide +kernel))) rfl
theorem cl_X11_426 : Cond.constantLong RX11 426 (1000) ∈ wsG := wG (mT5 _ (List.mem_of_getElem? (i := 158) (by decide +kernel))) rfl
theorem cl_X11_428 : Cond.constantLong RX11 428 (3) ∈ wsG := wG (mT5 _ (List.mem_of_getElem? (i := 159) (by decide +kernel))) rfl
theorem ml_L_153 : Cond.methodLink RL 153 yX12_verdict ∈ wsG := wG (mT8 _ (List.mem_of_getElem? (i := 57) (by decide +kernel))) rfl
theorem im_X12_verdict : Cond.instanceMethod yX12_verdict ∈ wsG := wG (mT8 _ (List.mem_of_getElem? (i := 58) (by decide +kernel))) rfl
theorem se_X12_verdict : Cond.selects RX12 yX12_verdict yX12_verdict ∈ wsG := wG (mT8 _ (List.mem_of_getElem? (i := 59) (by decide +kernel))) rfl
theorem co_X12_verdict : Cond.code yX12_verdict cX12_verdict 4 (some .long) ∈ wsG := wG (mT8 _ (List.mem_of_getElem? (i := 60) (by decide +kernel))) rfl
theorem cl_X12_469 : Cond.constantLong RX12 469 (1000) ∈ wsG := wG (mT8 _ (List.mem_of_getElem? (i := 61) (by decide +kernel))) rfl
theorem cl_X12_471 : Cond.constantLong RX12 471 (3) ∈ wsG := wG (mT8 _ (List.mem_of_getElem? (i := 62) (by decide +kernel))) rfl
theorem ml_L_154 : Cond.methodLink RL 154 yX11_path ∈ wsG := wG (mT5 _ (List.mem_of_getElem? (i := 160) (by decide +kernel))) rfl
theorem im_X11_path : Cond.instanceMethod yX11_path ∈ wsG := wG (mT5 _ (List.mem_of_getElem? (i := 161) (by decide +kernel))) rfl
theorem se_X11_path : Cond.selects RX11 yX11_path yX11_path ∈ wsG := wG (mT5 _ (List.mem_of_getElem? (i := 162) (by decide +kernel))) rfl
theorem co_X11_path : Cond.code yX11_path cX11_path 5 (some .int) ∈ wsG := wG (mT5 _ (List.mem_of_getElem? (i := 163) (by decide +kernel))) rfl
theorem ml_L_157 : Cond.methodLink RL 157 yX12_path ∈ wsG := wG (mT8 _ (List.mem_of_getElem? (i := 25) (by decide +kernel))) rfl
theorem im_X12_path : Cond.instanceMethod yX12_path ∈ wsG := wG (mT8 _ (List.mem_of_getElem? (i := 26) (by decide +kernel))) rfl
theorem se_X12_path : Cond.selects RX12 yX12_path yX12_path ∈ wsG := wG (mT8 _ (List.mem_of_getElem? (i := 27) (by decide +kernel))) rfl
theorem co_X12_path : Cond.code yX12_path cX12_path 5 (some .int) ∈ wsG := wG (mT8 _ (List.mem_of_getElem? (i := 28) (by decide +kernel))) rfl
theorem ml_L_158 : Cond.methodLink RL 158 yX11_place ∈ wsG := wG (mT4 _ (List.mem_of_getElem? (i := 150) (by decide +kernel))) rfl
theorem im_X11_place : Cond.instanceMethod yX11_place ∈ wsG := wG (mT4 _ (List.mem_of_getElem? (i := 151) (by decide +kernel))) rfl
theorem se_X11_place : Cond.selects RX11 yX11_place yX11_place ∈ wsG := wG (mT4 _ (List.mem_of_getElem? (i := 152) (by decide +kernel))) rfl
theorem co_X11_place : Cond.code yX11_place cX11_place 3 (some .int) ∈ wsG := wG (mT4 _ (List.mem_of_getElem? (i := 153) (by decide +kernel))) rfl
theorem ml_X11_316 : Cond.methodLink RX11 316 yX10_ahead ∈ wsG := wG (mT4 _ (List.mem_of_getElem? (i := 154) (by decide +kernel))) rfl
theorem im_X10_ahead : Cond.instanceMethod yX10_ahead ∈ wsG := wG (mT4 _ (List.mem_of_getElem? (i := 155) (by decide +kernel))) rfl
theorem se_X10_ahead : Cond.selects RX10 yX10_ahead yX10_ahead ∈ wsG := wG (mT4 _ (List.mem_of_getElem? (i := 156) (by decide +kernel))) rfl
theorem co_X10_ahead : Cond.code yX10_ahead cX10_ahead 5 (some .int) ∈ wsG := wG (mT4 _ (List.mem_of_getElem? (i := 157) (by decide +kernel))) rfl
theorem ml_L_161 : Cond.methodLink RL 161 yX12_place ∈ wsG := wG (mT8 _ (List.mem_of_getElem? (i := 41) (by decide +kernel))) rfl
theorem im_X12_place : Cond.instanceMethod yX12_place ∈ wsG := wG (mT8 _ (List.mem_of_getElem? (i := 42) (by decide +kernel))) rfl
theorem se_X12_place : Cond.selects RX12 yX12_place yX12_place ∈ wsG := wG (mT8 _ (List.mem_of_getElem? (i := 43) (by decide +kernel))) rfl
theorem co_X12_place : Cond.code yX12_place cX12_place 5 (some .int) ∈ wsG := wG (mT8 _ (List.mem_of_getElem? (i := 44) (by decide +kernel))) rfl
theorem ml_L_162 : Cond.methodLink RL 162 yX11_record ∈ wsG := wG (mT4 _ (List.mem_of_getElem? (i := 158) (by decide +kernel))) rfl
theorem im_X11_record : Cond.instanceMethod yX11_record ∈ wsG := wG (mT4 _ (List.mem_of_getElem? (i := 159) (by decide +kernel))) rfl
theorem se_X11_record : Cond.selects RX11 yX11_record yX11_record ∈ wsG := wG (mT4 _ (List.mem_of_getElem? (i := 160) (by decide +kernel))) rfl
theorem co_X11_record : Cond.code yX11_record cX11_record 4 (some .int) ∈ wsG := wG (mT4 _ (List.mem_of_getElem? (i := 161) (by decide +kernel))) rfl
theorem fl_X11_319 : Cond.fieldLink RX11 319 "PointFirst$World" "lines" "I" ∈ wsG := wG (mT1 _ (List.mem_of_getElem? (i := 135) (by decide +kernel))) rfl
theorem ml_L_165 : Cond.methodLink RL 165 yX12_record ∈ wsG := wG (mT8 _ (List.mem_of_getElem? (i := 29) (by decide +kernel))) rfl
theorem im_X12_record : Cond.instanceMethod yX12_record ∈ wsG := wG (mT8 _ (List.mem_of_getElem? (i := 30) (by decide +kernel))) rfl
theorem se_X12_record : Cond.selects RX12 yX12_record yX12_record ∈ wsG := wG (mT8 _ (List.mem_of_getElem? (i := 31) (by decide +kernel))) rfl
theorem co_X12_record : Cond.code yX12_record cX12_record 5 (some .int) ∈ wsG := wG (mT8 _ (List.mem_of_getElem? (i := 32) (by decide +kernel))) rfl
theorem ml_L_166 : Cond.methodLink RL 166 yX11_needed ∈ wsG := wG (mT5 _ (List.mem_of_getElem? (i := 164) (by decide +kernel))) rfl
theorem im_X11_needed : Cond.instanceMethod yX11_needed ∈ wsG := wG (mT5 _ (List.mem_of_getElem? (i := 165) (by decide +kernel))) rfl
theorem se_X11_needed : Cond.selects RX11 yX11_needed yX11_needed ∈ wsG := wG (mT5 _ (List.mem_of_getElem? (i := 166) (by decide +kernel))) rfl
theorem co_X11_needed : Cond.code yX11_needed cX11_needed 7 (some .int) ∈ wsG := wG (mT5 _ (List.mem_of_getElem? (i := 167) (by decide +kernel))) rfl
theorem ml_L_169 : Cond.methodLink RL 169 yX12_needed ∈ wsG := wG (mT8 _ (List.mem_of_getElem? (i := 33) (by decide +kernel))) rfl
theorem im_X12_needed : Cond.instanceMethod yX12_needed ∈ wsG := wG (mT8 _ (List.mem_of_getElem? (i := 34) (by decide +kernel))) rfl
theorem se_X12_needed : Cond.selects RX12 yX12_needed yX12_needed ∈ wsG := wG (mT8 _ (List.mem_of_getElem? (i := 35) (by decide +kernel))) rfl
theorem co_X12_needed : Cond.code yX12_needed cX12_needed 7 (some .int) ∈ wsG := wG (mT8 _ (List.mem_of_getElem? (i := 36) (by decide +kernel))) rfl
theorem ml_L_170 : Cond.methodLink RL 170 yX11_rests ∈ wsG := wG (mT5 _ (List.mem_of_getElem? (i := 168) (by decide +kernel))) rfl
theorem im_X11_rests : Cond.instanceMethod yX11_rests ∈ wsG := wG (mT5 _ (List.mem_of_getElem? (i := 169) (by decide +kernel))) rfl
theorem se_X11_rests : Cond.selects RX11 yX11_rests yX11_rests ∈ wsG := wG (mT5 _ (List.mem_of_getElem? (i := 170) (by decide +kernel))) rfl
theorem co_X11_rests : Cond.code yX11_rests cX11_rests 6 (some .int) ∈ wsG := wG (mT5 _ (List.mem_of_getElem? (i := 171) (by decide +kernel))) rfl
theorem ml_L_173 : Cond.methodLink RL 173 yX12_rests ∈ wsG := wG (mT8 _ (List.mem_of_getElem? (i := 37) (by decide +kernel))) rfl
theorem im_X12_rests : Cond.instanceMethod yX12_rests ∈ wsG := wG (mT8 _ (List.mem_of_getElem? (i := 38) (by decide +kernel))) rfl
theorem se_X12_rests : Cond.selects RX12 yX12_rests yX12_rests ∈ wsG := wG (mT8 _ (List.mem_of_getElem? (i := 39) (by decide +kernel))) rfl
theorem co_X12_rests : Cond.code yX12_rests cX12_rests 5 (some .int) ∈ wsG := wG (mT8 _ (List.mem_of_getElem? (i := 40) (by decide +kernel))) rfl
theorem ml_L_174 : Cond.methodLink RL 174 yX11_undo ∈ wsG := wG (mT4 _ (List.mem_of_getElem? (i := 87) (by decide +kernel))) rfl
theorem im_X11_undo : Cond.instanceMethod yX11_undo ∈ wsG := wG (mT4 _ (List.mem_of_getElem? (i := 88) (by decide +kernel))) rfl
theorem se_X11_undo : Cond.selects RX11 yX11_undo yX11_undo ∈ wsG := wG (mT4 _ (List.mem_of_getElem? (i := 89) (by decide +kernel))) rfl
theorem co_X11_undo : Cond.code yX11_undo cX11_undo 1 (some .boolean) ∈ wsG := wG (mT4 _ (List.mem_of_getElem? (i := 90) (by decide +kernel))) rfl
theorem ml_X11_285 : Cond.methodLink RX11 285 yX4_goBack ∈ wsG := wG (mT4 _ (List.mem_of_getElem? (i := 91) (by decide +kernel))) rfl
theorem im_X4_goBack : Cond.instanceMethod yX4_goBack ∈ wsG := wG (mT4 _ (List.mem_of_getElem? (i := 92) (by decide +kernel))) rfl
theorem se_X4_goBack : Cond.selects RX4 yX4_goBack yX4_goBack ∈ wsG := wG (mT4 _ (List.mem_of_getElem? (i := 93) (by decide +kernel))) rfl
theorem co_X4_goBack : Cond.code yX4_goBack cX4_goBack 4 (some .boolean) ∈ wsG := wG (mT4 _ (List.mem_of_getElem? (i := 94) (by decide +kernel))) rfl
theorem ml_X4_55 : Cond.methodLink RX4 55 yX10_one ∈ wsG := wG (mT4 _ (List.mem_of_getElem? (i := 95) (by decide +kernel))) rfl
theorem ml_L_177 : Cond.methodLink RL 177 yX12_undo ∈ wsG := wG (mT7 _ (List.mem_of_getElem? (i := 44) (by decide +kernel))) rfl
theorem im_X12_undo : Cond.instanceMethod yX12_undo ∈ wsG := wG (mT7 _ (List.mem_of_getElem? (i := 45) (by decide +kernel))) rfl
theorem se_X12_undo : Cond.selects RX12 yX12_undo yX12_undo ∈ wsG := wG (mT7 _ (List.mem_of_getElem? (i := 46) (by decide +kernel))) rfl
theorem co_X12_undo : Cond.code yX12_undo cX12_undo 2 (some .boolean) ∈ wsG := wG (mT7 _ (List.mem_of_getElem? (i := 47) (by decide +kernel))) rfl
theorem ml_L_178 : Cond.methodLink RL 178 yX11_image ∈ wsG := wG (mT4 _ (List.mem_of_getElem? (i := 96) (by decide +kernel))) rfl
theorem im_X11_image : Cond.instanceMethod yX11_image ∈ wsG := wG (mT4 _ (List.mem_of_getElem? (i := 97) (by decide +kernel))) rfl
theorem se_X11_image : Cond.selects RX11 yX11_image yX11_image ∈ wsG := wG (mT4 _ (List.mem_of_getElem? (i := 98) (by decide +kernel))) rfl
theorem co_X11_image : Cond.code yX11_image cX11_image 2 (some .boolean) ∈ wsG := wG (mT4 _ (List.mem_of_getElem? (i := 99) (by decide +kernel))) rfl
theorem fl_X11_289 : Cond.fieldLink RX11 289 "PointFirst" "kept" "LPointFirst$World;" ∈ wsG := wG (mT2 _ (List.mem_of_getElem? (i := 115) (by decide +kernel))) rfl
theorem ml_X11_292 : Cond.methodLink RX11 292 yX10_copy ∈ wsG := wG (mT4 _ (List.mem_of_getElem? (i := 100) (by decide +kernel))) rfl
theorem im_X10_copy : Cond.instanceMethod yX10_copy ∈ wsG := wG (mT4 _ (List.mem_of_getElem? (i := 101) (by decide +kernel))) rfl
theorem se_X10_copy : Cond.selects RX10 yX10_copy yX10_copy ∈ wsG := wG (mT4 _ (List.mem_of_getElem? (i := 102) (by decide +kernel))) rfl
theorem co_X10_copy : Cond.code yX10_copy cX10_copy 3 none ∈ wsG := wG (mT4 _ (List.mem_of_getElem? (i := 103) (by decide +kernel))) rfl
theorem fl_X10_69 : Cond.fieldLink RX10 69 "PointFirst$World" "gusts" "I" ∈ wsG := wG (mT1 _ (List.mem_of_getElem? (i := 136) (by decide +kernel))) rfl
theorem ml_X10_72 : Cond.methodLink RX10 72 arraycopyName ∈ wsG := wG (mT4 _ (List.mem_of_getElem? (i := 104) (by decide +kernel))) rfl
theorem ml_X10_78 : Cond.methodLink RX10 78 yX8_copy ∈ wsG := wG (mT4 _ (List.mem_of_getElem? (i := 105) (by decide +kernel))) rfl
theorem im_X8_copy : Cond.instanceMethod yX8_copy ∈ wsG := wG (mT4 _ (List.mem_of_getElem? (i := 106) (by decide +kernel))) rfl
theorem se_X8_copy : Cond.selects RX8 yX8_copy yX8_copy ∈ wsG := wG (mT4 _ (List.mem_of_getElem? (i := 107) (by decide +kernel))) rfl
theorem co_X8_copy : Cond.code yX8_copy cX8_copy 2 none ∈ wsG := wG (mT4 _ (List.mem_of_getElem? (i := 108) (by decide +kernel))) rfl
theorem ml_X8_37 : Cond.methodLink RX8 37 arraycopyName ∈ wsG := wG (mT4 _ (List.mem_of_getElem? (i := 109) (by decide +kernel))) rfl
theorem ml_X10_82 : Cond.methodLink RX10 82 yX3_copy ∈ wsG := wG (mT4 _ (List.mem_of_getElem? (i := 110) (by decide +kernel))) rfl
theorem ml_L_182 : Cond.methodLink RL 182 yX12_image ∈ wsG := wG (mT8 _ (List.mem_of_getElem? (i := 101) (by decide +kernel))) rfl
theorem im_X12_image : Cond.instanceMethod yX12_image ∈ wsG := wG (mT8 _ (List.mem_of_getElem? (i := 102) (by decide +kernel))) rfl
theorem se_X12_image : Cond.selects RX12 yX12_image yX12_image ∈ wsG := wG (mT8 _ (List.mem_of_getElem? (i := 103) (by decide +kernel))) rfl
theorem co_X12_image : Cond.code yX12_image cX12_image 3 (some .boolean) ∈ wsG := wG (mT8 _ (List.mem_of_getElem? (i := 104) (by decide +kernel))) rfl
theorem fl_X12_489 : Cond.fieldLink RX12 489 "PointFirstModel" "hasImage" "Z" ∈ wsG := wG (mT5 _ (List.mem_of_getElem? (i := 183) (by decide +kernel))) rfl
theorem ml_L_183 : Cond.methodLink RL 183 yX11_look ∈ wsG := wG (mT4 _ (List.mem_of_getElem? (i := 170) (by decide +kernel))) rfl
theorem im_X11_look : Cond.instanceMethod yX11_look ∈ wsG := wG (mT4 _ (List.mem_of_getElem? (i := 171) (by decide +kernel))) rfl
theorem se_X11_look : Cond.selects RX11 yX11_look yX11_look ∈ wsG := wG (mT4 _ (List.mem_of_getElem? (i := 172) (by decide +kernel))) rfl
theorem co_X11_look : Cond.code yX11_look cX11_look 2 (some .int) ∈ wsG := wG (mT4 _ (List.mem_of_getElem? (i := 173) (by decide +kernel))) rfl
theorem fl_X11_326 : Cond.fieldLink RX11 326 "PointFirst$Past" "count" "I" ∈ wsG := wG (mT2 _ (List.mem_of_getElem? (i := 100) (by decide +kernel))) rfl
theorem ml_L_186 : Cond.methodLink RL 186 yX12_look ∈ wsG := wG (mT8 _ (List.mem_of_getElem? (i := 105) (by decide +kernel))) rfl
theorem im_X12_look : Cond.instanceMethod yX12_look ∈ wsG := wG (mT8 _ (List.mem_of_getElem? (i := 106) (by decide +kernel))) rfl
theorem se_X12_look : Cond.selects RX12 yX12_look yX12_look ∈ wsG := wG (mT8 _ (List.mem_of_getElem? (i := 107) (by decide +kernel))) rfl
theorem co_X12_look : Cond.code yX12_look cX12_look 2 (some .int) ∈ wsG := wG (mT8 _ (List.mem_of_getElem? (i := 108) (by decide +kernel))) rfl

/-- a static method of another class -/
def CWT (own : String) (index : Nat) (y : MethodName) (cy : ByteArray) (mL : Nat) (ret : Option FieldType) (n : Nat) : Prop := GoodIn wsG (va_wsS own index y (.code y cy mL ret :: wsG)) ∧ y.cls ≠ "java/lang/invoke/MethodHandle" ∧ y.cls ≠ "java/lang/invoke/VarHandle" ∧ (parseMethodDescriptor y.desc).map (fun d => d.parameters.length) = some n
theorem cwt {own : String} {index mL n : Nat} {y : MethodName} {cy : ByteArray} {ret : Option FieldType} (h1 : Cond.methodLink own index y ∈ wsG) (h2 : Cond.static y ∈ wsG) (h4 : Cond.initialized y.cls ∈ wsG) (h5 : Cond.code y cy mL ret ∈ wsG) (hd : y.cls ≠ "java/lang/invoke/MethodHandle" ∧ y.cls ≠ "java/lang/invoke/VarHandle" ∧ (parseMethodDescriptor y.desc).map (fun d => d.parameters.length) = some n) : CWT own index y cy mL ret n := by
  refine ⟨fun w hw => wsG_good ?_, hd⟩
  simp only [va_wsS, List.cons_append, List.nil_append, List.mem_cons] at hw
  rcases hw with rfl | rfl | rfl | rfl | hw <;> assumption
/-! calls, literals, switches -/
theorem pd_0 : (parseMethodDescriptor "()V").map (fun d => d.parameters.length) = some 0 := by decide +kernel
theorem pd_1 : (parseMethodDescriptor "(III)Z").map (fun d => d.parameters.length) = some 3 := by decide +kernel
theorem pd_2 : (parseMethodDescriptor "(II)I").map (fun d => d.parameters.length) = some 2 := by decide +kernel
theorem pd_3 : (parseMethodDescriptor "()Z").map (fun d => d.parameters.length) = some 0 := by decide +kernel
theorem pd_4 : (parseMethodDescriptor "(I)I").map (fun d => d.parameters.length) = some 1 := by decide +kernel
theorem pd_5 : (parseMethodDescriptor "(II)Z").map (fun d => d.parameters.length) = some 2 := by decide +kernel
theorem pd_6 : (parseMethodDescriptor "(I)LPointFirst$Thrower;").map (fun d => d.parameters.length) = some 1 := by decide +kernel
theorem pd_7 : (parseMethodDescriptor "(I)V").map (fun d => d.parameters.length) = some 1 := by decide +kernel
theorem pd_8 : (parseMethodDescriptor "(Ljava/lang/String;I)Z").map (fun d => d.parameters.length) = some 2 := by decide +kernel
theorem pd_9 : (parseMethodDescriptor "(LPointFirst$Law;)I").map (fun d => d.parameters.length) = some 1 := by decide +kernel
theorem pd_10 : (parseMethodDescriptor "(I)Z").map (fun d => d.parameters.length) = some 1 := by decide +kernel
theorem pd_11 : (parseMethodDescriptor "(LPointFirst$Thrower;)I").map (fun d => d.parameters.length) = some 1 := by decide +kernel
theorem pd_12 : (parseMethodDescriptor "(LPointFirst$Law;)V").map (fun d => d.parameters.length) = some 1 := by decide +kernel
theorem pd_13 : (parseMethodDescriptor "()LPointFirst$Thrower;").map (fun d => d.parameters.length) = some 0 := by decide +kernel
theorem pd_14 : (parseMethodDescriptor "(LPointFirst$Thrower;IIII)I").map (fun d => d.parameters.length) = some 5 := by decide +kernel
theorem pd_15 : (parseMethodDescriptor "(LPointFirst$World;LPointFirst$Thrower;)V").map (fun d => d.parameters.length) = some 2 := by decide +kernel
theorem pd_16 : (parseMethodDescriptor "(LPointFirst$Thrower;I)V").map (fun d => d.parameters.length) = some 2 := by decide +kernel
theorem pd_17 : (parseMethodDescriptor "(III)V").map (fun d => d.parameters.length) = some 3 := by decide +kernel
theorem pd_18 : (parseMethodDescriptor "(LPointFirst$Law;I)I").map (fun d => d.parameters.length) = some 2 := by decide +kernel
theorem pd_19 : (parseMethodDescriptor "(III)I").map (fun d => d.parameters.length) = some 3 := by decide +kernel
theorem pd_20 : (parseMethodDescriptor "(LPointFirst$World;IIIIII)V").map (fun d => d.parameters.length) = some 7 := by decide +kernel
theorem pd_21 : (parseMethodDescriptor "(LPointFirst$Law;I)V").map (fun d => d.parameters.length) = some 2 := by decide +kernel
theorem pd_22 : (parseMethodDescriptor "(IIIIII)V").map (fun d => d.parameters.length) = some 6 := by decide +kernel
theorem pd_23 : (parseMethodDescriptor "(LPointFirst$Thrower;)Z").map (fun d => d.parameters.length) = some 1 := by decide +kernel
theorem pd_24 : (parseMethodDescriptor "(LPointFirst$Thrower;)V").map (fun d => d.parameters.length) = some 1 := by decide +kernel
theorem pd_25 : (parseMethodDescriptor "(LPointFirst$World;)Z").map (fun d => d.parameters.length) = some 1 := by decide +kernel
theorem pd_26 : (parseMethodDescriptor "(LPointFirst$World;)V").map (fun d => d.parameters.length) = some 1 := by decide +kernel
theorem pd_27 : (parseMethodDescriptor "()I").map (fun d => d.parameters.length) = some 0 := by decide +kernel
theorem pd_28 : (parseMethodDescriptor "(LPointFirst$World;III)V").map (fun d => d.parameters.length) = some 4 := by decide +kernel
theorem pd_29 : (parseMethodDescriptor "(LPointFirst$World;IIII)I").map (fun d => d.parameters.length) = some 5 := by decide +kernel
theorem pd_30 : (parseMethodDescriptor "(II)V").map (fun d => d.parameters.length) = some 2 := by decide +kernel
theorem pd_31 : (parseMethodDescriptor "(LPointFirst$World;LPointFirst$Thrower;II)V").map (fun d => d.parameters.length) = some 4 := by decide +kernel
theorem pd_32 : (parseMethodDescriptor "(LPointFirst$Law;II)V").map (fun d => d.parameters.length) = some 3 := by decide +kernel
theorem pd_33 : (parseMethodDescriptor "(I[I)I").map (fun d => d.parameters.length) = some 2 := by decide +kernel
theorem pd_34 : (parseMethodDescriptor "([II)V").map (fun d => d.parameters.length) = some 2 := by decide +kernel
theorem pd_35 : (parseMethodDescriptor "(II[I)I").map (fun d => d.parameters.length) = some 3 := by decide +kernel
theorem pd_36 : (parseMethodDescriptor "(Ljava/lang/String;)V").map (fun d => d.parameters.length) = some 1 := by decide +kernel
theorem pd_37 : (parseMethodDescriptor "(IZ)I").map (fun d => d.parameters.length) = some 2 := by decide +kernel
theorem pd_38 : (parseMethodDescriptor "(Ljava/lang/String;II)I").map (fun d => d.parameters.length) = some 3 := by decide +kernel
theorem pd_39 : (parseMethodDescriptor "(Ljava/lang/String;III)Z").map (fun d => d.parameters.length) = some 4 := by decide +kernel
theorem pd_40 : (parseMethodDescriptor "([JJ)V").map (fun d => d.parameters.length) = some 2 := by decide +kernel
theorem pd_41 : (parseMethodDescriptor "([JIII)V").map (fun d => d.parameters.length) = some 4 := by decide +kernel
theorem pd_42 : (parseMethodDescriptor "(LPointFirst$Law;IIIII)V").map (fun d => d.parameters.length) = some 6 := by decide +kernel
theorem pd_43 : (parseMethodDescriptor "(Ljava/lang/String;)Z").map (fun d => d.parameters.length) = some 1 := by decide +kernel
theorem pd_44 : (parseMethodDescriptor "(IIII)I").map (fun d => d.parameters.length) = some 4 := by decide +kernel
theorem pd_45 : (parseMethodDescriptor "(IIIII)I").map (fun d => d.parameters.length) = some 5 := by decide +kernel
theorem nh_X0 : RX0 ≠ "java/lang/invoke/MethodHandle" ∧ RX0 ≠ "java/lang/invoke/VarHandle" := by decide +kernel
theorem nh_X1 : RX1 ≠ "java/lang/invoke/MethodHandle" ∧ RX1 ≠ "java/lang/invoke/VarHandle" := by decide +kernel
theorem nh_X2 : RX2 ≠ "java/lang/invoke/MethodHandle" ∧ RX2 ≠ "java/lang/invoke/VarHandle" := by decide +kernel
theorem nh_X3 : RX3 ≠ "java/lang/invoke/MethodHandle" ∧ RX3 ≠ "java/lang/invoke/VarHandle" := by decide +kernel
theorem nh_X4 : RX4 ≠ "java/lang/invoke/MethodHandle" ∧ RX4 ≠ "java/lang/invoke/VarHandle" := by decide +kernel
theorem nh_X5 : RX5 ≠ "java/lang/invoke/MethodHandle" ∧ RX5 ≠ "java/lang/invoke/VarHandle" := by decide +kernel
theorem nh_X6 : RX6 ≠ "java/lang/invoke/MethodHandle" ∧ RX6 ≠ "java/lang/invoke/VarHandle" := by decide +kernel
theorem nh_X7 : RX7 ≠ "java/lang/invoke/MethodHandle" ∧ RX7 ≠ "java/lang/invoke/VarHandle" := by decide +kernel
theorem nh_X8 : RX8 ≠ "java/lang/invoke/MethodHandle" ∧ RX8 ≠ "java/lang/invoke/VarHandle" := by decide +kernel
theorem nh_X9 : RX9 ≠ "java/lang/invoke/MethodHandle" ∧ RX9 ≠ "java/lang/invoke/VarHandle" := by decide +kernel
theorem nh_X10 : RX10 ≠ "java/lang/invoke/MethodHandle" ∧ RX10 ≠ "java/lang/invoke/VarHandle" := by decide +kernel
theorem nh_X11 : RX11 ≠ "java/lang/invoke/MethodHandle" ∧ RX11 ≠ "java/lang/invoke/VarHandle" := by decide +kernel
theorem nh_X12 : RX12 ≠ "java/lang/invoke/MethodHandle" ∧ RX12 ≠ "java/lang/invoke/VarHandle" := by decide +kernel
theorem nh_J7 : RJ7 ≠ "java/lang/invoke/MethodHandle" ∧ RJ7 ≠ "java/lang/invoke/VarHandle" := by decide +kernel
theorem cw_X11_48 : CWV RX11 48 RX4 yX4_forget cX4_forget 1 none 0 := cwv ml_X11_48 im_X4_forget se_X4_forget in_X4 co_X4_forget ⟨rfl, nh_X4.1, nh_X4.2, pd_0⟩
theorem cw_X11_51 : CWS RX11 51 yX11_within cX11_within 3 (some .boolean) 3 := cws ml_X11_51 st_X11_within in_X11 co_X11_within ⟨rfl, nh_X11.1, nh_X11.2, pd_1⟩
theorem cw_X11_58 : CWV RX11 58 RX10 yX10_addSpear cX10_addSpear 3 (some .int) 2 := cwv ml_X11_58 im_X10_addSpear se_X10_addSpear in_X10 co_X10_addSpear ⟨rfl, nh_X10.1, nh_X10.2, pd_2⟩
theorem cw_X11_65 : CWV RX11 65 RX10 yX10_begun cX10_begun 1 (some .boolean) 0 := cwv ml_X11_65 im_X10_begun se_X10_begun in_X10 co_X10_begun ⟨rfl, nh_X10.1, nh_X10.2, pd_3⟩
theorem cw_X11_69 : CWV RX11 69 RX10 yX10_addThrower cX10_addThrower 2 (some .int) 1 := cwv ml_X11_69 im_X10_addThrower se_X10_addThrower in_X10 co_X10_addThrower ⟨rfl, nh_X10.1, nh_X10.2, pd_4⟩
theorem cw_X11_73 : CWV RX11 73 RX10 yX10_tell cX10_tell 4 (some .boolean) 2 := cwv ml_X11_73 im_X10_tell se_X10_tell in_X10 co_X10_tell ⟨rfl, nh_X10.1, nh_X10.2, pd_5⟩
theorem cw_X11_77 : CWV RX11 77 RX11 yX11_tellThrower cX11_tellThrower 5 (some .boolean) 3 := cwv ml_X11_77 im_X11_tellThrower se_X11_tellThrower in_X11 co_X11_tellThrower ⟨rfl, nh_X11.1, nh_X11.2, pd_1⟩
theorem cw_X11_80 : CWV RX11 80 RX10 yX10_one cX10_one 2 (some (.object RX8)) 1 := cwv ml_X11_80 im_X10_one se_X10_one in_X10 co_X10_one ⟨rfl, nh_X10.1, nh_X10.2, pd_6⟩
theorem cw_X11_101 : CWV RX11 101 RX6 yX6_add cX6_add 3 none 1 := cwv ml_X11_101 im_X6_add se_X6_add in_X6 co_X6_add ⟨rfl, nh_X6.1, nh_X6.2, pd_7⟩
theorem cw_X11_105 : CWV RX11 105 RX5 yX5_begin cX5_begin 1 none 0 := cwv ml_X11_105 im_X5_begin se_X5_begin in_X5 co_X5_begin ⟨rfl, nh_X5.1, nh_X5.2, pd_0⟩
theorem cw_X11_110 : CWV RX11 110 RX5 yX5_law cX5_law 5 (some .boolean) 2 := cwv ml_X11_110 im_X5_law se_X5_law in_X5 co_X5_law ⟨rfl, nh_X5.1, nh_X5.2, pd_8⟩
theorem cw_X11_118 : CWV RX11 118 RX11 yX11_keepLaw cX11_keepLaw 2 (some .int) 1 := cwv ml_X11_118 im_X11_keepLaw se_X11_keepLaw in_X11 co_X11_keepLaw ⟨rfl, nh_X11.1, nh_X11.2, pd_9⟩
theorem cw_X11_126 : CWV RX11 126 RX5 yX5_plan cX5_plan 3 (some .boolean) 1 := cwv ml_X11_126 im_X5_plan se_X5_plan in_X5 co_X5_plan ⟨rfl, nh_X5.1, nh_X5.2, pd_10⟩
theorem cw_X11_130 : CWV RX11 130 RX11 yX11_keepPlan cX11_keepPlan 2 (some .int) 1 := cwv ml_X11_130 im_X11_keepPlan se_X11_keepPlan in_X11 co_X11_keepPlan ⟨rfl, nh_X11.1, nh_X11.2, pd_11⟩
theorem cw_X11_141 : CWV RX11 141 RX3 yX3_copy cX3_copy 2 none 1 := cwv ml_X11_141 im_X3_copy se_X3_copy in_X3 co_X3_copy ⟨rfl, nh_X3.1, nh_X3.2, pd_12⟩
theorem cw_X11_182 : CWV RX11 182 RX10 yX10_whose cX10_whose 1 (some (.object RX8)) 0 := cwv ml_X11_182 im_X10_whose se_X10_whose in_X10 co_X10_whose ⟨rfl, nh_X10.1, nh_X10.2, pd_13⟩
theorem cw_X11_186 : CWV RX11 186 RX11 yX11_canThrow cX11_canThrow 4 (some .boolean) 3 := cwv ml_X11_186 im_X11_canThrow se_X11_canThrow in_X11 co_X11_canThrow ⟨rfl, nh_X11.1, nh_X11.2, pd_1⟩
theorem cw_X11_189 : CWV RX11 189 RX11 yX11_hurl cX11_hurl 13 (some .int) 5 := cwv ml_X11_189 im_X11_hurl se_X11_hurl in_X11 co_X11_hurl ⟨rfl, nh_X11.1, nh_X11.2, pd_14⟩
theorem cw_X11_193 : CWV RX11 193 RX10 yX10_hasSpear cX10_hasSpear 2 (some .boolean) 1 := cwv ml_X11_193 im_X10_hasSpear se_X10_hasSpear in_X10 co_X10_hasSpear ⟨rfl, nh_X10.1, nh_X10.2, pd_10⟩
theorem cw_X11_196 : CWV RX11 196 RX4 yX4_remember cX4_remember 4 none 2 := cwv ml_X11_196 im_X4_remember se_X4_remember in_X4 co_X4_remember ⟨rfl, nh_X4.1, nh_X4.2, pd_15⟩
theorem cw_X11_208 : CWV RX11 208 RX0 yX0_ask cX0_ask 3 none 2 := cwv ml_X11_208 im_X0_ask se_X0_ask in_X0 co_X0_ask ⟨rfl, nh_X0.1, nh_X0.2, pd_16⟩
theorem cw_X11_212 : CWV RX11 212 RX0 yX0_askThrow cX0_askThrow 4 none 3 := cwv ml_X11_212 im_X0_askThrow se_X0_askThrow in_X0 co_X0_askThrow ⟨rfl, nh_X0.1, nh_X0.2, pd_17⟩
theorem cw_X11_216 : CWV RX11 216 RX0 yX0_tell cX0_tell 3 (some .int) 2 := cwv ml_X11_216 im_X0_tell se_X0_tell in_X0 co_X0_tell ⟨rfl, nh_X0.1, nh_X0.2, pd_18⟩
theorem cw_X11_219 : CWV RX11 219 RX10 yX10_draw cX10_draw 2 (some .int) 1 := cwv ml_X11_219 im_X10_draw se_X10_draw in_X10 co_X10_draw ⟨rfl, nh_X10.1, nh_X10.2, pd_4⟩
theorem cw_X11_225 : CWV RX11 225 RX10 yX10_swing cX10_swing 2 (some .int) 1 := cwv ml_X11_225 im_X10_swing se_X10_swing in_X10 co_X10_swing ⟨rfl, nh_X10.1, nh_X10.2, pd_4⟩
theorem cw_X11_228 : CWS RX11 228 yX11_hold cX11_hold 3 (some .int) 3 := cws ml_X11_228 st_X11_hold in_X11 co_X11_hold ⟨rfl, nh_X11.1, nh_X11.2, pd_19⟩
theorem cw_X11_235 : CWV RX11 235 RX2 yX2_begin cX2_begin 8 none 7 := cwv ml_X11_235 im_X2_begin se_X2_begin in_X2 co_X2_begin ⟨rfl, nh_X2.1, nh_X2.2, pd_20⟩
theorem cw_X11_240 : CWV RX11 240 RX2 yX2_go cX2_go 4 none 2 := cwv ml_X11_240 im_X2_go se_X2_go in_X2 co_X2_go ⟨rfl, nh_X2.1, nh_X2.2, pd_21⟩
theorem cw_X11_244 : CWV RX11 244 RX2 yX2_how cX2_how 3 (some .int) 1 := cwv ml_X11_244 im_X2_how se_X2_how in_X2 co_X2_how ⟨rfl, nh_X2.1, nh_X2.2, pd_4⟩
theorem cw_X11_259 : CWV RX11 259 RX10 yX10_write cX10_write 8 none 6 := cwv ml_X11_259 im_X10_write se_X10_write in_X10 co_X10_write ⟨rfl, nh_X10.1, nh_X10.2, pd_22⟩
theorem cw_X11_263 : CWV RX11 263 RX10 yX10_nextTurn cX10_nextTurn 1 none 0 := cwv ml_X11_263 im_X10_nextTurn se_X10_nextTurn in_X10 co_X10_nextTurn ⟨rfl, nh_X10.1, nh_X10.2, pd_0⟩
theorem cw_X11_266 : CWV RX11 266 RX11 yX11_turnByPlan cX11_turnByPlan 3 (some .boolean) 1 := cwv ml_X11_266 im_X11_turnByPlan se_X11_turnByPlan in_X11 co_X11_turnByPlan ⟨rfl, nh_X11.1, nh_X11.2, pd_23⟩
theorem cw_X11_270 : CWV RX11 270 RX8 yX8_throwsBy cX8_throwsBy 2 (some .boolean) 1 := cwv ml_X11_270 im_X8_throwsBy se_X8_throwsBy in_X8 co_X8_throwsBy ⟨rfl, nh_X8.1, nh_X8.2, pd_10⟩
theorem cw_X11_273 : CWV RX11 273 RX8 yX8_order cX8_order 3 (some .int) 2 := cwv ml_X11_273 im_X8_order se_X8_order in_X8 co_X8_order ⟨rfl, nh_X8.1, nh_X8.2, pd_2⟩
theorem cw_X11_275 : CWV RX11 275 RX10 yX10_beginMeet cX10_beginMeet 2 none 0 := cwv ml_X11_275 im_X10_beginMeet se_X10_beginMeet in_X10 co_X10_beginMeet ⟨rfl, nh_X10.1, nh_X10.2, pd_0⟩
theorem cw_X11_281 : CWV RX11 281 RX11 yX11_mend cX11_mend 2 none 1 := cwv ml_X11_281 im_X11_mend se_X11_mend in_X11 co_X11_mend ⟨rfl, nh_X11.1, nh_X11.2, pd_24⟩
theorem cw_X11_285 : CWV RX11 285 RX4 yX4_goBack cX4_goBack 4 (some .boolean) 1 := cwv ml_X11_285 im_X4_goBack se_X4_goBack in_X4 co_X4_goBack ⟨rfl, nh_X4.1, nh_X4.2, pd_25⟩
theorem cw_X11_292 : CWV RX11 292 RX10 yX10_copy cX10_copy 3 none 1 := cwv ml_X11_292 im_X10_copy se_X10_copy in_X10 co_X10_copy ⟨rfl, nh_X10.1, nh_X10.2, pd_26⟩
theorem cw_X11_295 : CWV RX11 295 RX10 yX10_rank cX10_rank 4 (some .int) 1 := cwv ml_X11_295 im_X10_rank se_X10_rank in_X10 co_X10_rank ⟨rfl, nh_X10.1, nh_X10.2, pd_11⟩
theorem cw_X11_298 : CWV RX11 298 RX10 yX10_needs cX10_needs 5 (some .int) 1 := cwv ml_X11_298 im_X10_needs se_X10_needs in_X10 co_X10_needs ⟨rfl, nh_X10.1, nh_X10.2, pd_4⟩
theorem cw_X11_301 : CWV RX11 301 RX10 yX10_rule cX10_rule 5 (some .int) 1 := cwv ml_X11_301 im_X10_rule se_X10_rule in_X10 co_X10_rule ⟨rfl, nh_X10.1, nh_X10.2, pd_4⟩
theorem cw_X11_310 : CWV RX11 310 RX10 yX10_hasLine cX10_hasLine 2 (some .boolean) 1 := cwv ml_X11_310 im_X10_hasLine se_X10_hasLine in_X10 co_X10_hasLine ⟨rfl, nh_X10.1, nh_X10.2, pd_10⟩
theorem cw_X11_313 : CWV RX11 313 RX10 yX10_column cX10_column 3 (some .int) 2 := cwv ml_X11_313 im_X10_column se_X10_column in_X10 co_X10_column ⟨rfl, nh_X10.1, nh_X10.2, pd_2⟩
theorem cw_X11_316 : CWV RX11 316 RX10 yX10_ahead cX10_ahead 5 (some .int) 1 := cwv ml_X11_316 im_X10_ahead se_X10_ahead in_X10 co_X10_ahead ⟨rfl, nh_X10.1, nh_X10.2, pd_4⟩
theorem cw_X11_320 : CWV RX11 320 RX10 yX10_bestBefore cX10_bestBefore 5 (some .int) 2 := cwv ml_X11_320 im_X10_bestBefore se_X10_bestBefore in_X10 co_X10_bestBefore ⟨rfl, nh_X10.1, nh_X10.2, pd_2⟩
theorem cw_X11_329 : CWS RX11 329 yX11_canBlow cX11_canBlow 1 (some .boolean) 1 := cws ml_X11_329 st_X11_canBlow in_X11 co_X11_canBlow ⟨rfl, nh_X11.1, nh_X11.2, pd_10⟩
theorem cw_X11_332 : CWV RX11 332 RX2 yX2_landing cX2_landing 1 (some .int) 0 := cwv ml_X11_332 im_X2_landing se_X2_landing in_X2 co_X2_landing ⟨rfl, nh_X2.1, nh_X2.2, pd_27⟩
theorem cw_X11_345 : CWV RX11 345 RX7 yX7_findAngle cX7_findAngle 6 none 4 := cwv ml_X11_345 im_X7_findAngle se_X7_findAngle in_X7 co_X7_findAngle ⟨rfl, nh_X7.1, nh_X7.2, pd_28⟩
theorem cw_X11_349 : CWV RX11 349 RX7 yX7_findSafe cX7_findSafe 7 none 4 := cwv ml_X11_349 im_X7_findSafe se_X7_findSafe in_X7 co_X7_findSafe ⟨rfl, nh_X7.1, nh_X7.2, pd_28⟩
theorem cw_X11_360 : CWV RX11 360 RX7 yX7_far cX7_far 6 (some .int) 5 := cwv ml_X11_360 im_X7_far se_X7_far in_X7 co_X7_far ⟨rfl, nh_X7.1, nh_X7.2, pd_29⟩
theorem cw_X11_367 : CWV RX11 367 RX0 yX0_askState cX0_askState 3 none 2 := cwv ml_X11_367 im_X0_askState se_X0_askState in_X0 co_X0_askState ⟨rfl, nh_X0.1, nh_X0.2, pd_30⟩
theorem cw_X11_378 : CWT RX11 378 yX1_choice cX1_choice 1 (some .int) 1 := cwt ml_X11_378 st_X1_choice in_X1 co_X1_choice ⟨nh_X1.1, nh_X1.2, pd_4⟩
theorem cw_X11_381 : CWV RX11 381 RX7 yX7_goodFar cX7_goodFar 6 (some .int) 5 := cwv ml_X11_381 im_X7_goodFar se_X7_goodFar in_X7 co_X7_goodFar ⟨rfl, nh_X7.1, nh_X7.2, pd_29⟩
theorem cw_X11_388 : CWV RX11 388 RX1 yX1_weigh cX1_weigh 7 none 4 := cwv ml_X11_388 im_X1_weigh se_X1_weigh in_X1 co_X1_weigh ⟨rfl, nh_X1.1, nh_X1.2, pd_31⟩
theorem cw_X11_398 : CWV RX11 398 RX7 yX7_angleFor cX7_angleFor 8 (some .int) 5 := cwv ml_X11_398 im_X7_angleFor se_X7_angleFor in_X7 co_X7_angleFor ⟨rfl, nh_X7.1, nh_X7.2, pd_29⟩
theorem cw_X11_407 : CWV RX11 407 RX9 yX9_begin cX9_begin 3 none 2 := cwv ml_X11_407 im_X9_begin se_X9_begin in_X9 co_X9_begin ⟨rfl, nh_X9.1, nh_X9.2, pd_30⟩
theorem cw_X11_409 : CWV RX11 409 RX9 yX9_week cX9_week 9 none 3 := cwv ml_X11_409 im_X9_week se_X9_week in_X9 co_X9_week ⟨rfl, nh_X9.1, nh_X9.2, pd_32⟩
theorem cw_X11_413 : CWV RX11 413 RX9 yX9_judge cX9_judge 4 none 0 := cwv ml_X11_413 im_X9_judge se_X9_judge in_X9 co_X9_judge ⟨rfl, nh_X9.1, nh_X9.2, pd_0⟩
theorem cw_X11_420 : CWV RX11 420 RX8 yX8_wouldThrow cX8_wouldThrow 5 (some .boolean) 3 := cwv ml_X11_420 im_X8_wouldThrow se_X8_wouldThrow in_X8 co_X8_wouldThrow ⟨rfl, nh_X8.1, nh_X8.2, pd_1⟩
theorem cw_X11_423 : CWV RX11 423 RX0 yX0_askBest cX0_askBest 2 none 1 := cwv ml_X11_423 im_X0_askBest se_X0_askBest in_X0 co_X0_askBest ⟨rfl, nh_X0.1, nh_X0.2, pd_7⟩
theorem cw_X0_13 : CWV RX0 13 RX0 yX0_askThrow cX0_askThrow 4 none 3 := cwv ml_X0_13 im_X0_askThrow se_X0_askThrow in_X0 co_X0_askThrow ⟨rfl, nh_X0.1, nh_X0.2, pd_17⟩
theorem cw_X0_26 : CWV RX0 26 RX0 yX0_askState cX0_askState 3 none 2 := cwv ml_X0_26 im_X0_askState se_X0_askState in_X0 co_X0_askState ⟨rfl, nh_X0.1, nh_X0.2, pd_30⟩
theorem cw_X0_33 : CWV RX0 33 RX0 yX0_askBest cX0_askBest 2 none 1 := cwv ml_X0_33 im_X0_askBest se_X0_askBest in_X0 co_X0_askBest ⟨rfl, nh_X0.1, nh_X0.2, pd_7⟩
theorem cw_X0_40 : CWV RX0 40 RX3 yX3_tell cX3_tell 4 (some .int) 2 := cwv ml_X0_40 im_X3_tell se_X3_tell in_X3 co_X3_tell ⟨rfl, nh_X3.1, nh_X3.2, pd_33⟩
theorem cw_X0_46 : CWN RX0 46 yX11_hold cX11_hold 3 (some .int) 3 := ⟨⟨co_X11_hold, st_X11_hold, in_X11, by decide⟩, nh_X11.1, nh_X11.2, pd_19⟩
theorem cw_X1_29 : CWS RX1 29 yX1_choice cX1_choice 1 (some .int) 1 := cws ml_X1_29 st_X1_choice in_X1 co_X1_choice ⟨rfl, nh_X1.1, nh_X1.2, pd_4⟩
theorem cw_X1_48 : CWS RX1 48 yX1_upTo cX1_upTo 2 (some .int) 1 := cws ml_X1_48 st_X1_upTo in_X1 co_X1_upTo ⟨rfl, nh_X1.1, nh_X1.2, pd_4⟩
theorem cw_X1_61 : CWV RX1 61 RX0 yX0_ask cX0_ask 3 none 2 := cwv ml_X1_61 im_X0_ask se_X0_ask in_X0 co_X0_ask ⟨rfl, nh_X0.1, nh_X0.2, pd_16⟩
theorem cw_X1_65 : CWT RX1 65 yJ7_fill_53178 cJ7_fill_53178 4 none 2 := cwt ml_X1_65 st_J7_fill_53178 in_J7 co_J7_fill_53178 ⟨nh_J7.1, nh_J7.2, pd_34⟩
theorem cw_X1_80 : CWV RX1 80 RX1 yX1_by cX1_by 6 (some .int) 3 := cwv ml_X1_80 im_X1_by se_X1_by in_X1 co_X1_by ⟨rfl, nh_X1.1, nh_X1.2, pd_19⟩
theorem cw_X1_84 : CWV RX1 84 RX0 yX0_askThrow cX0_askThrow 4 none 3 := cwv ml_X1_84 im_X0_askThrow se_X0_askThrow in_X0 co_X0_askThrow ⟨rfl, nh_X0.1, nh_X0.2, pd_17⟩
theorem cw_X1_88 : CWV RX1 88 RX0 yX0_askState cX0_askState 3 none 2 := cwv ml_X1_88 im_X0_askState se_X0_askState in_X0 co_X0_askState ⟨rfl, nh_X0.1, nh_X0.2, pd_30⟩
theorem cw_X1_93 : CWV RX1 93 RX0 yX0_tell cX0_tell 3 (some .int) 2 := cwv ml_X1_93 im_X0_tell se_X0_tell in_X0 co_X0_tell ⟨rfl, nh_X0.1, nh_X0.2, pd_18⟩
theorem cw_X1_103 : CWV RX1 103 RX1 yX1_greatest cX1_greatest 5 (some .int) 2 := cwv ml_X1_103 im_X1_greatest se_X1_greatest in_X1 co_X1_greatest ⟨rfl, nh_X1.1, nh_X1.2, pd_2⟩
theorem cw_X2_15 : CWS RX2 15 yX2_sine cX2_sine 2 (some .int) 1 := cws ml_X2_15 st_X2_sine in_X2 co_X2_sine ⟨rfl, nh_X2.1, nh_X2.2, pd_4⟩
theorem cw_X2_19 : CWV RX2 19 RX10 yX10_hasSpear cX10_hasSpear 2 (some .boolean) 1 := cwv ml_X2_19 im_X10_hasSpear se_X10_hasSpear in_X10 co_X10_hasSpear ⟨rfl, nh_X10.1, nh_X10.2, pd_10⟩
theorem cw_X2_45 : CWV RX2 45 RX2 yX2_tick cX2_tick 6 none 1 := cwv ml_X2_45 im_X2_tick se_X2_tick in_X2 co_X2_tick ⟨rfl, nh_X2.1, nh_X2.2, pd_12⟩
theorem cw_X2_49 : CWV RX2 49 RX3 yX3_tell cX3_tell 4 (some .int) 2 := cwv ml_X2_49 im_X3_tell se_X3_tell in_X3 co_X3_tell ⟨rfl, nh_X3.1, nh_X3.2, pd_33⟩
theorem cw_X2_55 : CWN RX2 55 yX11_hold cX11_hold 3 (some .int) 3 := ⟨⟨co_X11_hold, st_X11_hold, in_X11, by decide⟩, nh_X11.1, nh_X11.2, pd_19⟩
theorem cw_X2_65 : CWV RX2 65 RX2 yX2_landing cX2_landing 1 (some .int) 0 := cwv ml_X2_65 im_X2_landing se_X2_landing in_X2 co_X2_landing ⟨rfl, nh_X2.1, nh_X2.2, pd_27⟩
theorem cw_X3_43 : CWV RX3 43 RX3 yX3_count cX3_count 8 (some .int) 3 := cwv ml_X3_43 im_X3_count se_X3_count in_X3 co_X3_count ⟨rfl, nh_X3.1, nh_X3.2, pd_35⟩
theorem cw_X3_47 : CWS RX3 47 yX3_join cX3_join 3 (some .int) 3 := cws ml_X3_47 st_X3_join in_X3 co_X3_join ⟨rfl, nh_X3.1, nh_X3.2, pd_19⟩
theorem cw_X4_55 : CWV RX4 55 RX10 yX10_one cX10_one 2 (some (.object RX8)) 1 := cwv ml_X4_55 im_X10_one se_X10_one in_X10 co_X10_one ⟨rfl, nh_X10.1, nh_X10.2, pd_6⟩
theorem cw_X5_41 : CWV RX5 41 RX3 yX3_clear cX3_clear 1 none 0 := cwv ml_X5_41 im_X3_clear se_X3_clear in_X3 co_X3_clear ⟨rfl, nh_X3.1, nh_X3.2, pd_0⟩
theorem cw_X5_50 : CWV RX5 50 RX6 yX6_next cX6_next 1 none 0 := cwv ml_X5_50 im_X6_next se_X6_next in_X6 co_X6_next ⟨rfl, nh_X6.1, nh_X6.2, pd_0⟩
theorem cw_X5_53 : CWV RX5 53 RX5 yX5_fail cX5_fail 2 none 1 := cwv ml_X5_53 im_X5_fail se_X5_fail in_X5 co_X5_fail ⟨rfl, nh_X5.1, nh_X5.2, pd_7⟩
theorem cw_X5_60 : CWV RX5 60 RX6 yX6_cut cX6_cut 7 none 1 := cwv ml_X5_60 im_X6_cut se_X6_cut in_X6 co_X6_cut ⟨rfl, nh_X6.1, nh_X6.2, pd_36⟩
theorem cw_X5_70 : CWV RX5 70 RX3 yX3_beginLine cX3_beginLine 2 none 1 := cwv ml_X5_70 im_X3_beginLine se_X3_beginLine in_X3 co_X3_beginLine ⟨rfl, nh_X3.1, nh_X3.2, pd_7⟩
theorem cw_X5_73 : CWV RX5 73 RX5 yX5_sum cX5_sum 3 none 0 := cwv ml_X5_73 im_X5_sum se_X5_sum in_X5 co_X5_sum ⟨rfl, nh_X5.1, nh_X5.2, pd_0⟩
theorem cw_X5_76 : CWV RX5 76 RX3 yX3_beginWhen cX3_beginWhen 1 none 0 := cwv ml_X5_76 im_X3_beginWhen se_X3_beginWhen in_X3 co_X3_beginWhen ⟨rfl, nh_X3.1, nh_X3.2, pd_0⟩
theorem cw_X5_79 : CWV RX5 79 RX5 yX5_taken cX5_taken 2 (some .boolean) 1 := cwv ml_X5_79 im_X5_taken se_X5_taken in_X5 co_X5_taken ⟨rfl, nh_X5.1, nh_X5.2, pd_10⟩
theorem cw_X5_83 : CWV RX5 83 RX5 yX5_anyOf cX5_anyOf 3 none 1 := cwv ml_X5_83 im_X5_anyOf se_X5_anyOf in_X5 co_X5_anyOf ⟨rfl, nh_X5.1, nh_X5.2, pd_7⟩
theorem cw_X5_86 : CWV RX5 86 RX5 yX5_take cX5_take 2 none 1 := cwv ml_X5_86 im_X5_take se_X5_take in_X5 co_X5_take ⟨rfl, nh_X5.1, nh_X5.2, pd_7⟩
theorem cw_X5_89 : CWV RX5 89 RX3 yX3_endLine cX3_endLine 1 none 0 := cwv ml_X5_89 im_X3_endLine se_X3_endLine in_X3 co_X3_endLine ⟨rfl, nh_X3.1, nh_X3.2, pd_0⟩
theorem cw_X5_92 : CWV RX5 92 RX5 yX5_allOf cX5_allOf 3 none 1 := cwv ml_X5_92 im_X5_allOf se_X5_allOf in_X5 co_X5_allOf ⟨rfl, nh_X5.1, nh_X5.2, pd_7⟩
theorem cw_X5_95 : CWV RX5 95 RX3 yX3_put cX3_put 3 none 2 := cwv ml_X5_95 im_X3_put se_X3_put in_X3 co_X3_put ⟨rfl, nh_X3.1, nh_X3.2, pd_30⟩
theorem cw_X5_99 : CWV RX5 99 RX5 yX5_single cX5_single 3 none 1 := cwv ml_X5_99 im_X5_single se_X5_single in_X5 co_X5_single ⟨rfl, nh_X5.1, nh_X5.2, pd_7⟩
theorem cw_X5_102 : CWV RX5 102 RX5 yX5_comparing cX5_comparing 2 (some .int) 0 := cwv ml_X5_102 im_X5_comparing se_X5_comparing in_X5 co_X5_comparing ⟨rfl, nh_X5.1, nh_X5.2, pd_27⟩
theorem cw_X5_106 : CWV RX5 106 RX5 yX5_operand cX5_operand 1 none 0 := cwv ml_X5_106 im_X5_operand se_X5_operand in_X5 co_X5_operand ⟨rfl, nh_X5.1, nh_X5.2, pd_0⟩
theorem cw_X5_109 : CWV RX5 109 RX5 yX5_number cX5_number 4 (some .int) 2 := cwv ml_X5_109 im_X5_number se_X5_number in_X5 co_X5_number ⟨rfl, nh_X5.1, nh_X5.2, pd_2⟩
theorem cw_X5_115 : CWV RX5 115 RX5 yX5_throwOrder cX5_throwOrder 2 none 1 := cwv ml_X5_115 im_X5_throwOrder se_X5_throwOrder in_X5 co_X5_throwOrder ⟨rfl, nh_X5.1, nh_X5.2, pd_7⟩
theorem cw_X5_118 : CWV RX5 118 RX5 yX5_part cX5_part 4 none 2 := cwv ml_X5_118 im_X5_part se_X5_part in_X5 co_X5_part ⟨rfl, nh_X5.1, nh_X5.2, pd_30⟩
theorem cw_X6_44 : CWV RX6 44 RX6 yX6_byteAt cX6_byteAt 2 (some .int) 1 := cwv ml_X6_44 im_X6_byteAt se_X6_byteAt in_X6 co_X6_byteAt ⟨rfl, nh_X6.1, nh_X6.2, pd_4⟩
theorem cw_X6_48 : CWS RX6 48 yX6_isLetter cX6_isLetter 1 (some .boolean) 1 := cws ml_X6_48 st_X6_isLetter in_X6 co_X6_isLetter ⟨rfl, nh_X6.1, nh_X6.2, pd_10⟩
theorem cw_X6_52 : CWV RX6 52 RX6 yX6_runFrom cX6_runFrom 6 (some .int) 2 := cwv ml_X6_52 im_X6_runFrom se_X6_runFrom in_X6 co_X6_runFrom ⟨rfl, nh_X6.1, nh_X6.2, pd_37⟩
theorem cw_X6_56 : CWV RX6 56 RX6 yX6_numberOf cX6_numberOf 7 (some .int) 3 := cwv ml_X6_56 im_X6_numberOf se_X6_numberOf in_X6 co_X6_numberOf ⟨rfl, nh_X6.1, nh_X6.2, pd_38⟩
theorem cw_X6_60 : CWV RX6 60 RX6 yX6_put cX6_put 4 none 3 := cwv ml_X6_60 im_X6_put se_X6_put in_X6 co_X6_put ⟨rfl, nh_X6.1, nh_X6.2, pd_17⟩
theorem cw_X6_64 : CWS RX6 64 yX6_isDigit cX6_isDigit 1 (some .boolean) 1 := cws ml_X6_64 st_X6_isDigit in_X6 co_X6_isDigit ⟨rfl, nh_X6.1, nh_X6.2, pd_10⟩
theorem cw_X6_67 : CWV RX6 67 RX6 yX6_amount cX6_amount 5 (some .int) 2 := cwv ml_X6_67 im_X6_amount se_X6_amount in_X6 co_X6_amount ⟨rfl, nh_X6.1, nh_X6.2, pd_2⟩
theorem cw_X6_71 : CWS RX6 71 yX6_isSign cX6_isSign 1 (some .boolean) 1 := cws ml_X6_71 st_X6_isSign in_X6 co_X6_isSign ⟨rfl, nh_X6.1, nh_X6.2, pd_10⟩
theorem cw_X6_74 : CWV RX6 74 RX6 yX6_next cX6_next 1 none 0 := cwv ml_X6_74 im_X6_next se_X6_next in_X6 co_X6_next ⟨rfl, nh_X6.1, nh_X6.2, pd_0⟩
theorem cw_X6_77 : CWN RX6 77 yX11_within cX11_within 3 (some .boolean) 3 := ⟨⟨co_X11_within, st_X11_within, in_X11, by decide⟩, nh_X11.1, nh_X11.2, pd_1⟩
theorem cw_X6_90 : CWV RX6 90 RX6 yX6_isSame cX6_isSame 6 (some .boolean) 4 := cwv ml_X6_90 im_X6_isSame se_X6_isSame in_X6 co_X6_isSame ⟨rfl, nh_X6.1, nh_X6.2, pd_39⟩
theorem cw_X7_27 : CWV RX7 27 RX2 yX2_begin cX2_begin 8 none 7 := cwv ml_X7_27 im_X2_begin se_X2_begin in_X2 co_X2_begin ⟨rfl, nh_X2.1, nh_X2.2, pd_20⟩
theorem cw_X7_34 : CWV RX7 34 RX2 yX2_go cX2_go 4 none 2 := cwv ml_X7_34 im_X2_go se_X2_go in_X2 co_X2_go ⟨rfl, nh_X2.1, nh_X2.2, pd_21⟩
theorem cw_X7_42 : CWV RX7 42 RX2 yX2_how cX2_how 3 (some .int) 1 := cwv ml_X7_42 im_X2_how se_X2_how in_X2 co_X2_how ⟨rfl, nh_X2.1, nh_X2.2, pd_4⟩
theorem cw_X7_52 : CWV RX7 52 RX7 yX7_goodFar cX7_goodFar 6 (some .int) 5 := cwv ml_X7_52 im_X7_goodFar se_X7_goodFar in_X7 co_X7_goodFar ⟨rfl, nh_X7.1, nh_X7.2, pd_29⟩
theorem cw_X7_56 : CWV RX7 56 RX7 yX7_found cX7_found 3 none 2 := cwv ml_X7_56 im_X7_found se_X7_found in_X7 co_X7_found ⟨rfl, nh_X7.1, nh_X7.2, pd_30⟩
theorem cw_X7_60 : CWV RX7 60 RX7 yX7_leastAround cX7_leastAround 5 (some .int) 2 := cwv ml_X7_60 im_X7_leastAround se_X7_leastAround in_X7 co_X7_leastAround ⟨rfl, nh_X7.1, nh_X7.2, pd_2⟩
theorem cw_X7_64 : CWN RX7 64 yX11_hold cX11_hold 3 (some .int) 3 := ⟨⟨co_X11_hold, st_X11_hold, in_X11, by decide⟩, nh_X11.1, nh_X11.2, pd_19⟩
theorem cw_X8_25 : CWV RX8 25 RX8 yX8_beginMeet cX8_beginMeet 1 none 0 := cwv ml_X8_25 im_X8_beginMeet se_X8_beginMeet in_X8 co_X8_beginMeet ⟨rfl, nh_X8.1, nh_X8.2, pd_0⟩
theorem cw_X8_43 : CWN RX8 43 yX11_within cX11_within 3 (some .boolean) 3 := ⟨⟨co_X11_within, st_X11_within, in_X11, by decide⟩, nh_X11.1, nh_X11.2, pd_1⟩
theorem cw_X8_47 : CWV RX8 47 RX8 yX8_wouldThrow cX8_wouldThrow 5 (some .boolean) 3 := cwv ml_X8_47 im_X8_wouldThrow se_X8_wouldThrow in_X8 co_X8_wouldThrow ⟨rfl, nh_X8.1, nh_X8.2, pd_1⟩
theorem cw_X8_50 : CWV RX8 50 RX8 yX8_order cX8_order 3 (some .int) 2 := cwv ml_X8_50 im_X8_order se_X8_order in_X8 co_X8_order ⟨rfl, nh_X8.1, nh_X8.2, pd_2⟩
theorem cw_X9_22 : CWT RX9 22 yJ7_fill_d0a16 cJ7_fill_d0a16 5 none 2 := cwt ml_X9_22 st_J7_fill_d0a16 in_J7 co_J7_fill_d0a16 ⟨nh_J7.1, nh_J7.2, pd_40⟩
theorem cw_X9_28 : CWS RX9 28 yX9_put cX9_put 5 none 4 := cws ml_X9_28 st_X9_put in_X9 co_X9_put ⟨rfl, nh_X9.1, nh_X9.2, pd_41⟩
theorem cw_X9_34 : CWV RX9 34 RX9 yX9_spread cX9_spread 10 none 6 := cwv ml_X9_34 im_X9_spread se_X9_spread in_X9 co_X9_spread ⟨rfl, nh_X9.1, nh_X9.2, pd_42⟩
theorem cw_X9_38 : CWV RX9 38 RX3 yX3_tell cX3_tell 4 (some .int) 2 := cwv ml_X9_38 im_X3_tell se_X3_tell in_X3 co_X3_tell ⟨rfl, nh_X3.1, nh_X3.2, pd_33⟩
theorem cw_X9_44 : CWN RX9 44 yX11_hold cX11_hold 3 (some .int) 3 := ⟨⟨co_X11_hold, st_X11_hold, in_X11, by decide⟩, nh_X11.1, nh_X11.2, pd_19⟩
theorem cw_X10_78 : CWV RX10 78 RX8 yX8_copy cX8_copy 2 none 1 := cwv ml_X10_78 im_X8_copy se_X8_copy in_X8 co_X8_copy ⟨rfl, nh_X8.1, nh_X8.2, pd_24⟩
theorem cw_X10_82 : CWV RX10 82 RX3 yX3_copy cX3_copy 2 none 1 := cwv ml_X10_82 im_X3_copy se_X3_copy in_X3 co_X3_copy ⟨rfl, nh_X3.1, nh_X3.2, pd_12⟩
theorem cw_X10_85 : CWV RX10 85 RX8 yX8_begin cX8_begin 2 none 1 := cwv ml_X10_85 im_X8_begin se_X8_begin in_X8 co_X8_begin ⟨rfl, nh_X8.1, nh_X8.2, pd_7⟩
theorem cw_X10_89 : CWN RX10 89 yX11_within cX11_within 3 (some .boolean) 3 := ⟨⟨co_X11_within, st_X11_within, in_X11, by decide⟩, nh_X11.1, nh_X11.2, pd_1⟩
theorem cw_X10_93 : CWV RX10 93 RX10 yX10_one cX10_one 2 (some (.object RX8)) 1 := cwv ml_X10_93 im_X10_one se_X10_one in_X10 co_X10_one ⟨rfl, nh_X10.1, nh_X10.2, pd_6⟩
theorem cw_X10_97 : CWV RX10 97 RX8 yX8_beginMeet cX8_beginMeet 1 none 0 := cwv ml_X10_97 im_X8_beginMeet se_X8_beginMeet in_X8 co_X8_beginMeet ⟨rfl, nh_X8.1, nh_X8.2, pd_0⟩
theorem cw_X10_102 : CWV RX10 102 RX10 yX10_draw cX10_draw 2 (some .int) 1 := cwv ml_X10_102 im_X10_draw se_X10_draw in_X10 co_X10_draw ⟨rfl, nh_X10.1, nh_X10.2, pd_4⟩
theorem cw_X10_106 : CWV RX10 106 RX10 yX10_hasLine cX10_hasLine 2 (some .boolean) 1 := cwv ml_X10_106 im_X10_hasLine se_X10_hasLine in_X10 co_X10_hasLine ⟨rfl, nh_X10.1, nh_X10.2, pd_10⟩
theorem cw_X10_110 : CWV RX10 110 RX10 yX10_column cX10_column 3 (some .int) 2 := cwv ml_X10_110 im_X10_column se_X10_column in_X10 co_X10_column ⟨rfl, nh_X10.1, nh_X10.2, pd_2⟩
theorem cw_X10_114 : CWV RX10 114 RX10 yX10_isToday cX10_isToday 3 (some .boolean) 2 := cwv ml_X10_114 im_X10_isToday se_X10_isToday in_X10 co_X10_isToday ⟨rfl, nh_X10.1, nh_X10.2, pd_5⟩
theorem cw_X12_64 : CWS RX12 64 yX12_lesser cX12_lesser 2 (some .int) 2 := cws ml_X12_64 st_X12_lesser in_X12 co_X12_lesser ⟨rfl, nh_X12.1, nh_X12.2, pd_2⟩
theorem cw_X12_68 : CWS RX12 68 yX12_greater cX12_greater 2 (some .int) 2 := cws ml_X12_68 st_X12_greater in_X12 co_X12_greater ⟨rfl, nh_X12.1, nh_X12.2, pd_2⟩
theorem cw_X12_71 : CWS RX12 71 yX12_isIn cX12_isIn 3 (some .boolean) 3 := cws ml_X12_71 st_X12_isIn in_X12 co_X12_isIn ⟨rfl, nh_X12.1, nh_X12.2, pd_1⟩
theorem cw_X12_78 : CWV RX12 78 RX12 yX12_forgets cX12_forgets 1 none 0 := cwv ml_X12_78 im_X12_forgets se_X12_forgets in_X12 co_X12_forgets ⟨rfl, nh_X12.1, nh_X12.2, pd_0⟩
theorem cw_X12_83 : CWV RX12 83 RX12 yX12_gives cX12_gives 4 none 3 := cwv ml_X12_83 im_X12_gives se_X12_gives in_X12 co_X12_gives ⟨rfl, nh_X12.1, nh_X12.2, pd_17⟩
theorem cw_X12_87 : CWV RX12 87 RX12 yX12_isThrower cX12_isThrower 2 (some .boolean) 1 := cwv ml_X12_87 im_X12_isThrower se_X12_isThrower in_X12 co_X12_isThrower ⟨rfl, nh_X12.1, nh_X12.2, pd_10⟩
theorem cw_X12_91 : CWS RX12 91 yX12_leastOf cX12_leastOf 1 (some .int) 1 := cws ml_X12_91 st_X12_leastOf in_X12 co_X12_leastOf ⟨rfl, nh_X12.1, nh_X12.2, pd_4⟩
theorem cw_X12_95 : CWS RX12 95 yX12_mostOf cX12_mostOf 1 (some .int) 1 := cws ml_X12_95 st_X12_mostOf in_X12 co_X12_mostOf ⟨rfl, nh_X12.1, nh_X12.2, pd_4⟩
theorem cw_X12_119 : CWV RX12 119 RX12 yX12_is cX12_is 4 (some .boolean) 1 := cwv ml_X12_119 im_X12_is se_X12_is in_X12 co_X12_is ⟨rfl, nh_X12.1, nh_X12.2, pd_43⟩
theorem cw_X12_189 : CWV RX12 189 RX12 yX12_planWord cX12_planWord 1 (some .int) 0 := cwv ml_X12_189 im_X12_planWord se_X12_planWord in_X12 co_X12_planWord ⟨rfl, nh_X12.1, nh_X12.2, pd_27⟩
theorem cw_X12_200 : CWV RX12 200 RX12 yX12_flightWord cX12_flightWord 1 (some .int) 0 := cwv ml_X12_200 im_X12_flightWord se_X12_flightWord in_X12 co_X12_flightWord ⟨rfl, nh_X12.1, nh_X12.2, pd_27⟩
theorem cw_X12_203 : CWV RX12 203 RX12 yX12_armWord cX12_armWord 1 (some .int) 0 := cwv ml_X12_203 im_X12_armWord se_X12_armWord in_X12 co_X12_armWord ⟨rfl, nh_X12.1, nh_X12.2, pd_27⟩
theorem cw_X12_206 : CWV RX12 206 RX12 yX12_trainWord cX12_trainWord 1 (some .int) 0 := cwv ml_X12_206 im_X12_trainWord se_X12_trainWord in_X12 co_X12_trainWord ⟨rfl, nh_X12.1, nh_X12.2, pd_27⟩
theorem cw_X12_209 : CWV RX12 209 RX12 yX12_see cX12_see 2 (some .int) 1 := cwv ml_X12_209 im_X12_see se_X12_see in_X12 co_X12_see ⟨rfl, nh_X12.1, nh_X12.2, pd_4⟩
theorem cw_X12_215 : CWS RX12 215 yX12_isLetter cX12_isLetter 1 (some .boolean) 1 := cws ml_X12_215 st_X12_isLetter in_X12 co_X12_isLetter ⟨rfl, nh_X12.1, nh_X12.2, pd_10⟩
theorem cw_X12_218 : CWV RX12 218 RX12 yX12_word cX12_word 1 (some .int) 0 := cwv ml_X12_218 im_X12_word se_X12_word in_X12 co_X12_word ⟨rfl, nh_X12.1, nh_X12.2, pd_27⟩
theorem cw_X12_221 : CWS RX12 221 yX12_isDigit cX12_isDigit 1 (some .boolean) 1 := cws ml_X12_221 st_X12_isDigit in_X12 co_X12_isDigit ⟨rfl, nh_X12.1, nh_X12.2, pd_10⟩
theorem cw_X12_233 : CWV RX12 233 RX12 yX12_bad cX12_bad 2 (some .boolean) 1 := cwv ml_X12_233 im_X12_bad se_X12_bad in_X12 co_X12_bad ⟨rfl, nh_X12.1, nh_X12.2, pd_10⟩
theorem cw_X12_236 : CWV RX12 236 RX12 yX12_next0 cX12_next0 3 none 0 := cwv ml_X12_236 im_X12_next0 se_X12_next0 in_X12 co_X12_next0 ⟨rfl, nh_X12.1, nh_X12.2, pd_0⟩
theorem cw_X12_245 : CWV RX12 245 RX12 yX12_product cX12_product 3 (some .boolean) 0 := cwv ml_X12_245 im_X12_product se_X12_product in_X12 co_X12_product ⟨rfl, nh_X12.1, nh_X12.2, pd_3⟩
theorem cw_X12_249 : CWV RX12 249 RX12 yX12_lay cX12_lay 3 none 2 := cwv ml_X12_249 im_X12_lay se_X12_lay in_X12 co_X12_lay ⟨rfl, nh_X12.1, nh_X12.2, pd_30⟩
theorem cw_X12_253 : CWV RX12 253 RX12 yX12_unit cX12_unit 2 (some .boolean) 0 := cwv ml_X12_253 im_X12_unit se_X12_unit in_X12 co_X12_unit ⟨rfl, nh_X12.1, nh_X12.2, pd_3⟩
theorem cw_X12_256 : CWV RX12 256 RX12 yX12_every cX12_every 1 (some .boolean) 0 := cwv ml_X12_256 im_X12_every se_X12_every in_X12 co_X12_every ⟨rfl, nh_X12.1, nh_X12.2, pd_3⟩
theorem cw_X12_259 : CWV RX12 259 RX12 yX12_oneTest cX12_oneTest 2 (some .boolean) 0 := cwv ml_X12_259 im_X12_oneTest se_X12_oneTest in_X12 co_X12_oneTest ⟨rfl, nh_X12.1, nh_X12.2, pd_3⟩
theorem cw_X12_262 : CWV RX12 262 RX12 yX12_opens cX12_opens 1 (some .boolean) 0 := cwv ml_X12_262 im_X12_opens se_X12_opens in_X12 co_X12_opens ⟨rfl, nh_X12.1, nh_X12.2, pd_3⟩
theorem cw_X12_265 : CWV RX12 265 RX12 yX12_any cX12_any 1 (some .boolean) 0 := cwv ml_X12_265 im_X12_any se_X12_any in_X12 co_X12_any ⟨rfl, nh_X12.1, nh_X12.2, pd_3⟩
theorem cw_X12_268 : CWV RX12 268 RX12 yX12_need cX12_need 2 (some .boolean) 1 := cwv ml_X12_268 im_X12_need se_X12_need in_X12 co_X12_need ⟨rfl, nh_X12.1, nh_X12.2, pd_10⟩
theorem cw_X12_271 : CWV RX12 271 RX12 yX12_sumUp cX12_sumUp 2 (some .boolean) 0 := cwv ml_X12_271 im_X12_sumUp se_X12_sumUp in_X12 co_X12_sumUp ⟨rfl, nh_X12.1, nh_X12.2, pd_3⟩
theorem cw_X12_277 : CWV RX12 277 RX12 yX12_aLine cX12_aLine 1 (some .boolean) 0 := cwv ml_X12_277 im_X12_aLine se_X12_aLine in_X12 co_X12_aLine ⟨rfl, nh_X12.1, nh_X12.2, pd_3⟩
theorem cw_X12_283 : CWV RX12 283 RX12 yX12_number cX12_number 3 (some .boolean) 2 := cwv ml_X12_283 im_X12_number se_X12_number in_X12 co_X12_number ⟨rfl, nh_X12.1, nh_X12.2, pd_5⟩
theorem cw_X12_290 : CWV RX12 290 RX12 yX12_told cX12_told 4 (some .boolean) 3 := cwv ml_X12_290 im_X12_told se_X12_told in_X12 co_X12_told ⟨rfl, nh_X12.1, nh_X12.2, pd_1⟩
theorem cw_X12_293 : CWV RX12 293 RX12 yX12_aThrow cX12_aThrow 1 (some .boolean) 0 := cwv ml_X12_293 im_X12_aThrow se_X12_aThrow in_X12 co_X12_aThrow ⟨rfl, nh_X12.1, nh_X12.2, pd_3⟩
theorem cw_X12_296 : CWV RX12 296 RX12 yX12_anOrder cX12_anOrder 2 (some .boolean) 0 := cwv ml_X12_296 im_X12_anOrder se_X12_anOrder in_X12 co_X12_anOrder ⟨rfl, nh_X12.1, nh_X12.2, pd_3⟩
theorem cw_X12_302 : CWV RX12 302 RX12 yX12_readsPlan cX12_readsPlan 2 (some .boolean) 0 := cwv ml_X12_302 im_X12_readsPlan se_X12_readsPlan in_X12 co_X12_readsPlan ⟨rfl, nh_X12.1, nh_X12.2, pd_3⟩
theorem cw_X12_305 : CWV RX12 305 RX12 yX12_readsLaw cX12_readsLaw 2 (some .boolean) 0 := cwv ml_X12_305 im_X12_readsLaw se_X12_readsLaw in_X12 co_X12_readsLaw ⟨rfl, nh_X12.1, nh_X12.2, pd_3⟩
theorem cw_X12_308 : CWV RX12 308 RX12 yX12_putsPlan cX12_putsPlan 3 (some .int) 1 := cwv ml_X12_308 im_X12_putsPlan se_X12_putsPlan in_X12 co_X12_putsPlan ⟨rfl, nh_X12.1, nh_X12.2, pd_4⟩
theorem cw_X12_311 : CWV RX12 311 RX12 yX12_putsLaw cX12_putsLaw 3 (some .int) 1 := cwv ml_X12_311 im_X12_putsLaw se_X12_putsLaw in_X12 co_X12_putsLaw ⟨rfl, nh_X12.1, nh_X12.2, pd_4⟩
theorem cw_X12_314 : CWS RX12 314 yX12_both cX12_both 3 (some .int) 3 := cws ml_X12_314 st_X12_both in_X12 co_X12_both ⟨rfl, nh_X12.1, nh_X12.2, pd_19⟩
theorem cw_X12_318 : CWV RX12 318 RX12 yX12_comesTo cX12_comesTo 8 (some .int) 3 := cwv ml_X12_318 im_X12_comesTo se_X12_comesTo in_X12 co_X12_comesTo ⟨rfl, nh_X12.1, nh_X12.2, pd_19⟩
theorem cw_X12_321 : CWS RX12 321 yX12_held cX12_held 3 (some .int) 3 := cws ml_X12_321 st_X12_held in_X12 co_X12_held ⟨rfl, nh_X12.1, nh_X12.2, pd_19⟩
theorem cw_X12_324 : CWV RX12 324 RX12 yX12_own cX12_own 3 (some .int) 2 := cwv ml_X12_324 im_X12_own se_X12_own in_X12 co_X12_own ⟨rfl, nh_X12.1, nh_X12.2, pd_2⟩
theorem cw_X12_327 : CWV RX12 327 RX12 yX12_lawSays cX12_lawSays 6 (some .int) 4 := cwv ml_X12_327 im_X12_lawSays se_X12_lawSays in_X12 co_X12_lawSays ⟨rfl, nh_X12.1, nh_X12.2, pd_44⟩
theorem cw_X12_332 : CWS RX12 332 yX12_sine cX12_sine 1 (some .int) 1 := cws ml_X12_332 st_X12_sine in_X12 co_X12_sine ⟨rfl, nh_X12.1, nh_X12.2, pd_4⟩
theorem cw_X12_358 : CWV RX12 358 RX12 yX12_begins cX12_begins 4 none 3 := cwv ml_X12_358 im_X12_begins se_X12_begins in_X12 co_X12_begins ⟨rfl, nh_X12.1, nh_X12.2, pd_17⟩
theorem cw_X12_361 : CWV RX12 361 RX12 yX12_ticksOn cX12_ticksOn 4 none 3 := cwv ml_X12_361 im_X12_ticksOn se_X12_ticksOn in_X12 co_X12_ticksOn ⟨rfl, nh_X12.1, nh_X12.2, pd_17⟩
theorem cw_X12_364 : CWV RX12 364 RX12 yX12_weather cX12_weather 2 (some .int) 1 := cwv ml_X12_364 im_X12_weather se_X12_weather in_X12 co_X12_weather ⟨rfl, nh_X12.1, nh_X12.2, pd_4⟩
theorem cw_X12_367 : CWV RX12 367 RX12 yX12_landed cX12_landed 1 (some .int) 0 := cwv ml_X12_367 im_X12_landed se_X12_landed in_X12 co_X12_landed ⟨rfl, nh_X12.1, nh_X12.2, pd_27⟩
theorem cw_X12_370 : CWV RX12 370 RX12 yX12_isInSector cX12_isInSector 1 (some .boolean) 0 := cwv ml_X12_370 im_X12_isInSector se_X12_isInSector in_X12 co_X12_isInSector ⟨rfl, nh_X12.1, nh_X12.2, pd_3⟩
theorem cw_X12_373 : CWV RX12 373 RX12 yX12_draw cX12_draw 2 (some .int) 1 := cwv ml_X12_373 im_X12_draw se_X12_draw in_X12 co_X12_draw ⟨rfl, nh_X12.1, nh_X12.2, pd_4⟩
theorem cw_X12_376 : CWV RX12 376 RX12 yX12_armFacts cX12_armFacts 7 none 6 := cwv ml_X12_376 im_X12_armFacts se_X12_armFacts in_X12 co_X12_armFacts ⟨rfl, nh_X12.1, nh_X12.2, pd_22⟩
theorem cw_X12_380 : CWV RX12 380 RX12 yX12_overOf cX12_overOf 1 (some .int) 0 := cwv ml_X12_380 im_X12_overOf se_X12_overOf in_X12 co_X12_overOf ⟨rfl, nh_X12.1, nh_X12.2, pd_27⟩
theorem cw_X12_383 : CWV RX12 383 RX12 yX12_wearOf cX12_wearOf 1 (some .int) 0 := cwv ml_X12_383 im_X12_wearOf se_X12_wearOf in_X12 co_X12_wearOf ⟨rfl, nh_X12.1, nh_X12.2, pd_27⟩
theorem cw_X12_386 : CWV RX12 386 RX12 yX12_slipped cX12_slipped 3 (some .int) 2 := cwv ml_X12_386 im_X12_slipped se_X12_slipped in_X12 co_X12_slipped ⟨rfl, nh_X12.1, nh_X12.2, pd_2⟩
theorem cw_X12_389 : CWV RX12 389 RX12 yX12_flies cX12_flies 7 none 6 := cwv ml_X12_389 im_X12_flies se_X12_flies in_X12 co_X12_flies ⟨rfl, nh_X12.1, nh_X12.2, pd_22⟩
theorem cw_X12_392 : CWV RX12 392 RX12 yX12_notes cX12_notes 8 none 6 := cwv ml_X12_392 im_X12_notes se_X12_notes in_X12 co_X12_notes ⟨rfl, nh_X12.1, nh_X12.2, pd_22⟩
theorem cw_X12_395 : CWV RX12 395 RX12 yX12_nextTurn cX12_nextTurn 1 none 0 := cwv ml_X12_395 im_X12_nextTurn se_X12_nextTurn in_X12 co_X12_nextTurn ⟨rfl, nh_X12.1, nh_X12.2, pd_0⟩
theorem cw_X12_398 : CWV RX12 398 RX12 yX12_isOn cX12_isOn 1 (some .boolean) 0 := cwv ml_X12_398 im_X12_isOn se_X12_isOn in_X12 co_X12_isOn ⟨rfl, nh_X12.1, nh_X12.2, pd_3⟩
theorem cw_X12_401 : CWV RX12 401 RX12 yX12_isSpear cX12_isSpear 2 (some .boolean) 1 := cwv ml_X12_401 im_X12_isSpear se_X12_isSpear in_X12 co_X12_isSpear ⟨rfl, nh_X12.1, nh_X12.2, pd_10⟩
theorem cw_X12_404 : CWV RX12 404 RX12 yX12_keeps cX12_keeps 2 none 0 := cwv ml_X12_404 im_X12_keeps se_X12_keeps in_X12 co_X12_keeps ⟨rfl, nh_X12.1, nh_X12.2, pd_0⟩
theorem cw_X12_407 : CWV RX12 407 RX12 yX12_throwsIt cX12_throwsIt 13 (some .int) 4 := cwv ml_X12_407 im_X12_throwsIt se_X12_throwsIt in_X12 co_X12_throwsIt ⟨rfl, nh_X12.1, nh_X12.2, pd_44⟩
theorem cw_X12_410 : CWV RX12 410 RX12 yX12_passesBy cX12_passesBy 4 (some .boolean) 3 := cwv ml_X12_410 im_X12_passesBy se_X12_passesBy in_X12 co_X12_passesBy ⟨rfl, nh_X12.1, nh_X12.2, pd_1⟩
theorem cw_X12_413 : CWV RX12 413 RX12 yX12_goesOn cX12_goesOn 5 (some .boolean) 0 := cwv ml_X12_413 im_X12_goesOn se_X12_goesOn in_X12 co_X12_goesOn ⟨rfl, nh_X12.1, nh_X12.2, pd_3⟩
theorem cw_X12_416 : CWV RX12 416 RX12 yX12_rank cX12_rank 4 (some .int) 1 := cwv ml_X12_416 im_X12_rank se_X12_rank in_X12 co_X12_rank ⟨rfl, nh_X12.1, nh_X12.2, pd_4⟩
theorem cw_X12_419 : CWV RX12 419 RX12 yX12_needs cX12_needs 4 (some .int) 1 := cwv ml_X12_419 im_X12_needs se_X12_needs in_X12 co_X12_needs ⟨rfl, nh_X12.1, nh_X12.2, pd_4⟩
theorem cw_X12_422 : CWV RX12 422 RX12 yX12_ruled cX12_ruled 5 (some .int) 1 := cwv ml_X12_422 im_X12_ruled se_X12_ruled in_X12 co_X12_ruled ⟨rfl, nh_X12.1, nh_X12.2, pd_4⟩
theorem cw_X12_425 : CWV RX12 425 RX12 yX12_isGood cX12_isGood 1 (some .boolean) 0 := cwv ml_X12_425 im_X12_isGood se_X12_isGood in_X12 co_X12_isGood ⟨rfl, nh_X12.1, nh_X12.2, pd_3⟩
theorem cw_X12_434 : CWV RX12 434 RX12 yX12_goodFar cX12_goodFar 5 (some .int) 4 := cwv ml_X12_434 im_X12_goodFar se_X12_goodFar in_X12 co_X12_goodFar ⟨rfl, nh_X12.1, nh_X12.2, pd_44⟩
theorem cw_X12_437 : CWV RX12 437 RX12 yX12_safeFar cX12_safeFar 7 (some .int) 4 := cwv ml_X12_437 im_X12_safeFar se_X12_safeFar in_X12 co_X12_safeFar ⟨rfl, nh_X12.1, nh_X12.2, pd_44⟩
theorem cw_X12_440 : CWS RX12 440 yX12_isForce cX12_isForce 1 (some .boolean) 1 := cws ml_X12_440 st_X12_isForce in_X12 co_X12_isForce ⟨rfl, nh_X12.1, nh_X12.2, pd_10⟩
theorem cw_X12_443 : CWS RX12 443 yX12_isWind cX12_isWind 1 (some .boolean) 1 := cws ml_X12_443 st_X12_isWind in_X12 co_X12_isWind ⟨rfl, nh_X12.1, nh_X12.2, pd_10⟩
theorem cw_X12_446 : CWV RX12 446 RX12 yX12_laysAngle cX12_laysAngle 6 none 3 := cwv ml_X12_446 im_X12_laysAngle se_X12_laysAngle in_X12 co_X12_laysAngle ⟨rfl, nh_X12.1, nh_X12.2, pd_17⟩
theorem cw_X12_449 : CWV RX12 449 RX12 yX12_laysSafe cX12_laysSafe 6 none 3 := cwv ml_X12_449 im_X12_laysSafe se_X12_laysSafe in_X12 co_X12_laysSafe ⟨rfl, nh_X12.1, nh_X12.2, pd_17⟩
theorem cw_X12_460 : CWV RX12 460 RX12 yX12_laysMark cX12_laysMark 7 none 3 := cwv ml_X12_460 im_X12_laysMark se_X12_laysMark in_X12 co_X12_laysMark ⟨rfl, nh_X12.1, nh_X12.2, pd_17⟩
theorem cw_X12_463 : CWV RX12 463 RX12 yX12_isLine cX12_isLine 2 (some .boolean) 1 := cwv ml_X12_463 im_X12_isLine se_X12_isLine in_X12 co_X12_isLine ⟨rfl, nh_X12.1, nh_X12.2, pd_10⟩
theorem cw_X12_466 : CWV RX12 466 RX12 yX12_isMeant cX12_isMeant 5 none 0 := cwv ml_X12_466 im_X12_isMeant se_X12_isMeant in_X12 co_X12_isMeant ⟨rfl, nh_X12.1, nh_X12.2, pd_0⟩
theorem cw_X12_473 : CWV RX12 473 RX12 yX12_trains cX12_trains 11 (some .int) 5 := cwv ml_X12_473 im_X12_trains se_X12_trains in_X12 co_X12_trains ⟨rfl, nh_X12.1, nh_X12.2, pd_45⟩
theorem cw_X12_477 : CWV RX12 477 RX12 yX12_trained cX12_trained 8 (some .int) 4 := cwv ml_X12_477 im_X12_trained se_X12_trained in_X12 co_X12_trained ⟨rfl, nh_X12.1, nh_X12.2, pd_44⟩
theorem cw_X12_481 : CWV RX12 481 RX12 yX12_chanceBy cX12_chanceBy 15 (some .int) 5 := cwv ml_X12_481 im_X12_chanceBy se_X12_chanceBy in_X12 co_X12_chanceBy ⟨rfl, nh_X12.1, nh_X12.2, pd_45⟩
theorem cw_X12_486 : CWV RX12 486 RX12 yX12_laysReached cX12_laysReached 6 none 3 := cwv ml_X12_486 im_X12_laysReached se_X12_laysReached in_X12 co_X12_laysReached ⟨rfl, nh_X12.1, nh_X12.2, pd_17⟩
theorem rS_0 {p : Program} {s : State} {m : MethodId} {args : Array Value} {c : Code} {own : String} {cc : ByteArray} {nL : Nat} {Z : pZ} (G : Cx p s m args c own cc nL Z) : vk_R RX11 108 "when or and not lift drag dip drift fore up height pitch wind side soft tip tick" (zs Z 0) s := G.2.2.2.2.2.2 (RX11, 108, "when or and not lift drag dip drift fore up height pitch wind side soft tip tick", 0) (by decide +kernel)
theorem rS_1 {p : Program} {s : State} {m : MethodId} {args : Array Value} {c : Code} {own : String} {cc : ByteArray} {nL : Nat} {Z : pZ} (G : Cx p s m args c own cc nL Z) : vk_R RX11 122 "when or and not over wear mend force pace angle wearing power thrown best round" (zs Z 1) s := G.2.2.2.2.2.2 (RX11, 122, "when or and not over wear mend force pace angle wearing power thrown best round", 1) (by decide +kernel)
theorem rS_2 {p : Program} {s : State} {m : MethodId} {args : Array Value} {c : Code} {own : String} {cc : ByteArray} {nL : Nat} {Z : pZ} (G : Cx p s m args c own cc nL Z) : vk_R RX11 134 "when or and not gain cost balls power wearing week" (zs Z 2) s := G.2.2.2.2.2.2 (RX11, 134, "when or and not gain cost balls power wearing week", 2) (by decide +kernel)
theorem rS_3 {p : Program} {s : State} {m : MethodId} {args : Array Value} {c : Code} {own : String} {cc : ByteArray} {nL : Nat} {Z : pZ} (G : Cx p s m args c own cc nL Z) : vk_R RX5 113 "throw at with pace below pass" (zs Z 3) s := G.2.2.2.2.2.2 (RX5, 113, "throw at with pace below pass", 3) (by decide +kernel)
theorem rS_4 {p : Program} {s : State} {m : MethodId} {args : Array Value} {c : Code} {own : String} {cc : ByteArray} {nL : Nat} {Z : pZ} (G : Cx p s m args c own cc nL Z) : vk_R RX12 117 "lift" (zs Z 4) s := G.2.2.2.2.2.2 (RX12, 117, "lift", 4) (by decide +kernel)
theorem rS_5 {p : Program} {s : State} {m : MethodId} {args : Array Value} {c : Code} {own : String} {cc : ByteArray} {nL : Nat} {Z : pZ} (G : Cx p s m args c own cc nL Z) : vk_R RX12 123 "drag" (zs Z 5) s := G.2.2.2.2.2.2 (RX12, 123, "drag", 5) (by decide +kernel)
theorem rS_6 {p : Program} {s : State} {m : MethodId} {args : Array Value} {c : Code} {own : String} {cc : ByteArray} {nL : Nat} {Z : pZ} (G : Cx p s m args c own cc nL Z) : vk_R RX12 125 "dip" (zs Z 6) s := G.2.2.2.2.2.2 (RX12, 125, "dip", 6) (by decide +kernel)
theorem rS_7 {p : Program} {s : State} {m : MethodId} {args : Array Value} {c : Code} {own : String} {cc : ByteArray} {nL : Nat} {Z : pZ} (G : Cx p s m args c own cc nL Z) : vk_R RX12 127 "drift" (zs Z 7) s := G.2.2.2.2.2.2 (RX12, 127, "drift", 7) (by decide +kernel)
theorem rS_8 {p : Program} {s : State} {m : MethodId} {args : Array Value} {c : Code} {own : String} {cc : ByteArray} {nL : Nat} {Z : pZ} (G : Cx p s m args c own cc nL Z) : vk_R RX12 129 "fore" (zs Z 8) s := G.2.2.2.2.2.2 (RX12, 129, "fore", 8) (by decide +kernel)
theorem rS_9 {p : Program} {s : State} {m : MethodId} {args : Array Value} {c : Code} {own : String} {cc : ByteArray} {nL : Nat} {Z : pZ} (G : Cx p s m args c own cc nL Z) : vk_R RX12 131 "up" (zs Z 9) s := G.2.2.2.2.2.2 (RX12, 131, "up", 9) (by decide +kernel)
theorem rS_10 {p : Program} {s : State} {m : MethodId} {args : Array Value} {c : Code} {own : String} {cc : ByteArray} {nL : Nat} {Z : pZ} (G : Cx p s m args c own cc nL Z) : vk_R RX12 133 "height" (zs Z 10) s := G.2.2.2.2.2.2 (RX12, 133, "height", 10) (by decide +kernel)
theorem rS_11 {p : Program} {s : State} {m : MethodId} {args : Array Value} {c : Code} {own : String} {cc : ByteArray} {nL : Nat} {Z : pZ} (G : Cx p s m args c own cc nL Z) : vk_R RX12 135 "pitch" (zs Z 11) s := G.2.2.2.2.2.2 (RX12, 135, "pitch", 11) (by decide +kernel)
theorem rS_12 {p : Program} {s : State} {m : MethodId} {args : Array Value} {c : Code} {own : String} {cc : ByteArray} {nL : Nat} {Z : pZ} (G : Cx p s m args c own cc nL Z) : vk_R RX12 137 "wind" (zs Z 12) s := G.2.2.2.2.2.2 (RX12, 137, "wind", 12) (by decide +kernel)
theorem rS_13 {p : Program} {s : State} {m : MethodId} {args : Array Value} {c : Code} {own : String} {cc : ByteArray} {nL : Nat} {Z : pZ} (G : Cx p s m args c own cc nL Z) : vk_R RX12 139 "side" (zs Z 13) s := G.2.2.2.2.2.2 (RX12, 139, "side", 13) (by decide +kernel)
theorem rS_14 {p : Program} {s : State} {m : MethodId} {args : Array Value} {c : Code} {own : String} {cc : ByteArray} {nL : Nat} {Z : pZ} (G : Cx p s m args c own cc nL Z) : vk_R RX12 141 "soft" (zs Z 14) s := G.2.2.2.2.2.2 (RX12, 141, "soft", 14) (by decide +kernel)
theorem rS_15 {p : Program} {s : State} {m : MethodId} {args : Array Value} {c : Code} {own : String} {cc : ByteArray} {nL : Nat} {Z : pZ} (G : Cx p s m args c own cc nL Z) : vk_R RX12 143 "tip" (zs Z 15) s := G.2.2.2.2.2.2 (RX12, 143, "tip", 15) (by decide +kernel)
theorem rS_16 {p : Program} {s : State} {m : MethodId} {args : Array Value} {c : Code} {own : String} {cc : ByteArray} {nL : Nat} {Z : pZ} (G : Cx p s m args c own cc nL Z) : vk_R RX12 145 "tick" (zs Z 16) s := G.2.2.2.2.2.2 (RX12, 145, "tick", 16) (by decide +kernel)
theorem rS_17 {p : Program} {s : State} {m : MethodId} {args : Array Value} {c : Code} {own : String} {cc : ByteArray} {nL : Nat} {Z : pZ} (G : Cx p s m args c own cc nL Z) : vk_R RX12 147 "over" (zs Z 17) s := G.2.2.2.2.2.2 (RX12, 147, "over", 17) (by decide +kernel)
theorem rS_18 {p : Program} {s : State} {m : MethodId} {args : Array Value} {c : Code} {own : String} {cc : ByteArray} {nL : Nat} {Z : pZ} (G : Cx p s m args c own cc nL Z) : vk_R RX12 149 "wear" (zs Z 18) s := G.2.2.2.2.2.2 (RX12, 149, "wear", 18) (by decide +kernel)
theorem rS_19 {p : Program} {s : State} {m : MethodId} {args : Array Value} {c : Code} {own : String} {cc : ByteArray} {nL : Nat} {Z : pZ} (G : Cx p s m args c own cc nL Z) : vk_R RX12 151 "mend" (zs Z 19) s := G.2.2.2.2.2.2 (RX12, 151, "mend", 19) (by decide +kernel)
theorem rS_20 {p : Program} {s : State} {m : MethodId} {args : Array Value} {c : Code} {own : String} {cc : ByteArray} {nL : Nat} {Z : pZ} (G : Cx p s m args c own cc nL Z) : vk_R RX12 153 "force" (zs Z 20) s := G.2.2.2.2.2.2 (RX12, 153, "force", 20) (by decide +kernel)
theorem rS_21 {p : Program} {s : State} {m : MethodId} {args : Array Value} {c : Code} {own : String} {cc : ByteArray} {nL : Nat} {Z : pZ} (G : Cx p s m args c own cc nL Z) : vk_R RX12 155 "pace" (zs Z 21) s := G.2.2.2.2.2.2 (RX12, 155, "pace", 21) (by decide +kernel)
theorem rS_22 {p : Program} {s : State} {m : MethodId} {args : Array Value} {c : Code} {own : String} {cc : ByteArray} {nL : Nat} {Z : pZ} (G : Cx p s m args c own cc nL Z) : vk_R RX12 157 "angle" (zs Z 22) s := G.2.2.2.2.2.2 (RX12, 157, "angle", 22) (by decide +kernel)
theorem rS_23 {p : Program} {s : State} {m : MethodId} {args : Array Value} {c : Code} {own : String} {cc : ByteArray} {nL : Nat} {Z : pZ} (G : Cx p s m args c own cc nL Z) : vk_R RX12 159 "wearing" (zs Z 23) s := G.2.2.2.2.2.2 (RX12, 159, "wearing", 23) (by decide +kernel)
theorem rS_24 {p : Program} {s : State} {m : MethodId} {args : Array Value} {c : Code} {own : String} {cc : ByteArray} {nL : Nat} {Z : pZ} (G : Cx p s m args c own cc nL Z) : vk_R RX12 161 "power" (zs Z 24) s := G.2.2.2.2.2.2 (RX12, 161, "power", 24) (by decide +kernel)
theorem rS_25 {p : Program} {s : State} {m : MethodId} {args : Array Value} {c : Code} {own : String} {cc : ByteArray} {nL : Nat} {Z : pZ} (G : Cx p s m args c own cc nL Z) : vk_R RX12 163 "thrown" (zs Z 25) s := G.2.2.2.2.2.2 (RX12, 163, "thrown", 25) (by decide +kernel)
theorem rS_26 {p : Program} {s : State} {m : MethodId} {args : Array Value} {c : Code} {own : String} {cc : ByteArray} {nL : Nat} {Z : pZ} (G : Cx p s m args c own cc nL Z) : vk_R RX12 165 "best" (zs Z 26) s := G.2.2.2.2.2.2 (RX12, 165, "best", 26) (by decide +kernel)
theorem rS_27 {p : Program} {s : State} {m : MethodId} {args : Array Value} {c : Code} {own : String} {cc : ByteArray} {nL : Nat} {Z : pZ} (G : Cx p s m args c own cc nL Z) : vk_R RX12 167 "round" (zs Z 27) s := G.2.2.2.2.2.2 (RX12, 167, "round", 27) (by decide +kernel)
theorem rS_28 {p : Program} {s : State} {m : MethodId} {args : Array Value} {c : Code} {own : String} {cc : ByteArray} {nL : Nat} {Z : pZ} (G : Cx p s m args c own cc nL Z) : vk_R RX12 169 "gain" (zs Z 28) s := G.2.2.2.2.2.2 (RX12, 169, "gain", 28) (by decide +kernel)
theorem rS_29 {p : Program} {s : State} {m : MethodId} {args : Array Value} {c : Code} {own : String} {cc : ByteArray} {nL : Nat} {Z : pZ} (G : Cx p s m args c own cc nL Z) : vk_R RX12 171 "cost" (zs Z 29) s := G.2.2.2.2.2.2 (RX12, 171, "cost", 29) (by decide +kernel)
theorem rS_30 {p : Program} {s : State} {m : MethodId} {args : Array Value} {c : Code} {own : String} {cc : ByteArray} {nL : Nat} {Z : pZ} (G : Cx p s m args c own cc nL Z) : vk_R RX12 173 "balls" (zs Z 30) s := G.2.2.2.2.2.2 (RX12, 173, "balls", 30) (by decide +kernel)
theorem rS_31 {p : Program} {s : State} {m : MethodId} {args : Array Value} {c : Code} {own : String} {cc : ByteArray} {nL : Nat} {Z : pZ} (G : Cx p s m args c own cc nL Z) : vk_R RX12 175 "week" (zs Z 31) s := G.2.2.2.2.2.2 (RX12, 175, "week", 31) (by decide +kernel)
theorem rS_32 {p : Program} {s : State} {m : MethodId} {args : Array Value} {c : Code} {own : String} {cc : ByteArray} {nL : Nat} {Z : pZ} (G : Cx p s m args c own cc nL Z) : vk_R RX12 177 "throw" (zs Z 32) s := G.2.2.2.2.2.2 (RX12, 177, "throw", 32) (by decide +kernel)
theorem rS_33 {p : Program} {s : State} {m : MethodId} {args : Array Value} {c : Code} {own : String} {cc : ByteArray} {nL : Nat} {Z : pZ} (G : Cx p s m args c own cc nL Z) : vk_R RX12 179 "pass" (zs Z 33) s := G.2.2.2.2.2.2 (RX12, 179, "pass", 33) (by decide +kernel)
theorem rS_34 {p : Program} {s : State} {m : MethodId} {args : Array Value} {c : Code} {own : String} {cc : ByteArray} {nL : Nat} {Z : pZ} (G : Cx p s m args c own cc nL Z) : vk_R RX12 181 "at" (zs Z 34) s := G.2.2.2.2.2.2 (RX12, 181, "at", 34) (by decide +kernel)
theorem rS_35 {p : Program} {s : State} {m : MethodId} {args : Array Value} {c : Code} {own : String} {cc : ByteArray} {nL : Nat} {Z : pZ} (G : Cx p s m args c own cc nL Z) : vk_R RX12 182 "with" (zs Z 35) s := G.2.2.2.2.2.2 (RX12, 182, "with", 35) (by decide +kernel)
theorem rS_36 {p : Program} {s : State} {m : MethodId} {args : Array Value} {c : Code} {own : String} {cc : ByteArray} {nL : Nat} {Z : pZ} (G : Cx p s m args c own cc nL Z) : vk_R RX12 184 "below" (zs Z 36) s := G.2.2.2.2.2.2 (RX12, 184, "below", 36) (by decide +kernel)
theorem rS_37 {p : Program} {s : State} {m : MethodId} {args : Array Value} {c : Code} {own : String} {cc : ByteArray} {nL : Nat} {Z : pZ} (G : Cx p s m args c own cc nL Z) : vk_R RX12 192 "when" (zs Z 37) s := G.2.2.2.2.2.2 (RX12, 192, "when", 37) (by decide +kernel)
theorem rS_38 {p : Program} {s : State} {m : MethodId} {args : Array Value} {c : Code} {own : String} {cc : ByteArray} {nL : Nat} {Z : pZ} (G : Cx p s m args c own cc nL Z) : vk_R RX12 194 "or" (zs Z 38) s := G.2.2.2.2.2.2 (RX12, 194, "or", 38) (by decide +kernel)
theorem rS_39 {p : Program} {s : State} {m : MethodId} {args : Array Value} {c : Code} {own : String} {cc : ByteArray} {nL : Nat} {Z : pZ} (G : Cx p s m args c own cc nL Z) : vk_R RX12 196 "and" (zs Z 39) s := G.2.2.2.2.2.2 (RX12, 196, "and", 39) (by decide +kernel)
theorem rS_40 {p : Program} {s : State} {m : MethodId} {args : Array Value} {c : Code} {own : String} {cc : ByteArray} {nL : Nat} {Z : pZ} (G : Cx p s m args c own cc nL Z) : vk_R RX12 198 "not" (zs Z 40) s := G.2.2.2.2.2.2 (RX12, 198, "not", 40) (by decide +kernel)
theorem vin_lt {i : Int32} {n : Nat} (h : vp_in i n) : i.toNatClampNeg < n := Nat.not_le.mp fun q => h (Or.inr q)
theorem sw_out {x : Int32} {lo hi : Int} (cs : List Int32) (hc : (List.range (hi - lo + 1).toNat).all (fun (i : Nat) => cs.any (fun c => decide (c.toInt = lo + (i : Int)))) = true) (h : ∀ c ∈ cs, ¬ x = c) : x.toInt < lo ∨ hi < x.toInt := by
  by_cases h1 : x.toInt < lo
  · exact Or.inl h1
  · by_cases h2 : hi < x.toInt
    · exact Or.inr h2
    · exfalso
      have h3 := List.all_eq_true.mp hc (x.toInt - lo).toNat (List.mem_range.mpr (by omega))
      obtain ⟨c, hc1, hc2⟩ := List.any_eq_true.mp h3
      have h4 := of_decide_eq_true hc2
      exact h c hc1 (Int32.toInt_inj.mp (by omega))
/-- what a literal holds -/
def strlen (i : Nat) : Int32 := nI (litLen.getD i 0)
def strch (i k : Nat) : Int32 := (litByt.getD i []).getD k 0
section PN
variable {p : Program} {l : Launch} {e : Env} {R : Room} {s : State} {m : MethodId} {args : Array Value} {below : List Frame} {meth : Method} {c : Code} {H : Heap} {locs : List Loc} {cells slots : Nat} {Q : State → Prop}
variable {cc cy : ByteArray} {pc nL mL fr lo index n ci N k k1 j : Nat} {ls : Array Slot} {rest st0 As av : List Value} {Z : pZ} {S S2 : pS} {own C : String}
/-- arraycopy of a whole int array over another of its length -/
theorem xcpy (G : Cx p s m args c own cc nL Z) (hw : Wd Z s S H locs) (hls : ls.size = nL) (h0 : isA Z (.inl (0, n)) k) (h1 : isA Z (.inl (0, n)) k1) (hlk : Cond.methodLink own index arraycopyName ∈ wsG) (hlo : (rest.map fun v => v.category).sum + (nativeFrameWords "java/lang/System" "arraycopy" 5 + 11) ≤ R.locals) (hfr : 1 ≤ R.frames) {z : Int32} (hz : ¬ z < 0) (hn : z.toNatClampNeg = n) (hff : n < 2 ^ 31) (hS2 : S2 = sR S k1 (va_cpy (S k) (S k1) 0 0 n)) (hdg : decode cc pc = .ok (.invokestatic index, 3))
    (kk : ∀ (H1 : Heap) (locs1 : List Loc), Wd Z s S2 H1 locs1 → W p l e R s m args below meth c H1 locs1 cells slots Q (F0 m (pc + 3) ls rest)) : W p l e R s m args below meth c H locs cells slots Q (F0 m pc ls (.int z :: .int 0 :: .ref (za Z k1) :: .int 0 :: .ref (za Z k) :: rest)) := by
  obtain ⟨⟨hx, hb, hml, hown, hts⟩, hK, -⟩ := G
  obtain ⟨i0, -, hi0⟩ := pW_at h0.2
  have he0 := hi0 S
  rw [pcel_a h0.1] at he0
  obtain ⟨i1, hiL, hi1⟩ := pW_at h1.2
  have he1 := hi1 S
  rw [pcel_a h1.1] at he1
  have z0 : (0 : Int32).toNatClampNeg = 0 := by decide
  subst hn
  refine va_copyi hx hb (hml.trans hls.symm) hown (hts _ hlk) (hts _ nt_arraycopy) (hts _ st_arraycopy) (hts _ in_J10) hK hw.1 hw.2.1 hw.2.2 i0 i1 0 0 (f := S k) (g := S k1) he0 he1 rfl rfl rfl (by decide) (by decide) hz (by rw [z0]; omega) (by rw [z0]; omega) (fun i _ => rfl) hfr hlo hdg (fun H1 locs1 hP hD hS1 => kk H1 locs1 ?_)
  rw [pW_set hw.2.1 hiL (S' := S2) (fun k' hk' => by rw [hS2]; exact sR_ne hk') (by rw [pcel_a h1.1, hS2, sR_at, z0]; rfl)] at hP hD
  exact ⟨hP, hD, hS1⟩
theorem kTi {rt : FieldType} {y : MethodName} (G : Cx p s m args c own cc nL Z) (hw : Wd Z s S H locs) {r : Int32} (hM : CI l Z y cy mL rt fr lo As S r S2) (hcw : CWT own index y cy mL (some rt) n) (hR : fr + 1 ≤ R.frames ∧ 8 + (mL + 11) + lo ≤ R.locals) (hn : As.length = n) (hls : ls.size = nL) (hst : st0 = As.reverse ++ rest) (hrm : (rest.map fun v => v.category).sum ≤ 8) (hcs : cells + 0 ≤ R.cells ∧ slots + 0 ≤ R.slots) (hdg : decode cc pc = .ok (.invokestatic index, 3))
    (kk : ∀ (H1 : Heap) (locs1 : List Loc), Wd Z s S2 H1 locs1 → W p l e R s m args below meth c H1 locs1 cells slots Q (F0 m (pc + 3) ls (.int r :: rest))) : W p l e R s m args below meth c H locs cells slots Q (F0 m pc ls st0) := by
  refine va_calli (va_runS (rest := rest) G.1 (hM H.size) (va_cwS n G.1.2.2.2.2 hcw.1 rfl rfl rfl hcw.2 hR) (preS G hw) rfl hn hls hst (lv_room hrm) hdg hcs) hw.2.2 (fun q _ hq => pA_mono hw.2.2.1 hq) (fun q hq => pA_mono hw.2.2.1 hq) (fun r' u t H1 locs1 ht hvm hr hB hz hk1 hS1 => ?_)
  subst hr
  exact kk H1 locs1 (Wd_call hw (by rw [← ht]; exact hB) hS1)
theorem kTv {y : MethodName} (G : Cx p s m args c own cc nL Z) (hw : Wd Z s S H locs) (hM : CV l Z y cy mL fr lo As S S2) (hcw : CWT own index y cy mL none n) (hR : fr + 1 ≤ R.frames ∧ 8 + (mL + 11) + lo ≤ R.locals) (hn : As.length = n) (hls : ls.size = nL) (hst : st0 = As.reverse ++ rest) (hrm : (rest.map fun v => v.category).sum ≤ 8) (hcs : cells + 0 ≤ R.cells ∧ slots + 0 ≤ R.slots) (hdg : decode cc pc = .ok (.invokestatic index, 3))
    (kk : ∀ (H1 : Heap) (locs1 : List Loc), Wd Z s S2 H1 locs1 → W p l e R s m args below meth c H1 locs1 cells slots Q (F0 m (pc + 3) ls rest)) : W p l e R s m args below meth c H locs cells slots Q (F0 m pc ls st0) := by
  refine va_callv (va_runS (rest := rest) G.1 (hM H.size) (va_cwS n G.1.2.2.2.2 hcw.1 rfl rfl rfl hcw.2 hR) (preS G hw) rfl hn hls hst (lv_room hrm) hdg hcs) hw.2.2 (fun q _ hq => pA_mono hw.2.2.1 hq) (fun q hq => pA_mono hw.2.2.1 hq) (fun u t H1 locs1 ht hvm hr hB hz hk1 hS1 => ?_)
  exact kk H1 locs1 (Wd_call hw (by rw [← ht]; exact hB) hS1)
end PN
/-- the room of depth d -/
def rF (b : Nat) : Nat → Nat | 0 => b | d + 1 => rF b d + 1
def rL (b : Nat) : Nat → Nat | 0 => b | d + 1 => rL b d + 60
theorem rF_le (b : Nat) : ∀ d, b ≤ rF b d
  | 0 => Nat.le_refl _
  | d + 1 => Nat.le_trans (rF_le b d) (Nat.le_succ _)
theorem rL_le (b : Nat) : ∀ d, b ≤ rL b d
  | 0 => Nat.le_refl _
  | d + 1 => Nat.le_trans (rL_le b d) (Nat.le_add_right _ _)
theorem vrc (o : Option Nat) : (va_rf o).category = 1 := by cases o <;> rfl
/-! the String constants' own methods -/
theorem lit_ok : ∀ i, i < litN → (litLen.getD i 0 < 2 ^ 31 ∧ ∀ k, k < litLen.getD i 0 → (((((litByt.getD i []).getD k 0) &&& 255).toUInt32 % 65536).toInt32 = (litByt.getD i []).getD k 0 ∧ narrow .char (.int ((litByt.getD i []).getD k 0)) = .int ((litByt.getD i []).getD k 0))) := by decide +kernel
section PJ
variable {p : Program} {l : Launch} {e : Env} {R : Room} {s : State} {m : MethodId} {args : Array Value} {below : List Frame} {meth : Method} {c : Code} {H : Heap} {locs : List Loc} {cells slots : Nat} {Q : State → Prop}
variable {cc cy : ByteArray} {pc nL mL fr lo index n ci N k k1 j : Nat} {ls : Array Slot} {rest st0 As av : List Value} {Z : pZ} {S S2 : pS} {own C : String} {y : MethodName} {rt : FieldType}
/-- a method that answers an int of a narrower kind -/
theorem eN {r : Int32} (hy : plainName y.cls = true) (hcl : y.cls = own) (ha : (lg_sl av).length ≤ mL) (body : ∀ (p : Program) (e : Env) (s : State) (m : MethodId) (args : Array Value) (below : List Frame) (meth : Method) (c : Code) (Q : State → Prop) (ls : Array Slot), Cx p s m args c own cc mL Z → lv_has ls mL (lv_args 0 av) → Wd Z s S s.heap [] → (∀ (v : Int32) (pc : Nat) (ls : Array Slot) (H : Heap) (locs : List Loc), decode cc pc = .ok (.ireturn, 1) → narrow rt (.int v) = .int r → Wd Z s S2 H locs → W p l e { frames := fr, cells := 0, slots := 0, locals := lo } s m args below meth c H locs 0 0 Q (F0 m pc ls [.int v])) → W p l e { frames := fr, cells := 0, slots := 0, locals := lo } s m args below meth c s.heap [] 0 0 Q (F0 m 0 ls [])) : CI l Z y cc mL rt fr lo av S r S2 := by
  intro sz
  refine Met.ofW (cc := cc) (maxL := mL) (ret := some rt) hy rfl ?_
  intro p e s m args below meth c s₁ B hml hv
  obtain ⟨rfl, hsz, hWo⟩ := hv
  have hts := atoms_spec (ws := .code y cc mL (some rt) :: wsG) B.pre
  have hown : s.vm.findClass own = some m.cls := by rw [← hcl]; exact findClass_of_methodNamed B.named
  obtain ⟨ls, e1, e2⟩ := lv_in av mL ha
  rw [e1 m]
  refine body p e s m _ below meth c _ ls ⟨⟨B.exec, B.bytes, hml, hown, fun w hw => hts w (List.mem_cons_of_mem _ hw)⟩, hWo.2.1, hWo.2.2.2.1, hWo.2.2.2.2⟩ e2 (Wd_0 hsz hWo) ?_
  intro v pc ls H locs hd hr hw
  subst hsz
  exact zretN B.exec B.bytes B.returns hr (fun t ht hW => ⟨⟨r, (), rfl, rfl, by show va_P (zD Z) vwCl (pW Z S2) t.heap; rw [ht]; exact hw.1⟩, hw.2.2.F ht⟩) hw.2.2.2.2 hd B.notSynchronized
theorem preT (G : Cx p s m args c own cc nL Z) (hw : Wd Z s S H locs) {i : Nat} (hi : i < litN) : PreV s H "java/lang/String" (zs Z i) (va_Pc (.ref (zs Z i) :: As) (fun U => U.heap.size = H.size ∧ Wo Z S U)) As := ⟨blind, vk_recv G.2.2.2.1 hi hw.2.2, fun U hU hW => ⟨rfl, by rw [hU], Wo_of G hw hU hW⟩⟩
/-- a call of a literal's method -/
theorem kWi (G : Cx p s m args c own cc nL Z) (hw : Wd Z s S H locs) {i : Nat} (hi : i < litN) {r : Int32} (hM : CI l Z y cy mL rt fr lo (.ref (zs Z i) :: As) S r S2) (hcw : CWV own index "java/lang/String" y cy mL (some rt) n) (hR : fr + 1 ≤ R.frames ∧ 8 + (mL + 11) + lo ≤ R.locals) (hn : As.length = n) (hls : ls.size = nL) (hst : st0 = As.reverse ++ .ref (zs Z i) :: rest) (hrm : (rest.map fun v => v.category).sum ≤ 8) (hcs : cells + 0 ≤ R.cells ∧ slots + 0 ≤ R.slots) (hdg : decode cc pc = .ok (.invokevirtual index, 3))
    (kk : ∀ (H1 : Heap) (locs1 : List Loc), Wd Z s S2 H1 locs1 → W p l e R s m args below meth c H1 locs1 cells slots Q (F0 m (pc + 3) ls (.int r :: rest))) : W p l e R s m args below meth c H locs cells slots Q (F0 m pc ls st0) := by
  refine va_calli (va_runV (rest := rest) G.1 (hM H.size) (cwV n G.1.2.2.2.2 hcw.1 rfl rfl rfl hcw.2 hR) (preT G hw hi) rfl hn hls hst (lv_room hrm) hdg hcs) hw.2.2 (fun q _ hq => pA_mono hw.2.2.1 hq) (fun q hq => pA_mono hw.2.2.1 hq) (fun r' u t H1 locs1 ht hvm hr hB hz hk1 hS1 => ?_)
  subst hr
  exact kk H1 locs1 (Wd_call hw (by rw [← ht]; exact hB) hS1)
theorem nh_J0 : RJ0 ≠ "java/lang/invoke/MethodHandle" ∧ RJ0 ≠ "java/lang/invoke/VarHandle" := by decide +kernel
theorem nh_J1 : RJ1 ≠ "java/lang/invoke/MethodHandle" ∧ RJ1 ≠ "java/lang/invoke/VarHandle" := by decide +kernel
theorem nh_J3 : RJ3 ≠ "java/lang/invoke/MethodHandle" ∧ RJ3 ≠ "java/lang/invoke/VarHandle" := by decide +kernel
theorem cw_J0_335 : CWV RJ0 335 "java/lang/String" yJ0_coder_7d493 cJ0_coder_7d493 1 (some .byte) 0 := cwv ml_J0_335 im_J0_coder_7d493 se_J0_coder_7d493 in_J0 co_J0_coder_7d493 ⟨rfl, nh_J0.1, nh_J0.2, by decide +kernel⟩
theorem cw_J0_492 : CWV RJ0 492 "java/lang/String" yJ0_isLatin1_aae02 cJ0_isLatin1_aae02 1 (some .boolean) 0 := cwv ml_J0_492 im_J0_isLatin1_aae02 se_J0_isLatin1_aae02 in_J0 co_J0_isLatin1_aae02 ⟨rfl, nh_J0.1, nh_J0.2, by decide +kernel⟩
theorem cw_J0_495 : CWT RJ0 495 yJ1_charAt_3b067 cJ1_charAt_3b067 2 (some .char) 2 := cwt ml_J0_495 st_J1_charAt_3b067 in_J1 co_J1_charAt_3b067 ⟨nh_J1.1, nh_J1.2, by decide +kernel⟩
theorem cw_J1_9 : CWT RJ1 9 yJ0_checkIndex_df160 cJ0_checkIndex_df160 2 none 2 := cwt ml_J1_9 st_J0_checkIndex_df160 in_J0 co_J0_checkIndex_df160 ⟨nh_J0.1, nh_J0.2, by decide +kernel⟩
theorem cw_J0_1059 : CWT RJ0 1059 yJ3_checkIndex_8e157 cJ3_checkIndex_8e157 3 (some .int) 3 := cwt ml_J0_1059 st_J3_checkIndex_8e157 in_J3 co_J3_checkIndex_8e157 ⟨nh_J3.1, nh_J3.2, by decide +kernel⟩
theorem wJ0_coder (l : Launch) (Z : pZ) (S : pS) {i : Nat} (hi : i < litN) : CI l Z yJ0_coder_7d493 cJ0_coder_7d493 1 .byte 3 60 [.ref (zs Z i)] S 0 S := by
  refine eN (own := RJ0) (by decide) rfl (Nat.le_of_ble_eq_true rfl) (fun p e s m args below meth c Q ls G hl hw hret => ?_)
  obtain ⟨hx, hb, hml, hown, hts⟩ := G.1
  have hl : lv_has ls 1 [(0, .ref (zs Z i))] := hl
  refine va_gets hx hb G.2.2.2.2.1 hw.2.2 hown (hts _ fl_J0_38) (fun _ h => h) dJ0_coder_7d493_0 ?_
  refine lv_if_eq (tgt := 13) hx hb dJ0_coder_7d493_3 (by decide) (fun q => absurd q (by decide)) (fun _ => ?_)
  refine lv_aload_n hx hb dJ0_coder_7d493_6 rfl (lv_at hl 0 rfl) ?_
  refine vk_getf hx hb ((G.2.2.2.1.1 i hi).2.1) hw.2.2 hown (hts _ fl_J0_15) (fun _ h => h) dJ0_coder_7d493_7 ?_
  refine lv_goto (tgt := 14) hx hb dJ0_coder_7d493_10 (by decide) ?_
  exact hret _ _ _ _ _ dJ0_coder_7d493_14 rfl hw
theorem wJ0_isLatin1 (l : Launch) (Z : pZ) (S : pS) {i : Nat} (hi : i < litN) : CI l Z yJ0_isLatin1_aae02 cJ0_isLatin1_aae02 1 .boolean 3 60 [.ref (zs Z i)] S 1 S := by
  refine eN (own := RJ0) (by decide) rfl (Nat.le_of_ble_eq_true rfl) (fun p e s m args below meth c Q ls G hl hw hret => ?_)
  obtain ⟨hx, hb, hml, hown, hts⟩ := G.1
  have hl : lv_has ls 1 [(0, .ref (zs Z i))] := hl
  refine va_gets hx hb G.2.2.2.2.1 hw.2.2 hown (hts _ fl_J0_38) (fun _ h => h) dJ0_isLatin1_aae02_0 ?_
  refine lv_if_eq (tgt := 17) hx hb dJ0_isLatin1_aae02_3 (by decide) (fun q => absurd q (by decide)) (fun _ => ?_)
  refine lv_aload_n hx hb dJ0_isLatin1_aae02_6 rfl (lv_at hl 0 rfl) ?_
  refine vk_getf hx hb ((G.2.2.2.1.1 i hi).2.1) hw.2.2 hown (hts _ fl_J0_15) (fun _ h => h) dJ0_isLatin1_aae02_7 ?_
  refine lv_if_ne (tgt := 17) hx hb dJ0_isLatin1_aae02_10 (by decide) (fun q => absurd rfl q) (fun _ => ?_)
  refine lv_iconst hx hb dJ0_isLatin1_aae02_13 ki_1 ?_
  refine lv_goto (tgt := 18) hx hb dJ0_isLatin1_aae02_14 (by decide) ?_
  exact hret _ _ _ _ _ dJ0_isLatin1_aae02_18 rfl hw
theorem wJ0_length (l : Launch) (Z : pZ) (S : pS) {i : Nat} (hi : i < litN) : CI l Z yJ0_length_8abf5 cJ0_length_8abf5 1 .int 4 82 [.ref (zs Z i)] S (strlen i) S := by
  refine eI (own := RJ0) (by decide) rfl (Nat.le_of_ble_eq_true rfl) (fun p e s m args below meth c Q ls G hl hw hret => ?_)
  obtain ⟨hx, hb, hml, hown, hts⟩ := G.1
  have hl : lv_has ls 1 [(0, .ref (zs Z i))] := hl
  refine lv_aload_n hx hb dJ0_length_8abf5_0 rfl (lv_at hl 0 rfl) ?_
  refine vk_getf hx hb ((G.2.2.2.1.1 i hi).2.2.1) hw.2.2 hown (hts _ fl_J0_9) (fun _ h => h) dJ0_length_8abf5_1 ?_
  refine va_tlen hx hb ((G.2.2.2.1.1 i hi).2.2.2) hw.2.2 (v := strlen i) rfl dJ0_length_8abf5_4 ?_
  refine lv_aload_n hx hb dJ0_length_8abf5_5 rfl (lv_at hl 0 rfl) ?_
  refine kWi (rest := [.int (strlen i)]) G hw hi (wJ0_coder l Z S hi) cw_J0_335 ⟨Nat.le_of_ble_eq_true rfl, Nat.le_of_ble_eq_true rfl⟩ rfl hl.1 rfl (Nat.le_of_ble_eq_true rfl) ⟨Nat.le_refl _, Nat.le_refl _⟩ dJ0_length_8abf5_6 (fun H locs hw => ?_)
  refine lv_ishr hx hb dJ0_length_8abf5_9 ?_
  exact hret _ _ _ _ _ dJ0_length_8abf5_10 (sc_shr0 (lit_ok i hi).1) hw
theorem wJ3_checkIndex (l : Launch) (Z : pZ) (S : pS) {x n : Int32} {o : Option Nat} (h0 : ¬ x < 0) (h1 : x < n) : CI l Z yJ3_checkIndex_8e157 cJ3_checkIndex_8e157 3 .int 3 60 [.int x, .int n, va_rf o] S x S := by
  refine eI (own := RJ3) (by decide) rfl (by cases o <;> exact Nat.le_of_ble_eq_true rfl) (fun p e s m args below meth c Q ls G hl hw hret => ?_)
  obtain ⟨hx, hb, hml, hown, hts⟩ := G.1
  have hl : lv_has ls 3 [(0, .int x), (1, .int n), (2, va_rf o)] := hl
  refine lv_iload_n hx hb dJ3_checkIndex_8e157_0 rfl (lv_at hl 0 rfl) ?_
  refine lv_if_lt (tgt := 9) hx hb dJ3_checkIndex_8e157_1 (by decide) (fun q => absurd q h0) (fun _ => ?_)
  refine lv_iload_n hx hb dJ3_checkIndex_8e157_4 rfl (lv_at hl 0 rfl) ?_
  refine lv_iload_n hx hb dJ3_checkIndex_8e157_5 rfl (lv_at hl 1 rfl) ?_
  refine lv_icmp_lt (tgt := 16) hx hb dJ3_checkIndex_8e157_6 (by decide) (fun _ => ?_) (fun q => absurd h1 q)
  refine lv_iload_n hx hb dJ3_checkIndex_8e157_16 rfl (lv_at hl 0 rfl) ?_
  exact hret _ _ _ _ _ dJ3_checkIndex_8e157_17 rfl hw
theorem wJ0_checkIndex (l : Launch) (Z : pZ) (S : pS) {x n : Int32} (h0 : ¬ x < 0) (h1 : x < n) : CV l Z yJ0_checkIndex_df160 cJ0_checkIndex_df160 2 4 82 [.int x, .int n] S S := by
  refine eV (own := RJ0) (by decide) rfl (Nat.le_of_ble_eq_true rfl) (fun p e s m args below meth c Q ls G hl hw hret => ?_)
  obtain ⟨hx, hb, hml, hown, hts⟩ := G.1
  have hl : lv_has ls 2 [(0, .int x), (1, .int n)] := hl
  obtain ⟨o, hO⟩ := G.2.2.2.2.2.1
  refine lv_iload_n hx hb dJ0_checkIndex_df160_0 rfl (lv_at hl 0 rfl) ?_
  refine lv_iload_n hx hb dJ0_checkIndex_df160_1 rfl (lv_at hl 1 rfl) ?_
  refine va_gets hx hb hO hw.2.2 hown (hts _ fl_J0_1053) (fun _ h => h) dJ0_checkIndex_df160_2 ?_
  refine kTi (rest := []) G hw (wJ3_checkIndex l Z S h0 h1 (o := o)) cw_J0_1059 ⟨Nat.le_of_ble_eq_true rfl, Nat.le_of_ble_eq_true rfl⟩ rfl hl.1 rfl (Nat.le_of_ble_eq_true rfl) ⟨Nat.le_refl _, Nat.le_refl _⟩ dJ0_checkIndex_df160_5 (fun H locs hw => ?_)
  refine lv_pop hx hb dJ0_checkIndex_df160_8 rfl ?_
  exact hret _ _ _ _ dJ0_checkIndex_df160_9 hw
theorem wJ1_charAt (l : Launch) (Z : pZ) (S : pS) {i : Nat} (hi : i < litN) {x : Int32} (hin : vp_in x (litLen.getD i 0)) : CI l Z yJ1_charAt_3b067 cJ1_charAt_3b067 2 .char 5 103 [.ref (zv Z i), .int x] S (strch i x.toNatClampNeg) S := by
  obtain ⟨hL, hC⟩ := lit_ok i hi
  obtain ⟨n, hn, rfl⟩ := vp_in_of hin hL
  have hN : (nI n).toNatClampNeg = n := nI_clamp (by omega)
  refine eN (own := RJ1) (by decide) rfl (Nat.le_of_ble_eq_true rfl) (fun p e s m args below meth c Q ls G hl hw hret => ?_)
  obtain ⟨hx, hb, hml, hown, hts⟩ := G.1
  have hl : lv_has ls 2 [(0, .ref (zv Z i)), (1, .int (nI n))] := hl
  refine lv_iload_n hx hb dJ1_charAt_3b067_0 rfl (lv_at hl 1 rfl) ?_
  refine lv_aload_n hx hb dJ1_charAt_3b067_1 rfl (lv_at hl 0 rfl) ?_
  refine va_tlen hx hb ((G.2.2.2.1.1 i hi).2.2.2) hw.2.2 (v := nI (litLen.getD i 0)) rfl dJ1_charAt_3b067_2 ?_
  refine kTv (rest := []) G hw (wJ0_checkIndex l Z S (nI_pos (by omega)) (nI_lt hn hL)) cw_J1_9 ⟨Nat.le_of_ble_eq_true rfl, Nat.le_of_ble_eq_true rfl⟩ rfl hl.1 rfl (Nat.le_of_ble_eq_true rfl) ⟨Nat.le_refl _, Nat.le_refl _⟩ dJ1_charAt_3b067_3 (fun H locs hw => ?_)
  refine lv_aload_n hx hb dJ1_charAt_3b067_6 rfl (lv_at hl 0 rfl) ?_
  refine lv_iload_n hx hb dJ1_charAt_3b067_7 rfl (lv_at hl 1 rfl) ?_
  refine va_tb hx hb ((G.2.2.2.1.1 i hi).2.2.2) hw.2.2 hin (v := .int ((litByt.getD i []).getD n 0)) (by rw [hN]) dJ1_charAt_3b067_8 ?_
  refine lv_sipush hx hb dJ1_charAt_3b067_9 (v := 255) (by decide) ?_
  refine lv_iand hx hb dJ1_charAt_3b067_12 ?_
  refine lv_i2c hx hb dJ1_charAt_3b067_13 (hC n hn).1 ?_
  exact hret _ _ _ _ _ dJ1_charAt_3b067_14 (by rw [hN]; exact (hC n hn).2) hw
theorem wJ0_charAt (l : Launch) (Z : pZ) (S : pS) {i : Nat} (hi : i < litN) {x : Int32} (hin : vp_in x (litLen.getD i 0)) : CI l Z yJ0_charAt_5068e cJ0_charAt_5068e 2 .char 6 124 [.ref (zs Z i), .int x] S (strch i x.toNatClampNeg) S := by
  obtain ⟨hL, hC⟩ := lit_ok i hi
  obtain ⟨n, hn, e0⟩ := vp_in_of hin hL
  have hN : x.toNatClampNeg = n := by rw [e0]; exact nI_clamp (by omega)
  refine eN (own := RJ0) (by decide) rfl (Nat.le_of_ble_eq_true rfl) (fun p e s m args below meth c Q ls G hl hw hret => ?_)
  obtain ⟨hx, hb, hml, hown, hts⟩ := G.1
  have hl : lv_has ls 2 [(0, .ref (zs Z i)), (1, .int x)] := hl
  refine lv_aload_n hx hb dJ0_charAt_5068e_0 rfl (lv_at hl 0 rfl) ?_
  refine kWi (rest := []) G hw hi (wJ0_isLatin1 l Z S hi) cw_J0_492 ⟨Nat.le_of_ble_eq_true rfl, Nat.le_of_ble_eq_true rfl⟩ rfl hl.1 rfl (Nat.le_of_ble_eq_true rfl) ⟨Nat.le_refl _, Nat.le_refl _⟩ dJ0_charAt_5068e_1 (fun H locs hw => ?_)
  refine lv_if_eq (tgt := 16) hx hb dJ0_charAt_5068e_4 (by decide) (fun q => absurd q (by decide)) (fun _ => ?_)
  refine lv_aload_n hx hb dJ0_charAt_5068e_7 rfl (lv_at hl 0 rfl) ?_
  refine vk_getf hx hb ((G.2.2.2.1.1 i hi).2.2.1) hw.2.2 hown (hts _ fl_J0_9) (fun _ h => h) dJ0_charAt_5068e_8 ?_
  refine lv_iload_n hx hb dJ0_charAt_5068e_11 rfl (lv_at hl 1 rfl) ?_
  refine kTi (rest := []) G hw (wJ1_charAt l Z S hi hin) cw_J0_495 ⟨Nat.le_of_ble_eq_true rfl, Nat.le_of_ble_eq_true rfl⟩ rfl hl.1 rfl (Nat.le_of_ble_eq_true rfl) ⟨Nat.le_refl _, Nat.le_refl _⟩ dJ0_charAt_5068e_12 (fun H locs hw => ?_)
  exact hret _ _ _ _ _ dJ0_charAt_5068e_15 (by show narrow .char (.int ((litByt.getD i []).getD x.toNatClampNeg 0)) = _; rw [hN]; exact (hC n hn).2) hw
theorem xlen (G : Cx p s m args c own cc nL Z) (hw : Wd Z s S H locs) {i : Nat} (hi : i < litN) (hls : ls.size = nL) (hlk : Cond.methodLink own index yJ0_length_8abf5 ∈ wsG) (hR : 5 ≤ R.frames ∧ 102 ≤ R.locals) (hrm : (rest.map fun v => v.category).sum ≤ 8) (hcs : cells + 0 ≤ R.cells ∧ slots + 0 ≤ R.slots) (hdg : decode cc pc = .ok (.invokevirtual index, 3))
    (kk : ∀ (H1 : Heap) (locs1 : List Loc), Wd Z s S H1 locs1 → W p l e R s m args below meth c H1 locs1 cells slots Q (F0 m (pc + 3) ls (.int (strlen i) :: rest))) : W p l e R s m args below meth c H locs cells slots Q (F0 m pc ls (.ref (zs Z i) :: rest)) :=
  kWi (rest := rest) (n := 0) G hw hi (wJ0_length l Z S hi) (cwv hlk im_J0_length_8abf5 se_J0_length_8abf5 in_J0 co_J0_length_8abf5 ⟨rfl, nh_J0.1, nh_J0.2, by decide +kernel⟩) ⟨by omega, by omega⟩ rfl hls rfl hrm hcs hdg kk
theorem xchr (G : Cx p s m args c own cc nL Z) (hw : Wd Z s S H locs) {i : Nat} (hi : i < litN) {x : Int32} (hin : vp_in x (litLen.getD i 0)) (hls : ls.size = nL) (hlk : Cond.methodLink own index yJ0_charAt_5068e ∈ wsG) (hR : 7 ≤ R.frames ∧ 145 ≤ R.locals) (hrm : (rest.map fun v => v.category).sum ≤ 8) (hcs : cells + 0 ≤ R.cells ∧ slots + 0 ≤ R.slots) (hdg : decode cc pc = .ok (.invokevirtual index, 3))
    (kk : ∀ (H1 : Heap) (locs1 : List Loc), Wd Z s S H1 locs1 → W p l e R s m args below meth c H1 locs1 cells slots Q (F0 m (pc + 3) ls (.int (strch i x.toNatClampNeg) :: rest))) : W p l e R s m args below meth c H locs cells slots Q (F0 m pc ls (.int x :: .ref (zs Z i) :: rest)) :=
  kWi (rest := rest) (n := 1) G hw hi (wJ0_charAt l Z S hi hin) (cwv hlk im_J0_charAt_5068e se_J0_charAt_5068e in_J0 co_J0_charAt_5068e ⟨rfl, nh_J0.1, nh_J0.2, by decide +kernel⟩) ⟨by omega, by omega⟩ rfl hls rfl hrm hcs hdg kk
end PJ
/-! references that change; longs -/
theorem bO_ne {β : Type _} {o : Option Nat} {f : Nat → Option β} {r : β} (h : bO o none f = some r) : ∃ x, o = some x ∧ f x = some r := by
  cases o with
  | none => cases h
  | some x => exact ⟨x, rfl, h⟩
theorem tr2 {Z : pZ} {k : Nat} (h1 : isA Z K_J6300 132) (h2 : isA Z K_J6300 133) (h : k = 132 ∨ k = 133) : isA Z K_J6300 k := by
  rcases h with rfl | rfl
  · exact h1
  · exact h2
theorem pjn_s (v : Int64) : pjn (plo v) (phi v) = v := by
  apply Int64.toBitVec_inj.mp
  apply BitVec.eq_of_getLsbD_eq
  intro i hi
  simp only [pjn, plo, phi, UInt64.toBitVec_toInt64, UInt64.toBitVec_or, UInt64.toBitVec_shiftLeft, UInt32.toBitVec_toUInt64, Int32.toBitVec_toUInt32, Int64.toBitVec_toInt32, Int64.toBitVec_toUInt64, UInt64.toBitVec_shiftRight, BitVec.getLsbD_or, BitVec.getLsbD_setWidth]
  by_cases h : i < 32
  · simp [h, hi, BitVec.getElem_signExtend, BitVec.getLsbD_signExtend]
  · simp [h, hi, BitVec.getElem_signExtend, BitVec.getLsbD_signExtend, show i - 32 < 32 by omega, show i - 32 < 64 by omega, show 32 + (i - 32) = i by omega]
section PM
variable {p : Program} {l : Launch} {e : Env} {R : Room} {s : State} {m : MethodId} {args : Array Value} {below : List Frame} {meth : Method} {c : Code} {H : Heap} {locs : List Loc} {cells slots : Nat} {Q : State → Prop}
variable {cc cy : ByteArray} {pc nL mL fr lo index n ci N k j : Nat} {ls : Array Slot} {rest st0 As : List Value} {Z : pZ} {S S2 : pS} {own C : String} {y : MethodName} {T : u_T} {ty : Nat → FieldType} {qs : List Nat} {rt : FieldType} {ret : Option FieldType}
theorem gMs (G : Cx p s m args c own cc nL Z) (hw : Wd Z s S H locs) (h : isA Z (.inr (ci, qs)) k) (hc : CK ci C T N ty) (j : Nat) (hj : j < N) (hq : qs[j]? = some 1) {x : Nat} (hx : pmu (S k j) = some x) (hlk : Cond.fieldLink own index C (T j).2.1 (T j).2.2.1 ∈ wsG) (hdg : decode cc pc = .ok (.getfield index, 3))
    (kk : W p l e R s m args below meth c H locs cells slots Q (F0 m (pc + 3) ls (.ref (za Z x) :: rest))) : W p l e R s m args below meth c H locs cells slots Q (F0 m pc ls (.ref (za Z k) :: rest)) :=
  gM G hw h hc j hj hq hlk hdg (by rw [hx]; exact kk)
theorem pM (G : Cx p s m args c own cc nL Z) (hw : Wd Z s S H locs) (h : isA Z (.inr (ci, qs)) k) (hc : CK ci C T N ty) (j : Nat) (hj : j < N) (hq : qs[j]? = some 1) {x : Nat} {z : Int32} (hz : pmu z = some x) (hn : narrow (ty j) (.ref (za Z x)) = .ref (za Z x)) (hf : fits (ty j) (.ref (za Z x)) = true) (hfin : (T j).2.2.2 = false) (hS2 : S2 = sU S k j z) (hlk : Cond.fieldLink own index C (T j).2.1 (T j).2.2.1 ∈ wsG) (hdg : decode cc pc = .ok (.putfield index, 3))
    (kk : ∀ (H1 : Heap) (locs1 : List Loc), Wd Z s S2 H1 locs1 → W p l e R s m args below meth c H1 locs1 cells slots Q (F0 m (pc + 3) ls rest)) : W p l e R s m args below meth c H locs cells slots Q (F0 m pc ls (.ref (za Z x) :: .ref (za Z k) :: rest)) :=
  pG G hw h hc j hj hq (by simp [pfv, upd, hz, va_rf]) hn hf hfin hS2 hlk hdg kk
theorem sJ (G : Cx p s m args c own cc nL Z) (hw : Wd Z s S H locs) {n : Nat} (h : isA Z (.inl (3, n)) k) {i : Int32} {x : Int64} (hin : vp_in i n) {j : Nat} (hj : i.toNatClampNeg = j) (hS2 : S2 = sU (sU S k (2 * j) (plo x)) k (2 * j + 1) (phi x)) (hdg : decode cc pc = .ok (.lastore, 1))
    (kk : ∀ (H1 : Heap) (locs1 : List Loc), Wd Z s S2 H1 locs1 → W p l e R s m args below meth c H1 locs1 cells slots Q (F0 m (pc + 1) ls rest)) : W p l e R s m args below meth c H locs cells slots Q (F0 m pc ls (.long x :: .int i :: .ref (za Z k) :: rest)) := by
  obtain ⟨⟨hx, hb, -, hown, hts⟩, hK, -⟩ := G
  obtain ⟨i0, hiL, hi⟩ := pW_at h.2
  have he := hi S
  rw [pcel_a h.1] at he
  subst hj
  have e2 : (fun q => pjn (S2 k (2 * q)) (S2 k (2 * q + 1))) = vp_updL (fun q => pjn (S k (2 * q)) (S k (2 * q + 1))) i.toNatClampNeg x := by
    funext q
    rw [hS2]
    by_cases hq : q = i.toNatClampNeg
    · subst hq
      rw [sU_n (show ¬ (k = k ∧ 2 * i.toNatClampNeg = 2 * i.toNatClampNeg + 1) by omega), sU_s, sU_s, pjn_s]
      simp [vp_updL]
    · rw [sU_n (by omega), sU_n (by omega), sU_n (by omega), sU_n (by omega)]
      simp [vp_updL, hq]
  refine va_last hx hb hK hw.1 hw.2.1 hw.2.2 i0 3 (f := fun j => pjn (S k (2 * j)) (S k (2 * j + 1))) he rfl hin hdg (fun H1 locs1 hP hD hS1 => kk H1 locs1 ?_)
  rw [pW_set hw.2.1 hiL (S' := S2) (fun k' hk' => by rw [hS2, sU_ne hk', sU_ne hk']) (by rw [pcel_a h.1]; show _ = Sum.inl (zd Z 3, n, Sum.inr (Sum.inl (fun j => pjn (S2 k (2 * j)) (S2 k (2 * j + 1))))); rw [e2])] at hP hD
  exact ⟨hP, hD, hS1⟩
end PM

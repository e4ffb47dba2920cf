/-! equations of Ig (by program) -/
set_option maxRecDepth 20000 in
theorem q_Ig_bitCount_24 (x0 : Int) (h : mH) : B_Ig_bitCount_24 x0 h =
  B_Ig_bitCount_41 (w32 ((iand (w32 (x0 + (iush x0 4))) 252645135) + (iush (iand (w32 (x0 + (iush x0 4))) 252645135) 8))) h := by
  unfold B_Ig_bitCount_24
  refine A_iload_n d_222_24 rfl ?_
  refine A_iload_n d_222_25 rfl ?_
  refine A_iconst d_222_26 (by decide) ?_
  refine A_iushr d_222_27 ?_
  refine A_iadd d_222_28 ?_
  refine A_ldcw d_222_29 kC_8_267 ?_
  refine A_iand d_222_32 ?_
  refine A_istore_n d_222_33 rfl ?_
  refine A_iload_n d_222_34 rfl ?_
  refine A_iload_n d_222_35 rfl ?_
  refine A_bipush d_222_36 (by decide) ?_
  refine A_iushr d_222_38 ?_
  refine A_iadd d_222_39 ?_
  refine A_istore_n d_222_40 rfl ?_
  exact rfl
set_option maxRecDepth 20000 in
theorem q_Ig_bitCount_41 (x0 : Int) (h : mH) : B_Ig_bitCount_41 x0 h =
  some (iand (w32 (x0 + (iush x0 16))) 63, h) := by
  unfold B_Ig_bitCount_41
  refine A_iload_n d_222_41 rfl ?_
  refine A_iload_n d_222_42 rfl ?_
  refine A_bipush d_222_43 (by decide) ?_
  refine A_iushr d_222_45 ?_
  refine A_iadd d_222_46 ?_
  refine A_istore_n d_222_47 rfl ?_
  refine A_iload_n d_222_48 rfl ?_
  refine A_bipush d_222_49 (by decide) ?_
  refine A_iand d_222_51 ?_
  exact A_ireti rfl d_222_52
set_option maxRecDepth 20000 in
theorem q_Ig_bitCount (x0 : Int) (h : mH) : F_Ig_bitCount x0 h =
  B_Ig_bitCount_24 (w32 ((iand (w32 (x0 - (iand (iush x0 1) 1431655765))) 858993459) + (iand (iush (w32 (x0 - (iand (iush x0 1) 1431655765))) 2) 858993459))) h := by
  refine (congrArg asI (if_pos rfl)).trans ?_
  show asI (Lim 222 0 [some (.inl x0)] [] h) = _
  refine A_iload_n d_222_0 rfl ?_
  refine A_iload_n d_222_1 rfl ?_
  refine A_iconst d_222_2 (by decide) ?_
  refine A_iushr d_222_3 ?_
  refine A_ldcw d_222_4 kC_8_265 ?_
  refine A_iand d_222_7 ?_
  refine A_isub d_222_8 ?_
  refine A_istore_n d_222_9 rfl ?_
  refine A_iload_n d_222_10 rfl ?_
  refine A_ldcw d_222_11 kC_8_266 ?_
  refine A_iand d_222_14 ?_
  refine A_iload_n d_222_15 rfl ?_
  refine A_iconst d_222_16 (by decide) ?_
  refine A_iushr d_222_17 ?_
  refine A_ldcw d_222_18 kC_8_266 ?_
  refine A_iand d_222_21 ?_
  refine A_iadd d_222_22 ?_
  refine A_istore_n d_222_23 rfl ?_
  exact rfl

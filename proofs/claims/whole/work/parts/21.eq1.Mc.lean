/-! equations of Mc (by program) -/
set_option maxRecDepth 20000 in
theorem q_Mc_begin_9 (a0 : Nat) (a1 : Nat) (x2 : Int) (h : mH) : B_Mc_begin_9 a0 a1 x2 h =
  (F_Mc_makeFirstTuples a0 x2 h).bind fun h11 =>
  B_Mc_begin_16 a0 a1 x2 0 h11 := by
  unfold B_Mc_begin_9
  refine A_aload_n d_27_9 rfl ?_
  refine A_iload_n d_27_10 rfl ?_
  refine A_callU (t := 28) (way := 0) rfl d_27_11 rfl (cl kI_1_31 rfl) rfl rfl rfl (fun h11 => ?_)
  refine A_iconst d_27_14 (by decide) ?_
  refine A_istore_n d_27_15 rfl ?_
  exact rfl
set_option maxRecDepth 20000 in
theorem q_Mc_begin_16 (a0 : Nat) (a1 : Nat) (x2 : Int) (x3 : Int) (h : mH) : B_Mc_begin_16 a0 a1 x2 x3 h =
  if 4 ≤ x3 then
    ((pfd 1 5 h a0 0).bind fun h48 =>
    (gfd 1 0 h48 a0).bind fun v52 =>
    (F_Pg_wantedHeight v52.toNat 0 h48).bind fun q56 =>
    B_Mc_begin_62 a0 a1 x2 (w32 (q56.1 - 1)) q56.2)
  else
    ((gfd 1 1 h a0).bind fun v22 =>
    (gfd 1 0 h a0).bind fun v27 =>
    (F_Pg_wanted v27.toNat 0 x3 h).bind fun q32 =>
    (F_Mc_firstThing q32.1 x2 q32.2).bind fun q36 =>
    (ast q36.2 v22.toNat x3 q36.1).bind fun h39 =>
    B_Mc_begin_16 a0 a1 x2 (w32 (x3 + 1)) h39) := by
  unfold B_Mc_begin_16
  refine A_iload_n d_27_16 rfl ?_
  refine A_iconst d_27_17 (by decide) ?_
  refine A_ge (t := 46) d_27_18 (by decide) ?_ ?_
  · refine A_aload_n d_27_46 rfl ?_
    refine A_iconst d_27_47 (by decide) ?_
    refine A_putfI rfl d_27_48 kF_1_42 rfl (fun h48 => ?_)
    refine A_aload_n d_27_51 rfl ?_
    refine A_getfA rfl d_27_52 kF_1_14 (fun v52 => ?_)
    refine A_iconst d_27_55 (by decide) ?_
    refine A_call (t := 68) (way := 0) rfl d_27_56 rfl (cl kI_1_46 rfl) rfl (by decide) rfl (fun q56 => ?_)
    refine A_iconst d_27_59 (by decide) ?_
    refine A_isub d_27_60 ?_
    refine A_istore_n d_27_61 rfl ?_
    exact rfl
  · refine A_aload_n d_27_21 rfl ?_
    refine A_getfA rfl d_27_22 kF_1_18 (fun v22 => ?_)
    refine A_iload_n d_27_25 rfl ?_
    refine A_aload_n d_27_26 rfl ?_
    refine A_getfA rfl d_27_27 kF_1_14 (fun v27 => ?_)
    refine A_iconst d_27_30 (by decide) ?_
    refine A_iload_n d_27_31 rfl ?_
    refine A_call (t := 66) (way := 0) rfl d_27_32 rfl (cl kI_1_35 rfl) rfl (by decide) rfl (fun q32 => ?_)
    refine A_iload_n d_27_35 rfl ?_
    refine A_call (t := 29) (way := 2) rfl d_27_36 rfl (cl kI_1_39 rfl) rfl (by decide) rfl (fun q36 => ?_)
    refine A_iast rfl d_27_39 (fun h39 => ?_)
    refine A_iinc d_27_40 (by decide) rfl rfl ?_
    refine A_goto (t := 16) d_27_43 (by decide) ?_
    exact rfl
set_option maxRecDepth 20000 in
theorem q_Mc_begin_62 (a0 : Nat) (a1 : Nat) (x2 : Int) (x3 : Int) (h : mH) : B_Mc_begin_62 a0 a1 x2 x3 h =
  if x3 < 0 then
    ((F_Mc_goTo a0 0 h).bind fun h92 =>
    (pfd 1 9 h92 a0 0).bind fun h97 =>
    (pfd 1 10 h97 a0 0).bind fun h102 =>
    some h102)
  else
    ((gfd 1 0 h a0).bind fun v68 =>
    (F_Pg_wantedFromTop v68.toNat 0 x3 h).bind fun q73 =>
    (F_Mc_firstThing q73.1 x2 q73.2).bind fun q77 =>
    (F_Mc_push a0 q77.1 q77.2).bind fun q80 =>
    B_Mc_begin_62 a0 a1 x2 (w32 (x3 + (-1))) q80.2) := by
  unfold B_Mc_begin_62
  refine A_iload_n d_27_62 rfl ?_
  refine A_lt0 (t := 90) d_27_63 (by decide) ?_ ?_
  · refine A_aload_n d_27_90 rfl ?_
    refine A_iconst d_27_91 (by decide) ?_
    refine A_callU (t := 31) (way := 0) rfl d_27_92 rfl (cl kI_1_57 rfl) rfl rfl rfl (fun h92 => ?_)
    refine A_aload_n d_27_95 rfl ?_
    refine A_iconst d_27_96 (by decide) ?_
    refine A_putfI rfl d_27_97 kF_1_60 rfl (fun h97 => ?_)
    refine A_aload_n d_27_100 rfl ?_
    refine A_iconst d_27_101 (by decide) ?_
    refine A_putfI rfl d_27_102 kF_1_63 rfl (fun h102 => ?_)
    exact A_ret rfl d_27_105
  · refine A_aload_n d_27_66 rfl ?_
    refine A_aload_n d_27_67 rfl ?_
    refine A_getfA rfl d_27_68 kF_1_14 (fun v68 => ?_)
    refine A_iconst d_27_71 (by decide) ?_
    refine A_iload_n d_27_72 rfl ?_
    refine A_call (t := 69) (way := 0) rfl d_27_73 rfl (cl kI_1_50 rfl) rfl (by decide) rfl (fun q73 => ?_)
    refine A_iload_n d_27_76 rfl ?_
    refine A_call (t := 29) (way := 2) rfl d_27_77 rfl (cl kI_1_39 rfl) rfl (by decide) rfl (fun q77 => ?_)
    refine A_call (t := 45) (way := 0) rfl d_27_80 rfl (cl kI_1_53 rfl) rfl (by decide) rfl (fun q80 => ?_)
    refine A_pop d_27_83 rfl ?_
    refine A_iinc d_27_84 (by decide) rfl rfl ?_
    refine A_goto (t := 62) d_27_87 (by decide) ?_
    exact rfl
set_option maxRecDepth 20000 in
theorem q_Mc_begin (a0 : Nat) (a1 : Nat) (x2 : Int) (h : mH) (ho : isO h a0 1 = true) : F_Mc_begin a0 a1 x2 h =
  if a1 = 0 then
    (B_Mc_begin_9 a0 a1 x2 h)
  else
    ((pfd 1 0 h a0 ((a1 : Nat) : Int)).bind fun h6 =>
    B_Mc_begin_9 a0 a1 x2 h6) := by
  refine (congrArg asU (if_pos ho)).trans ?_
  show asU (Lim 27 0 [some (.inr (.inr a0)), some (.inr (.inr a1)), some (.inl x2), none] [] h) = _
  refine A_aload_n d_27_0 rfl ?_
  refine A_null (t := 9) d_27_1 (by decide) ?_ ?_
  · exact rfl
  · refine A_aload_n d_27_4 rfl ?_
    refine A_aload_n d_27_5 rfl ?_
    refine A_putfA rfl d_27_6 kF_1_14 rfl (fun h6 => ?_)
    exact rfl
set_option maxRecDepth 20000 in
theorem q_Mc_makeFirstTuples_2 (a0 : Nat) (x1 : Int) (x2 : Int) (o3 : Option mV) (h : mH) : B_Mc_makeFirstTuples_2 a0 x1 x2 o3 h =
  if 4 ≤ x2 then
    ((pfd 1 6 h a0 4).bind fun h58 =>
    some h58)
  else
    ((gfd 1 3 h a0).bind fun v8 =>
    (ast h v8.toNat x2 x2).bind fun h13 =>
    B_Mc_makeFirstTuples_16 a0 x1 x2 0 h13) := by
  unfold B_Mc_makeFirstTuples_2
  refine A_iload_n d_28_2 rfl ?_
  refine A_iconst d_28_3 (by decide) ?_
  refine A_ge (t := 56) d_28_4 (by decide) ?_ ?_
  · refine A_aload_n d_28_56 rfl ?_
    refine A_iconst d_28_57 (by decide) ?_
    refine A_putfI rfl d_28_58 kF_1_69 rfl (fun h58 => ?_)
    exact A_ret rfl d_28_61
  · refine A_aload_n d_28_7 rfl ?_
    refine A_getfA rfl d_28_8 kF_1_25 (fun v8 => ?_)
    refine A_iload_n d_28_11 rfl ?_
    refine A_iload_n d_28_12 rfl ?_
    refine A_iast rfl d_28_13 (fun h13 => ?_)
    refine A_iconst d_28_14 (by decide) ?_
    refine A_istore_n d_28_15 rfl ?_
    exact rfl
set_option maxRecDepth 20000 in
theorem q_Mc_makeFirstTuples_16 (a0 : Nat) (x1 : Int) (x2 : Int) (x3 : Int) (h : mH) : B_Mc_makeFirstTuples_16 a0 x1 x2 x3 h =
  if 3 ≤ x3 then
    (B_Mc_makeFirstTuples_2 a0 x1 (w32 (x2 + 1)) (some (.inl x3)) h)
  else
    ((gfd 1 4 h a0).bind fun v22 =>
    (gfd 1 0 h a0).bind fun v31 =>
    (F_Pg_fieldType v31.toNat x2 x3 h).bind fun q36 =>
    (F_Mc_firstThing q36.1 x1 q36.2).bind fun q40 =>
    (ast q40.2 v22.toNat (w32 ((w32 (x2 * 3)) + x3)) q40.1).bind fun h43 =>
    B_Mc_makeFirstTuples_16 a0 x1 x2 (w32 (x3 + 1)) h43) := by
  unfold B_Mc_makeFirstTuples_16
  refine A_iload_n d_28_16 rfl ?_
  refine A_iconst d_28_17 (by decide) ?_
  refine A_ge (t := 50) d_28_18 (by decide) ?_ ?_
  · refine A_iinc d_28_50 (by decide) rfl rfl ?_
    refine A_goto (t := 2) d_28_53 (by decide) ?_
    exact rfl
  · refine A_aload_n d_28_21 rfl ?_
    refine A_getfA rfl d_28_22 kF_1_28 (fun v22 => ?_)
    refine A_iload_n d_28_25 rfl ?_
    refine A_iconst d_28_26 (by decide) ?_
    refine A_imul d_28_27 ?_
    refine A_iload_n d_28_28 rfl ?_
    refine A_iadd d_28_29 ?_
    refine A_aload_n d_28_30 rfl ?_
    refine A_getfA rfl d_28_31 kF_1_14 (fun v31 => ?_)
    refine A_iload_n d_28_34 rfl ?_
    refine A_iload_n d_28_35 rfl ?_
    refine A_call (t := 60) (way := 0) rfl d_28_36 rfl (cl kI_1_66 rfl) rfl (by decide) rfl (fun q36 => ?_)
    refine A_iload_n d_28_39 rfl ?_
    refine A_call (t := 29) (way := 2) rfl d_28_40 rfl (cl kI_1_39 rfl) rfl (by decide) rfl (fun q40 => ?_)
    refine A_iast rfl d_28_43 (fun h43 => ?_)
    refine A_iinc d_28_44 (by decide) rfl rfl ?_
    refine A_goto (t := 16) d_28_47 (by decide) ?_
    exact rfl
set_option maxRecDepth 20000 in
theorem q_Mc_makeFirstTuples (a0 : Nat) (x1 : Int) (h : mH) (ho : isO h a0 1 = true) : F_Mc_makeFirstTuples a0 x1 h =
  B_Mc_makeFirstTuples_2 a0 x1 0 none h := by
  refine (congrArg asU (if_pos ho)).trans ?_
  show asU (Lim 28 0 [some (.inr (.inr a0)), some (.inl x1), none, none] [] h) = _
  refine A_iconst d_28_0 (by decide) ?_
  refine A_istore_n d_28_1 rfl ?_
  exact rfl
set_option maxRecDepth 20000 in
theorem q_Mc_firstThing (x0 : Int) (x1 : Int) (h : mH) : F_Mc_firstThing x0 x1 h =
  if 2 ≤ x0 then
    (if 6 ≤ x0 then
      (some (w32 ((w32 (10000 + x0)) - 6), h))
    else
      (some (w32 ((w32 (20000 + x0)) - 2), h)))
  else
    (some (x1, h)) := by
  refine (congrArg asI (if_pos rfl)).trans ?_
  show asI (Lim 29 0 [some (.inl x0), some (.inl x1)] [] h) = _
  refine A_iload_n d_29_0 rfl ?_
  refine A_iconst d_29_1 (by decide) ?_
  refine A_ge (t := 7) d_29_2 (by decide) ?_ ?_
  · refine A_iload_n d_29_7 rfl ?_
    refine A_bipush d_29_8 (by decide) ?_
    refine A_ge (t := 23) d_29_10 (by decide) ?_ ?_
    · refine A_sipush d_29_23 (by decide) ?_
      refine A_iload_n d_29_26 rfl ?_
      refine A_iadd d_29_27 ?_
      refine A_bipush d_29_28 (by decide) ?_
      refine A_isub d_29_30 ?_
      exact A_ireti rfl d_29_31
    · refine A_sipush d_29_13 (by decide) ?_
      refine A_iload_n d_29_16 rfl ?_
      refine A_iadd d_29_17 ?_
      refine A_iconst d_29_18 (by decide) ?_
      refine A_isub d_29_19 ?_
      refine A_goto (t := 31) d_29_20 (by decide) ?_
      exact A_ireti rfl d_29_31
  · refine A_iload_n d_29_5 rfl ?_
    exact A_ireti rfl d_29_6
set_option maxRecDepth 20000 in
theorem q_Mc_goOn_2 (a0 : Nat) (x1 : Int) (x2 : Int) (h : mH) : B_Mc_goOn_2 a0 x1 x2 h =
  if x1 ≤ x2 then
    (some h)
  else
    ((gfd 1 10 h a0).bind fun v8 =>
    if v8 ≠ 0 then
      (some h)
    else
      ((gfd 1 0 h a0).bind fun v16 =>
      (gfd 1 7 h a0).bind fun v20 =>
      (gfd 1 8 h a0).bind fun v24 =>
      (F_Pg_hasInstruction v16.toNat v20 v24 h).bind fun q27 =>
      if q27.1 = 0 then
        (B_Mc_goOn_41 a0 x1 x2 2 a0 q27.2)
      else
        ((F_Mc_step a0 q27.2).bind fun q34 =>
        B_Mc_goOn_41 a0 x1 x2 q34.1 a0 q34.2))) := by
  unfold B_Mc_goOn_2
  refine A_iload_n d_30_2 rfl ?_
  refine A_iload_n d_30_3 rfl ?_
  refine A_ge (t := 75) d_30_4 (by decide) ?_ ?_
  · exact A_ret rfl d_30_75
  · refine A_aload_n d_30_7 rfl ?_
    refine A_getfI rfl d_30_8 kF_1_63 (by decide) (fun v8 => ?_)
    refine A_ne0 (t := 75) d_30_11 (by decide) ?_ ?_
    · exact A_ret rfl d_30_75
    · refine A_aload_n d_30_14 rfl ?_
      refine A_aload_n d_30_15 rfl ?_
      refine A_getfA rfl d_30_16 kF_1_14 (fun v16 => ?_)
      refine A_aload_n d_30_19 rfl ?_
      refine A_getfI rfl d_30_20 kF_1_72 (by decide) (fun v20 => ?_)
      refine A_aload_n d_30_23 rfl ?_
      refine A_getfI rfl d_30_24 kF_1_75 (by decide) (fun v24 => ?_)
      refine A_call (t := 57) (way := 0) rfl d_30_27 rfl (cl kI_1_78 rfl) rfl (by decide) rfl (fun q27 => ?_)
      refine A_eq0 (t := 40) d_30_30 (by decide) ?_ ?_
      · refine A_iconst d_30_40 (by decide) ?_
        exact rfl
      · refine A_aload_n d_30_33 rfl ?_
        refine A_call (t := 35) (way := 0) rfl d_30_34 rfl (cl kI_1_82 rfl) rfl (by decide) rfl (fun q34 => ?_)
        refine A_goto (t := 41) d_30_37 (by decide) ?_
        exact rfl
set_option maxRecDepth 20000 in
theorem q_Mc_goOn_41 (a0 : Nat) (x1 : Int) (x2 : Int) (s0 : Int) (sa1 : Nat) (h : mH) : B_Mc_goOn_41 a0 x1 x2 s0 sa1 h =
  (pfd 1 10 h sa1 s0).bind fun h41 =>
  (gfd 1 10 h41 a0).bind fun v45 =>
  if v45 = 0 then
    (B_Mc_goOn_59 a0 x1 x2 h41)
  else
    ((gfd 1 10 h41 a0).bind fun v52 =>
    if v52 ≠ 1 then
      (B_Mc_goOn_69 a0 x1 x2 h41)
    else
      (B_Mc_goOn_59 a0 x1 x2 h41)) := by
  unfold B_Mc_goOn_41
  refine A_putfI rfl d_30_41 kF_1_63 rfl (fun h41 => ?_)
  refine A_aload_n d_30_44 rfl ?_
  refine A_getfI rfl d_30_45 kF_1_63 (by decide) (fun v45 => ?_)
  refine A_eq0 (t := 59) d_30_48 (by decide) ?_ ?_
  · exact rfl
  · refine A_aload_n d_30_51 rfl ?_
    refine A_getfI rfl d_30_52 kF_1_63 (by decide) (fun v52 => ?_)
    refine A_iconst d_30_55 (by decide) ?_
    refine A_ne (t := 69) d_30_56 (by decide) ?_ ?_
    · exact rfl
    · exact rfl
set_option maxRecDepth 20000 in
theorem q_Mc_goOn_59 (a0 : Nat) (x1 : Int) (x2 : Int) (h : mH) : B_Mc_goOn_59 a0 x1 x2 h =
  (gfd 1 9 h a0).bind fun v61 =>
  (pfd 1 9 h a0 (w32 (v61 + 1))).bind fun h66 =>
  B_Mc_goOn_69 a0 x1 x2 h66 := by
  unfold B_Mc_goOn_59
  refine A_aload_n d_30_59 rfl ?_
  refine A_dup d_30_60 rfl ?_
  refine A_getfI rfl d_30_61 kF_1_60 (by decide) (fun v61 => ?_)
  refine A_iconst d_30_64 (by decide) ?_
  refine A_iadd d_30_65 ?_
  refine A_putfI rfl d_30_66 kF_1_60 rfl (fun h66 => ?_)
  exact rfl
set_option maxRecDepth 20000 in
theorem q_Mc_goOn_69 (a0 : Nat) (x1 : Int) (x2 : Int) (h : mH) : B_Mc_goOn_69 a0 x1 x2 h =
  B_Mc_goOn_2 a0 x1 (w32 (x2 + 1)) h := by
  unfold B_Mc_goOn_69
  refine A_iinc d_30_69 (by decide) rfl rfl ?_
  refine A_goto (t := 2) d_30_72 (by decide) ?_
  exact rfl
set_option maxRecDepth 20000 in
theorem q_Mc_goOn (a0 : Nat) (x1 : Int) (h : mH) (ho : isO h a0 1 = true) : F_Mc_goOn a0 x1 h =
  B_Mc_goOn_2 a0 x1 0 h := by
  refine (congrArg asU (if_pos ho)).trans ?_
  show asU (Lim 30 0 [some (.inr (.inr a0)), some (.inl x1), none] [] h) = _
  refine A_iconst d_30_0 (by decide) ?_
  refine A_istore_n d_30_1 rfl ?_
  exact rfl
set_option maxRecDepth 20000 in
theorem q_Mc_goTo (a0 : Nat) (x1 : Int) (h : mH) (ho : isO h a0 1 = true) : F_Mc_goTo a0 x1 h =
  (pfd 1 7 h a0 x1).bind fun h2 =>
  (pfd 1 8 h2 a0 0).bind fun h7 =>
  some h7 := by
  refine (congrArg asU (if_pos ho)).trans ?_
  show asU (Lim 31 0 [some (.inr (.inr a0)), some (.inl x1)] [] h) = _
  refine A_aload_n d_31_0 rfl ?_
  refine A_iload_n d_31_1 rfl ?_
  refine A_putfI rfl d_31_2 kF_1_72 rfl (fun h2 => ?_)
  refine A_aload_n d_31_5 rfl ?_
  refine A_iconst d_31_6 (by decide) ?_
  refine A_putfI rfl d_31_7 kF_1_75 rfl (fun h7 => ?_)
  exact A_ret rfl d_31_10
set_option maxRecDepth 20000 in
theorem q_Mc_register (a0 : Nat) (x1 : Int) (h : mH) (ho : isO h a0 1 = true) : F_Mc_register a0 x1 h =
  if x1 < 0 then
    (some ((-1), h))
  else
    (if 4 ≤ x1 then
      (some ((-1), h))
    else
      ((gfd 1 1 h a0).bind fun v10 =>
      (ald 10 h v10.toNat x1).bind fun v14 =>
      some (v14, h))) := by
  refine (congrArg asI (if_pos ho)).trans ?_
  show asI (Lim 32 0 [some (.inr (.inr a0)), some (.inl x1)] [] h) = _
  refine A_iload_n d_32_0 rfl ?_
  refine A_lt0 (t := 18) d_32_1 (by decide) ?_ ?_
  · refine A_iconst d_32_18 (by decide) ?_
    exact A_ireti rfl d_32_19
  · refine A_iload_n d_32_4 rfl ?_
    refine A_iconst d_32_5 (by decide) ?_
    refine A_ge (t := 18) d_32_6 (by decide) ?_ ?_
    · refine A_iconst d_32_18 (by decide) ?_
      exact A_ireti rfl d_32_19
    · refine A_aload_n d_32_9 rfl ?_
      refine A_getfA rfl d_32_10 kF_1_18 (fun v10 => ?_)
      refine A_iload_n d_32_13 rfl ?_
      refine A_iald rfl d_32_14 (fun v14 => ?_)
      refine A_goto (t := 19) d_32_15 (by decide) ?_
      exact A_ireti rfl d_32_19
set_option maxRecDepth 20000 in
theorem q_Mc_isWord (x0 : Int) (h : mH) : F_Mc_isWord x0 h =
  if x0 < 0 then
    (some (0, h))
  else
    (if 10000 ≤ x0 then
      (some (0, h))
    else
      (some (1, h))) := by
  refine (congrArg asI (if_pos rfl)).trans ?_
  show asI (Lim 33 0 [some (.inl x0)] [] h) = _
  refine A_iload_n d_33_0 rfl ?_
  refine A_lt0 (t := 15) d_33_1 (by decide) ?_ ?_
  · refine A_iconst d_33_15 (by decide) ?_
    exact A_iretz rfl d_33_16 (by decide)
  · refine A_iload_n d_33_4 rfl ?_
    refine A_sipush d_33_5 (by decide) ?_
    refine A_ge (t := 15) d_33_8 (by decide) ?_ ?_
    · refine A_iconst d_33_15 (by decide) ?_
      exact A_iretz rfl d_33_16 (by decide)
    · refine A_iconst d_33_11 (by decide) ?_
      refine A_goto (t := 16) d_33_12 (by decide) ?_
      exact A_iretz rfl d_33_16 (by decide)
set_option maxRecDepth 20000 in
theorem q_Mc_isLabel (x0 : Int) (h : mH) : F_Mc_isLabel x0 h =
  if x0 < 10000 then
    (some (0, h))
  else
    (if 20000 ≤ x0 then
      (some (0, h))
    else
      (some (1, h))) := by
  refine (congrArg asI (if_pos rfl)).trans ?_
  show asI (Lim 34 0 [some (.inl x0)] [] h) = _
  refine A_iload_n d_34_0 rfl ?_
  refine A_sipush d_34_1 (by decide) ?_
  refine A_lt (t := 18) d_34_4 (by decide) ?_ ?_
  · refine A_iconst d_34_18 (by decide) ?_
    exact A_iretz rfl d_34_19 (by decide)
  · refine A_iload_n d_34_7 rfl ?_
    refine A_sipush d_34_8 (by decide) ?_
    refine A_ge (t := 18) d_34_11 (by decide) ?_ ?_
    · refine A_iconst d_34_18 (by decide) ?_
      exact A_iretz rfl d_34_19 (by decide)
    · refine A_iconst d_34_14 (by decide) ?_
      refine A_goto (t := 19) d_34_15 (by decide) ?_
      exact A_iretz rfl d_34_19 (by decide)
set_option maxRecDepth 20000 in
theorem q_Mc_step (a0 : Nat) (h : mH) (ho : isO h a0 1 = true) : F_Mc_step a0 h =
  (gfd 1 0 h a0).bind fun v1 =>
  (gfd 1 7 h a0).bind fun v5 =>
  (gfd 1 8 h a0).bind fun v9 =>
  (F_Pg_part v1.toNat v5 v9 0 h).bind fun q13 =>
  (gfd 1 0 q13.2 a0).bind fun v18 =>
  (gfd 1 7 q13.2 a0).bind fun v22 =>
  (gfd 1 8 q13.2 a0).bind fun v26 =>
  (F_Pg_part v18.toNat v22 v26 1 q13.2).bind fun q30 =>
  (gfd 1 0 q30.2 a0).bind fun v35 =>
  (gfd 1 7 q30.2 a0).bind fun v39 =>
  (gfd 1 8 q30.2 a0).bind fun v43 =>
  (F_Pg_part v35.toNat v39 v43 2 q30.2).bind fun q47 =>
  (gfd 1 0 q47.2 a0).bind fun v52 =>
  (gfd 1 7 q47.2 a0).bind fun v56 =>
  (gfd 1 8 q47.2 a0).bind fun v60 =>
  (F_Pg_part v52.toNat v56 v60 3 q47.2).bind fun q64 =>
  if q13.1 = 0 then
    ((F_Mc_register a0 q47.1 q64.2).bind fun q124 =>
    (F_Mc_goOnWith a0 q30.1 q124.1 q124.2).bind fun q127 =>
    some (q127.1, q127.2))
  else if q13.1 = 1 then
    ((F_Mc_goOnWith a0 q30.1 q47.1 q64.2).bind fun q134 =>
    some (q134.1, q134.2))
  else if q13.1 = 2 then
    ((F_Mc_sum a0 q30.1 q47.1 q64.2).bind fun q141 =>
    some (q141.1, q141.2))
  else if q13.1 = 3 then
    ((F_Mc_makeTuple a0 q30.1 q47.1 q64.2).bind fun q148 =>
    some (q148.1, q148.2))
  else if q13.1 = 4 then
    ((F_Mc_setField a0 q30.1 q47.1 q64.1 q64.2).bind fun q157 =>
    some (q157.1, q157.2))
  else if q13.1 = 5 then
    ((F_Mc_getField a0 q30.1 q47.1 q64.1 q64.2).bind fun q166 =>
    some (q166.1, q166.2))
  else if q13.1 = 6 then
    ((F_Mc_register a0 q30.1 q64.2).bind fun q173 =>
    (F_Mc_push a0 q173.1 q173.2).bind fun q176 =>
    if q176.1 = 0 then
      (some (3, q176.2))
    else
      ((F_Mc_goOnBehind a0 q176.2).bind fun q183 =>
      some (q183.1, q183.2)))
  else if q13.1 = 7 then
    ((F_Mc_pop a0 q30.1 q64.2).bind fun q193 =>
    some (q193.1, q193.2))
  else if q13.1 = 8 then
    ((F_Mc_goOnWith a0 q30.1 (w32 (10000 + q47.1)) q64.2).bind fun q204 =>
    some (q204.1, q204.2))
  else ((F_Mc_leave a0 q13.1 q30.1 q47.1 q64.2).bind fun q212 =>
    some (q212.1, q212.2)) := by
  refine (congrArg asI (if_pos ho)).trans ?_
  show asI (Lim 35 0 [some (.inr (.inr a0)), none, none, none, none] [] h) = _
  refine A_aload_n d_35_0 rfl ?_
  refine A_getfA rfl d_35_1 kF_1_14 (fun v1 => ?_)
  refine A_aload_n d_35_4 rfl ?_
  refine A_getfI rfl d_35_5 kF_1_72 (by decide) (fun v5 => ?_)
  refine A_aload_n d_35_8 rfl ?_
  refine A_getfI rfl d_35_9 kF_1_75 (by decide) (fun v9 => ?_)
  refine A_iconst d_35_12 (by decide) ?_
  refine A_call (t := 74) (way := 0) rfl d_35_13 rfl (cl kI_1_86 rfl) rfl (by decide) rfl (fun q13 => ?_)
  refine A_istore_n d_35_16 rfl ?_
  refine A_aload_n d_35_17 rfl ?_
  refine A_getfA rfl d_35_18 kF_1_14 (fun v18 => ?_)
  refine A_aload_n d_35_21 rfl ?_
  refine A_getfI rfl d_35_22 kF_1_72 (by decide) (fun v22 => ?_)
  refine A_aload_n d_35_25 rfl ?_
  refine A_getfI rfl d_35_26 kF_1_75 (by decide) (fun v26 => ?_)
  refine A_iconst d_35_29 (by decide) ?_
  refine A_call (t := 74) (way := 0) rfl d_35_30 rfl (cl kI_1_86 rfl) rfl (by decide) rfl (fun q30 => ?_)
  refine A_istore_n d_35_33 rfl ?_
  refine A_aload_n d_35_34 rfl ?_
  refine A_getfA rfl d_35_35 kF_1_14 (fun v35 => ?_)
  refine A_aload_n d_35_38 rfl ?_
  refine A_getfI rfl d_35_39 kF_1_72 (by decide) (fun v39 => ?_)
  refine A_aload_n d_35_42 rfl ?_
  refine A_getfI rfl d_35_43 kF_1_75 (by decide) (fun v43 => ?_)
  refine A_iconst d_35_46 (by decide) ?_
  refine A_call (t := 74) (way := 0) rfl d_35_47 rfl (cl kI_1_86 rfl) rfl (by decide) rfl (fun q47 => ?_)
  refine A_istore_n d_35_50 rfl ?_
  refine A_aload_n d_35_51 rfl ?_
  refine A_getfA rfl d_35_52 kF_1_14 (fun v52 => ?_)
  refine A_aload_n d_35_55 rfl ?_
  refine A_getfI rfl d_35_56 kF_1_72 (by decide) (fun v56 => ?_)
  refine A_aload_n d_35_59 rfl ?_
  refine A_getfI rfl d_35_60 kF_1_75 (by decide) (fun v60 => ?_)
  refine A_iconst d_35_63 (by decide) ?_
  refine A_call (t := 74) (way := 0) rfl d_35_64 rfl (cl kI_1_86 rfl) rfl (by decide) rfl (fun q64 => ?_)
  refine A_istore d_35_67 rfl ?_
  refine A_iload_n d_35_69 rfl ?_
  refine A_if (fun e70_0 => ?_) (fun e70_0 => ?_)
  · refine A_tab (t := 120) d_35_70 (by rw [e70_0]; decide) ?_
    refine A_aload_n d_35_120 rfl ?_
    refine A_iload_n d_35_121 rfl ?_
    refine A_aload_n d_35_122 rfl ?_
    refine A_iload_n d_35_123 rfl ?_
    refine A_call (t := 32) (way := 0) rfl d_35_124 rfl (cl kI_1_90 rfl) rfl (by decide) rfl (fun q124 => ?_)
    refine A_call (t := 39) (way := 0) rfl d_35_127 rfl (cl kI_1_93 rfl) rfl (by decide) rfl (fun q127 => ?_)
    exact A_ireti rfl d_35_130
  refine A_if (fun e70_1 => ?_) (fun e70_1 => ?_)
  · refine A_tab (t := 131) d_35_70 (by rw [e70_1]; decide) ?_
    refine A_aload_n d_35_131 rfl ?_
    refine A_iload_n d_35_132 rfl ?_
    refine A_iload_n d_35_133 rfl ?_
    refine A_call (t := 39) (way := 0) rfl d_35_134 rfl (cl kI_1_93 rfl) rfl (by decide) rfl (fun q134 => ?_)
    exact A_ireti rfl d_35_137
  refine A_if (fun e70_2 => ?_) (fun e70_2 => ?_)
  · refine A_tab (t := 138) d_35_70 (by rw [e70_2]; decide) ?_
    refine A_aload_n d_35_138 rfl ?_
    refine A_iload_n d_35_139 rfl ?_
    refine A_iload_n d_35_140 rfl ?_
    refine A_call (t := 40) (way := 0) rfl d_35_141 rfl (cl kI_1_96 rfl) rfl (by decide) rfl (fun q141 => ?_)
    exact A_ireti rfl d_35_144
  refine A_if (fun e70_3 => ?_) (fun e70_3 => ?_)
  · refine A_tab (t := 145) d_35_70 (by rw [e70_3]; decide) ?_
    refine A_aload_n d_35_145 rfl ?_
    refine A_iload_n d_35_146 rfl ?_
    refine A_iload_n d_35_147 rfl ?_
    refine A_call (t := 41) (way := 0) rfl d_35_148 rfl (cl kI_1_99 rfl) rfl (by decide) rfl (fun q148 => ?_)
    exact A_ireti rfl d_35_151
  refine A_if (fun e70_4 => ?_) (fun e70_4 => ?_)
  · refine A_tab (t := 152) d_35_70 (by rw [e70_4]; decide) ?_
    refine A_aload_n d_35_152 rfl ?_
    refine A_iload_n d_35_153 rfl ?_
    refine A_iload_n d_35_154 rfl ?_
    refine A_iload d_35_155 rfl ?_
    refine A_call (t := 43) (way := 0) rfl d_35_157 rfl (cl kI_1_102 rfl) rfl (by decide) rfl (fun q157 => ?_)
    exact A_ireti rfl d_35_160
  refine A_if (fun e70_5 => ?_) (fun e70_5 => ?_)
  · refine A_tab (t := 161) d_35_70 (by rw [e70_5]; decide) ?_
    refine A_aload_n d_35_161 rfl ?_
    refine A_iload_n d_35_162 rfl ?_
    refine A_iload_n d_35_163 rfl ?_
    refine A_iload d_35_164 rfl ?_
    refine A_call (t := 44) (way := 0) rfl d_35_166 rfl (cl kI_1_105 rfl) rfl (by decide) rfl (fun q166 => ?_)
    exact A_ireti rfl d_35_169
  refine A_if (fun e70_6 => ?_) (fun e70_6 => ?_)
  · refine A_tab (t := 170) d_35_70 (by rw [e70_6]; decide) ?_
    refine A_aload_n d_35_170 rfl ?_
    refine A_aload_n d_35_171 rfl ?_
    refine A_iload_n d_35_172 rfl ?_
    refine A_call (t := 32) (way := 0) rfl d_35_173 rfl (cl kI_1_90 rfl) rfl (by decide) rfl (fun q173 => ?_)
    refine A_call (t := 45) (way := 0) rfl d_35_176 rfl (cl kI_1_53 rfl) rfl (by decide) rfl (fun q176 => ?_)
    refine A_eq0 (t := 189) d_35_179 (by decide) ?_ ?_
    · refine A_iconst d_35_189 (by decide) ?_
      exact A_ireti rfl d_35_190
    · refine A_aload_n d_35_182 rfl ?_
      refine A_call (t := 38) (way := 0) rfl d_35_183 rfl (cl kI_1_108 rfl) rfl (by decide) rfl (fun q183 => ?_)
      refine A_goto (t := 190) d_35_186 (by decide) ?_
      exact A_ireti rfl d_35_190
  refine A_if (fun e70_7 => ?_) (fun e70_7 => ?_)
  · refine A_tab (t := 191) d_35_70 (by rw [e70_7]; decide) ?_
    refine A_aload_n d_35_191 rfl ?_
    refine A_iload_n d_35_192 rfl ?_
    refine A_call (t := 46) (way := 0) rfl d_35_193 rfl (cl kI_1_111 rfl) rfl (by decide) rfl (fun q193 => ?_)
    exact A_ireti rfl d_35_196
  refine A_if (fun e70_8 => ?_) (fun e70_8 => ?_)
  · refine A_tab (t := 197) d_35_70 (by rw [e70_8]; decide) ?_
    refine A_aload_n d_35_197 rfl ?_
    refine A_iload_n d_35_198 rfl ?_
    refine A_sipush d_35_199 (by decide) ?_
    refine A_iload_n d_35_202 rfl ?_
    refine A_iadd d_35_203 ?_
    refine A_call (t := 39) (way := 0) rfl d_35_204 rfl (cl kI_1_93 rfl) rfl (by decide) rfl (fun q204 => ?_)
    exact A_ireti rfl d_35_207
  refine A_tab (t := 208) d_35_70 (by rw [if_pos (by omega)]; decide) ?_
  refine A_aload_n d_35_208 rfl ?_
  refine A_iload_n d_35_209 rfl ?_
  refine A_iload_n d_35_210 rfl ?_
  refine A_iload_n d_35_211 rfl ?_
  refine A_call (t := 36) (way := 0) rfl d_35_212 rfl (cl kI_1_114 rfl) rfl (by decide) rfl (fun q212 => ?_)
  exact A_ireti rfl d_35_215
set_option maxRecDepth 20000 in
theorem q_Mc_leave (a0 : Nat) (x1 : Int) (x2 : Int) (x3 : Int) (h : mH) (ho : isO h a0 1 = true) : F_Mc_leave a0 x1 x2 x3 h =
  if x1 = 9 then
    ((F_Mc_goOnAt a0 x2 h).bind fun q34 =>
    some (q34.1, q34.2))
  else if x1 = 10 then
    ((F_Mc_register a0 x2 h).bind fun q40 =>
    (F_Mc_isWord q40.1 q40.2).bind fun q43 =>
    if q43.1 ≠ 0 then
      ((F_Mc_register a0 x2 q43.2).bind fun q53 =>
      if q53.1 = 0 then
        ((F_Mc_goOnBehind a0 q53.2).bind fun q68 =>
        some (q68.1, q68.2))
      else
        ((F_Mc_goOnAt a0 x3 q53.2).bind fun q61 =>
        some (q61.1, q61.2)))
    else
      (some (2, q43.2)))
  else if x1 = 11 then
    ((gfd 1 1 h a0).bind fun v73 =>
    (ast h v73.toNat 3 (w32 (10000 + x3))).bind fun h82 =>
    (F_Mc_goOnAt a0 x2 h82).bind fun q85 =>
    some (q85.1, q85.2))
  else if x1 = 12 then
    ((F_Mc_register a0 x2 h).bind fun q91 =>
    (F_Mc_isLabel q91.1 q91.2).bind fun q94 =>
    if q94.1 = 0 then
      (some (2, q94.2))
    else
      ((F_Mc_register a0 x2 q94.2).bind fun q103 =>
      (F_Mc_goOnAt a0 (w32 (q103.1 - 10000)) q103.2).bind fun q110 =>
      some (q110.1, q110.2)))
  else ((F_Mc_register a0 0 h).bind fun q120 =>
    (F_Mc_isWord q120.1 q120.2).bind fun q123 =>
    if q123.1 = 0 then
      (some (2, q123.2))
    else
      (some (1, q123.2))) := by
  refine (congrArg asI (if_pos ho)).trans ?_
  show asI (Lim 36 0 [some (.inr (.inr a0)), some (.inl x1), some (.inl x2), some (.inl x3)] [] h) = _
  refine A_iload_n d_36_0 rfl ?_
  refine A_if (fun e1_0 => ?_) (fun e1_0 => ?_)
  · refine A_tab (t := 32) d_36_1 (by rw [e1_0]; decide) ?_
    refine A_aload_n d_36_32 rfl ?_
    refine A_iload_n d_36_33 rfl ?_
    refine A_call (t := 37) (way := 0) rfl d_36_34 rfl (cl kI_1_117 rfl) rfl (by decide) rfl (fun q34 => ?_)
    exact A_ireti rfl d_36_37
  refine A_if (fun e1_1 => ?_) (fun e1_1 => ?_)
  · refine A_tab (t := 38) d_36_1 (by rw [e1_1]; decide) ?_
    refine A_aload_n d_36_38 rfl ?_
    refine A_iload_n d_36_39 rfl ?_
    refine A_call (t := 32) (way := 0) rfl d_36_40 rfl (cl kI_1_90 rfl) rfl (by decide) rfl (fun q40 => ?_)
    refine A_call (t := 33) (way := 2) rfl d_36_43 rfl (cl kI_1_120 rfl) rfl (by decide) rfl (fun q43 => ?_)
    refine A_ne0 (t := 51) d_36_46 (by decide) ?_ ?_
    · refine A_aload_n d_36_51 rfl ?_
      refine A_iload_n d_36_52 rfl ?_
      refine A_call (t := 32) (way := 0) rfl d_36_53 rfl (cl kI_1_90 rfl) rfl (by decide) rfl (fun q53 => ?_)
      refine A_eq0 (t := 67) d_36_56 (by decide) ?_ ?_
      · refine A_aload_n d_36_67 rfl ?_
        refine A_call (t := 38) (way := 0) rfl d_36_68 rfl (cl kI_1_108 rfl) rfl (by decide) rfl (fun q68 => ?_)
        exact A_ireti rfl d_36_71
      · refine A_aload_n d_36_59 rfl ?_
        refine A_iload_n d_36_60 rfl ?_
        refine A_call (t := 37) (way := 0) rfl d_36_61 rfl (cl kI_1_117 rfl) rfl (by decide) rfl (fun q61 => ?_)
        refine A_goto (t := 71) d_36_64 (by decide) ?_
        exact A_ireti rfl d_36_71
    · refine A_iconst d_36_49 (by decide) ?_
      exact A_ireti rfl d_36_50
  refine A_if (fun e1_2 => ?_) (fun e1_2 => ?_)
  · refine A_tab (t := 72) d_36_1 (by rw [e1_2]; decide) ?_
    refine A_aload_n d_36_72 rfl ?_
    refine A_getfA rfl d_36_73 kF_1_18 (fun v73 => ?_)
    refine A_iconst d_36_76 (by decide) ?_
    refine A_sipush d_36_77 (by decide) ?_
    refine A_iload_n d_36_80 rfl ?_
    refine A_iadd d_36_81 ?_
    refine A_iast rfl d_36_82 (fun h82 => ?_)
    refine A_aload_n d_36_83 rfl ?_
    refine A_iload_n d_36_84 rfl ?_
    refine A_call (t := 37) (way := 0) rfl d_36_85 rfl (cl kI_1_117 rfl) rfl (by decide) rfl (fun q85 => ?_)
    exact A_ireti rfl d_36_88
  refine A_if (fun e1_3 => ?_) (fun e1_3 => ?_)
  · refine A_tab (t := 89) d_36_1 (by rw [e1_3]; decide) ?_
    refine A_aload_n d_36_89 rfl ?_
    refine A_iload_n d_36_90 rfl ?_
    refine A_call (t := 32) (way := 0) rfl d_36_91 rfl (cl kI_1_90 rfl) rfl (by decide) rfl (fun q91 => ?_)
    refine A_call (t := 34) (way := 2) rfl d_36_94 rfl (cl kI_1_123 rfl) rfl (by decide) rfl (fun q94 => ?_)
    refine A_eq0 (t := 116) d_36_97 (by decide) ?_ ?_
    · refine A_iconst d_36_116 (by decide) ?_
      exact A_ireti rfl d_36_117
    · refine A_aload_n d_36_100 rfl ?_
      refine A_aload_n d_36_101 rfl ?_
      refine A_iload_n d_36_102 rfl ?_
      refine A_call (t := 32) (way := 0) rfl d_36_103 rfl (cl kI_1_90 rfl) rfl (by decide) rfl (fun q103 => ?_)
      refine A_sipush d_36_106 (by decide) ?_
      refine A_isub d_36_109 ?_
      refine A_call (t := 37) (way := 0) rfl d_36_110 rfl (cl kI_1_117 rfl) rfl (by decide) rfl (fun q110 => ?_)
      refine A_goto (t := 117) d_36_113 (by decide) ?_
      exact A_ireti rfl d_36_117
  refine A_tab (t := 118) d_36_1 (by rw [if_pos (by omega)]; decide) ?_
  refine A_aload_n d_36_118 rfl ?_
  refine A_iconst d_36_119 (by decide) ?_
  refine A_call (t := 32) (way := 0) rfl d_36_120 rfl (cl kI_1_90 rfl) rfl (by decide) rfl (fun q120 => ?_)
  refine A_call (t := 33) (way := 2) rfl d_36_123 rfl (cl kI_1_120 rfl) rfl (by decide) rfl (fun q123 => ?_)
  refine A_eq0 (t := 133) d_36_126 (by decide) ?_ ?_
  · refine A_iconst d_36_133 (by decide) ?_
    exact A_ireti rfl d_36_134
  · refine A_iconst d_36_129 (by decide) ?_
    refine A_goto (t := 134) d_36_130 (by decide) ?_
    exact A_ireti rfl d_36_134
set_option maxRecDepth 20000 in
theorem q_Mc_goOnAt (a0 : Nat) (x1 : Int) (h : mH) (ho : isO h a0 1 = true) : F_Mc_goOnAt a0 x1 h =
  (F_Mc_goTo a0 x1 h).bind fun h2 =>
  some (0, h2) := by
  refine (congrArg asI (if_pos ho)).trans ?_
  show asI (Lim 37 0 [some (.inr (.inr a0)), some (.inl x1)] [] h) = _
  refine A_aload_n d_37_0 rfl ?_
  refine A_iload_n d_37_1 rfl ?_
  refine A_callU (t := 31) (way := 0) rfl d_37_2 rfl (cl kI_1_57 rfl) rfl rfl rfl (fun h2 => ?_)
  refine A_iconst d_37_5 (by decide) ?_
  exact A_ireti rfl d_37_6
set_option maxRecDepth 20000 in
theorem q_Mc_goOnBehind (a0 : Nat) (h : mH) (ho : isO h a0 1 = true) : F_Mc_goOnBehind a0 h =
  (gfd 1 8 h a0).bind fun v2 =>
  (pfd 1 8 h a0 (w32 (v2 + 1))).bind fun h7 =>
  some (0, h7) := by
  refine (congrArg asI (if_pos ho)).trans ?_
  show asI (Lim 38 0 [some (.inr (.inr a0))] [] h) = _
  refine A_aload_n d_38_0 rfl ?_
  refine A_dup d_38_1 rfl ?_
  refine A_getfI rfl d_38_2 kF_1_75 (by decide) (fun v2 => ?_)
  refine A_iconst d_38_5 (by decide) ?_
  refine A_iadd d_38_6 ?_
  refine A_putfI rfl d_38_7 kF_1_75 rfl (fun h7 => ?_)
  refine A_iconst d_38_10 (by decide) ?_
  exact A_ireti rfl d_38_11
set_option maxRecDepth 20000 in
theorem q_Mc_goOnWith_16 (a0 : Nat) (x1 : Int) (x2 : Int) (h : mH) : B_Mc_goOnWith_16 a0 x1 x2 h =
  (F_Mc_goOnBehind a0 h).bind fun q17 =>
  some (q17.1, q17.2) := by
  unfold B_Mc_goOnWith_16
  refine A_aload_n d_39_16 rfl ?_
  refine A_call (t := 38) (way := 0) rfl d_39_17 rfl (cl kI_1_108 rfl) rfl (by decide) rfl (fun q17 => ?_)
  exact A_ireti rfl d_39_20
set_option maxRecDepth 20000 in
theorem q_Mc_goOnWith (a0 : Nat) (x1 : Int) (x2 : Int) (h : mH) (ho : isO h a0 1 = true) : F_Mc_goOnWith a0 x1 x2 h =
  if x1 < 0 then
    (B_Mc_goOnWith_16 a0 x1 x2 h)
  else
    (if 4 ≤ x1 then
      (B_Mc_goOnWith_16 a0 x1 x2 h)
    else
      ((gfd 1 1 h a0).bind fun v10 =>
      (ast h v10.toNat x1 x2).bind fun h15 =>
      B_Mc_goOnWith_16 a0 x1 x2 h15)) := by
  refine (congrArg asI (if_pos ho)).trans ?_
  show asI (Lim 39 0 [some (.inr (.inr a0)), some (.inl x1), some (.inl x2)] [] h) = _
  refine A_iload_n d_39_0 rfl ?_
  refine A_lt0 (t := 16) d_39_1 (by decide) ?_ ?_
  · exact rfl
  · refine A_iload_n d_39_4 rfl ?_
    refine A_iconst d_39_5 (by decide) ?_
    refine A_ge (t := 16) d_39_6 (by decide) ?_ ?_
    · exact rfl
    · refine A_aload_n d_39_9 rfl ?_
      refine A_getfA rfl d_39_10 kF_1_18 (fun v10 => ?_)
      refine A_iload_n d_39_13 rfl ?_
      refine A_iload_n d_39_14 rfl ?_
      refine A_iast rfl d_39_15 (fun h15 => ?_)
      exact rfl
set_option maxRecDepth 20000 in
theorem q_Mc_sum (a0 : Nat) (x1 : Int) (x2 : Int) (h : mH) (ho : isO h a0 1 = true) : F_Mc_sum a0 x1 x2 h =
  (F_Mc_register a0 x1 h).bind fun q2 =>
  (F_Mc_isWord q2.1 q2.2).bind fun q5 =>
  if q5.1 = 0 then
    (some (2, q5.2))
  else
    ((F_Mc_register a0 x2 q5.2).bind fun q13 =>
    (F_Mc_isWord q13.1 q13.2).bind fun q16 =>
    if q16.1 ≠ 0 then
      ((F_Mc_register a0 x1 q16.2).bind fun q28 =>
      (F_Mc_register a0 x2 q28.2).bind fun q33 =>
      (F_Mc_goOnWith a0 x1 (Int.tmod (w32 (q28.1 + q33.1)) 10000) q33.2).bind fun q41 =>
      some (q41.1, q41.2))
    else
      (some (2, q16.2))) := by
  refine (congrArg asI (if_pos ho)).trans ?_
  show asI (Lim 40 0 [some (.inr (.inr a0)), some (.inl x1), some (.inl x2)] [] h) = _
  refine A_aload_n d_40_0 rfl ?_
  refine A_iload_n d_40_1 rfl ?_
  refine A_call (t := 32) (way := 0) rfl d_40_2 rfl (cl kI_1_90 rfl) rfl (by decide) rfl (fun q2 => ?_)
  refine A_call (t := 33) (way := 2) rfl d_40_5 rfl (cl kI_1_120 rfl) rfl (by decide) rfl (fun q5 => ?_)
  refine A_eq0 (t := 22) d_40_8 (by decide) ?_ ?_
  · refine A_iconst d_40_22 (by decide) ?_
    exact A_ireti rfl d_40_23
  · refine A_aload_n d_40_11 rfl ?_
    refine A_iload_n d_40_12 rfl ?_
    refine A_call (t := 32) (way := 0) rfl d_40_13 rfl (cl kI_1_90 rfl) rfl (by decide) rfl (fun q13 => ?_)
    refine A_call (t := 33) (way := 2) rfl d_40_16 rfl (cl kI_1_120 rfl) rfl (by decide) rfl (fun q16 => ?_)
    refine A_ne0 (t := 24) d_40_19 (by decide) ?_ ?_
    · refine A_aload_n d_40_24 rfl ?_
      refine A_iload_n d_40_25 rfl ?_
      refine A_aload_n d_40_26 rfl ?_
      refine A_iload_n d_40_27 rfl ?_
      refine A_call (t := 32) (way := 0) rfl d_40_28 rfl (cl kI_1_90 rfl) rfl (by decide) rfl (fun q28 => ?_)
      refine A_aload_n d_40_31 rfl ?_
      refine A_iload_n d_40_32 rfl ?_
      refine A_call (t := 32) (way := 0) rfl d_40_33 rfl (cl kI_1_90 rfl) rfl (by decide) rfl (fun q33 => ?_)
      refine A_iadd d_40_36 ?_
      refine A_sipush d_40_37 (by decide) ?_
      refine A_irem d_40_40 (by decide) ?_
      refine A_call (t := 39) (way := 0) rfl d_40_41 rfl (cl kI_1_93 rfl) rfl (by decide) rfl (fun q41 => ?_)
      exact A_ireti rfl d_40_44
    · refine A_iconst d_40_22 (by decide) ?_
      exact A_ireti rfl d_40_23
set_option maxRecDepth 20000 in
theorem q_Mc_makeTuple_33 (a0 : Nat) (x1 : Int) (x2 : Int) (x3 : Int) (x4 : Int) (h : mH) : B_Mc_makeTuple_33 a0 x1 x2 x3 x4 h =
  if 3 ≤ x4 then
    ((gfd 1 6 h a0).bind fun v59 =>
    (pfd 1 6 h a0 (w32 (v59 + 1))).bind fun h64 =>
    (F_Mc_goOnWith a0 x1 (w32 (20000 + x3)) h64).bind fun q74 =>
    some (q74.1, q74.2))
  else
    ((gfd 1 4 h a0).bind fun v40 =>
    (ast h v40.toNat (w32 ((w32 (x3 * 3)) + x4)) (-1)).bind fun h50 =>
    B_Mc_makeTuple_33 a0 x1 x2 x3 (w32 (x4 + 1)) h50) := by
  unfold B_Mc_makeTuple_33
  refine A_iload d_41_33 rfl ?_
  refine A_iconst d_41_35 (by decide) ?_
  refine A_ge (t := 57) d_41_36 (by decide) ?_ ?_
  · refine A_aload_n d_41_57 rfl ?_
    refine A_dup d_41_58 rfl ?_
    refine A_getfI rfl d_41_59 kF_1_69 (by decide) (fun v59 => ?_)
    refine A_iconst d_41_62 (by decide) ?_
    refine A_iadd d_41_63 ?_
    refine A_putfI rfl d_41_64 kF_1_69 rfl (fun h64 => ?_)
    refine A_aload_n d_41_67 rfl ?_
    refine A_iload_n d_41_68 rfl ?_
    refine A_sipush d_41_69 (by decide) ?_
    refine A_iload_n d_41_72 rfl ?_
    refine A_iadd d_41_73 ?_
    refine A_call (t := 39) (way := 0) rfl d_41_74 rfl (cl kI_1_93 rfl) rfl (by decide) rfl (fun q74 => ?_)
    exact A_ireti rfl d_41_77
  · refine A_aload_n d_41_39 rfl ?_
    refine A_getfA rfl d_41_40 kF_1_28 (fun v40 => ?_)
    refine A_iload_n d_41_43 rfl ?_
    refine A_iconst d_41_44 (by decide) ?_
    refine A_imul d_41_45 ?_
    refine A_iload d_41_46 rfl ?_
    refine A_iadd d_41_48 ?_
    refine A_iconst d_41_49 (by decide) ?_
    refine A_iast rfl d_41_50 (fun h50 => ?_)
    refine A_iinc d_41_51 (by decide) rfl rfl ?_
    refine A_goto (t := 33) d_41_54 (by decide) ?_
    exact rfl
set_option maxRecDepth 20000 in
theorem q_Mc_makeTuple (a0 : Nat) (x1 : Int) (x2 : Int) (h : mH) (ho : isO h a0 1 = true) : F_Mc_makeTuple a0 x1 x2 h =
  (gfd 1 6 h a0).bind fun v1 =>
  if v1 < 0 then
    (some (3, h))
  else
    ((gfd 1 6 h a0).bind fun v8 =>
    if v8 < 12 then
      ((gfd 1 6 h a0).bind fun v19 =>
      (gfd 1 3 h a0).bind fun v24 =>
      (ast h v24.toNat v19 x2).bind fun h29 =>
      B_Mc_makeTuple_33 a0 x1 x2 v19 0 h29)
    else
      (some (3, h))) := by
  refine (congrArg asI (if_pos ho)).trans ?_
  show asI (Lim 41 0 [some (.inr (.inr a0)), some (.inl x1), some (.inl x2), none, none] [] h) = _
  refine A_aload_n d_41_0 rfl ?_
  refine A_getfI rfl d_41_1 kF_1_69 (by decide) (fun v1 => ?_)
  refine A_lt0 (t := 16) d_41_4 (by decide) ?_ ?_
  · refine A_iconst d_41_16 (by decide) ?_
    exact A_ireti rfl d_41_17
  · refine A_aload_n d_41_7 rfl ?_
    refine A_getfI rfl d_41_8 kF_1_69 (by decide) (fun v8 => ?_)
    refine A_bipush d_41_11 (by decide) ?_
    refine A_lt (t := 18) d_41_13 (by decide) ?_ ?_
    · refine A_aload_n d_41_18 rfl ?_
      refine A_getfI rfl d_41_19 kF_1_69 (by decide) (fun v19 => ?_)
      refine A_istore_n d_41_22 rfl ?_
      refine A_aload_n d_41_23 rfl ?_
      refine A_getfA rfl d_41_24 kF_1_25 (fun v24 => ?_)
      refine A_iload_n d_41_27 rfl ?_
      refine A_iload_n d_41_28 rfl ?_
      refine A_iast rfl d_41_29 (fun h29 => ?_)
      refine A_iconst d_41_30 (by decide) ?_
      refine A_istore d_41_31 rfl ?_
      exact rfl
    · refine A_iconst d_41_16 (by decide) ?_
      exact A_ireti rfl d_41_17
set_option maxRecDepth 20000 in
theorem q_Mc_fieldAt (a0 : Nat) (x1 : Int) (x2 : Int) (h : mH) (ho : isO h a0 1 = true) : F_Mc_fieldAt a0 x1 x2 h =
  if w32 (x1 - 20000) < 0 then
    (some ((-1), h))
  else
    (if 12 ≤ w32 (x1 - 20000) then
      (some ((-1), h))
    else
      (if x2 < 0 then
        (some ((-1), h))
      else
        ((gfd 1 0 h a0).bind fun v22 =>
        (gfd 1 3 h a0).bind fun v26 =>
        (ald 10 h v26.toNat (w32 (x1 - 20000))).bind fun v30 =>
        (F_Pg_fields v22.toNat v30 h).bind fun q31 =>
        if x2 < q31.1 then
          (some (w32 ((w32 ((w32 (x1 - 20000)) * 3)) + x2), q31.2))
        else
          (some ((-1), q31.2))))) := by
  refine (congrArg asI (if_pos ho)).trans ?_
  show asI (Lim 42 0 [some (.inr (.inr a0)), some (.inl x1), some (.inl x2), none] [] h) = _
  refine A_iload_n d_42_0 rfl ?_
  refine A_sipush d_42_1 (by decide) ?_
  refine A_isub d_42_4 ?_
  refine A_istore_n d_42_5 rfl ?_
  refine A_iload_n d_42_6 rfl ?_
  refine A_lt0 (t := 37) d_42_7 (by decide) ?_ ?_
  · refine A_iconst d_42_37 (by decide) ?_
    exact A_ireti rfl d_42_38
  · refine A_iload_n d_42_10 rfl ?_
    refine A_bipush d_42_11 (by decide) ?_
    refine A_ge (t := 37) d_42_13 (by decide) ?_ ?_
    · refine A_iconst d_42_37 (by decide) ?_
      exact A_ireti rfl d_42_38
    · refine A_iload_n d_42_16 rfl ?_
      refine A_lt0 (t := 37) d_42_17 (by decide) ?_ ?_
      · refine A_iconst d_42_37 (by decide) ?_
        exact A_ireti rfl d_42_38
      · refine A_iload_n d_42_20 rfl ?_
        refine A_aload_n d_42_21 rfl ?_
        refine A_getfA rfl d_42_22 kF_1_14 (fun v22 => ?_)
        refine A_aload_n d_42_25 rfl ?_
        refine A_getfA rfl d_42_26 kF_1_25 (fun v26 => ?_)
        refine A_iload_n d_42_29 rfl ?_
        refine A_iald rfl d_42_30 (fun v30 => ?_)
        refine A_call (t := 59) (way := 0) rfl d_42_31 rfl (cl kI_1_126 rfl) rfl (by decide) rfl (fun q31 => ?_)
        refine A_lt (t := 39) d_42_34 (by decide) ?_ ?_
        · refine A_iload_n d_42_39 rfl ?_
          refine A_iconst d_42_40 (by decide) ?_
          refine A_imul d_42_41 ?_
          refine A_iload_n d_42_42 rfl ?_
          refine A_iadd d_42_43 ?_
          exact A_ireti rfl d_42_44
        · refine A_iconst d_42_37 (by decide) ?_
          exact A_ireti rfl d_42_38
set_option maxRecDepth 20000 in
theorem q_Mc_setField (a0 : Nat) (x1 : Int) (x2 : Int) (x3 : Int) (h : mH) (ho : isO h a0 1 = true) : F_Mc_setField a0 x1 x2 x3 h =
  (F_Mc_register a0 x1 h).bind fun q3 =>
  (F_Mc_fieldAt a0 q3.1 x2 q3.2).bind fun q7 =>
  if q7.1 < 0 then
    (some (2, q7.2))
  else
    ((gfd 1 4 q7.2 a0).bind fun v20 =>
    (aln q7.2 v20.toNat).bind fun v23 =>
    if q7.1 < v23 then
      ((gfd 1 4 q7.2 a0).bind fun v30 =>
      (F_Mc_register a0 x3 q7.2).bind fun q37 =>
      (ast q37.2 v30.toNat q7.1 q37.1).bind fun h40 =>
      (F_Mc_goOnBehind a0 h40).bind fun q42 =>
      some (q42.1, q42.2))
    else
      (some (2, q7.2))) := by
  refine (congrArg asI (if_pos ho)).trans ?_
  show asI (Lim 43 0 [some (.inr (.inr a0)), some (.inl x1), some (.inl x2), some (.inl x3), none] [] h) = _
  refine A_aload_n d_43_0 rfl ?_
  refine A_aload_n d_43_1 rfl ?_
  refine A_iload_n d_43_2 rfl ?_
  refine A_call (t := 32) (way := 0) rfl d_43_3 rfl (cl kI_1_90 rfl) rfl (by decide) rfl (fun q3 => ?_)
  refine A_iload_n d_43_6 rfl ?_
  refine A_call (t := 42) (way := 0) rfl d_43_7 rfl (cl kI_1_128 rfl) rfl (by decide) rfl (fun q7 => ?_)
  refine A_istore d_43_10 rfl ?_
  refine A_iload d_43_12 rfl ?_
  refine A_lt0 (t := 27) d_43_14 (by decide) ?_ ?_
  · refine A_iconst d_43_27 (by decide) ?_
    exact A_ireti rfl d_43_28
  · refine A_iload d_43_17 rfl ?_
    refine A_aload_n d_43_19 rfl ?_
    refine A_getfA rfl d_43_20 kF_1_28 (fun v20 => ?_)
    refine A_alen rfl d_43_23 (fun v23 => ?_)
    refine A_lt (t := 29) d_43_24 (by decide) ?_ ?_
    · refine A_aload_n d_43_29 rfl ?_
      refine A_getfA rfl d_43_30 kF_1_28 (fun v30 => ?_)
      refine A_iload d_43_33 rfl ?_
      refine A_aload_n d_43_35 rfl ?_
      refine A_iload_n d_43_36 rfl ?_
      refine A_call (t := 32) (way := 0) rfl d_43_37 rfl (cl kI_1_90 rfl) rfl (by decide) rfl (fun q37 => ?_)
      refine A_iast rfl d_43_40 (fun h40 => ?_)
      refine A_aload_n d_43_41 rfl ?_
      refine A_call (t := 38) (way := 0) rfl d_43_42 rfl (cl kI_1_108 rfl) rfl (by decide) rfl (fun q42 => ?_)
      exact A_ireti rfl d_43_45
    · refine A_iconst d_43_27 (by decide) ?_
      exact A_ireti rfl d_43_28
set_option maxRecDepth 20000 in
theorem q_Mc_getField (a0 : Nat) (x1 : Int) (x2 : Int) (x3 : Int) (h : mH) (ho : isO h a0 1 = true) : F_Mc_getField a0 x1 x2 x3 h =
  (F_Mc_register a0 x2 h).bind fun q3 =>
  (F_Mc_fieldAt a0 q3.1 x3 q3.2).bind fun q7 =>
  if q7.1 < 0 then
    (some (2, q7.2))
  else
    ((gfd 1 4 q7.2 a0).bind fun v20 =>
    (aln q7.2 v20.toNat).bind fun v23 =>
    if v23 ≤ q7.1 then
      (some (2, q7.2))
    else
      ((gfd 1 4 q7.2 a0).bind fun v28 =>
      (ald 10 q7.2 v28.toNat q7.1).bind fun v33 =>
      if v33 ≠ (-1) then
        ((gfd 1 4 q7.2 a0).bind fun v43 =>
        (ald 10 q7.2 v43.toNat q7.1).bind fun v48 =>
        (F_Mc_goOnWith a0 x1 v48 q7.2).bind fun q49 =>
        some (q49.1, q49.2))
      else
        (some (2, q7.2)))) := by
  refine (congrArg asI (if_pos ho)).trans ?_
  show asI (Lim 44 0 [some (.inr (.inr a0)), some (.inl x1), some (.inl x2), some (.inl x3), none] [] h) = _
  refine A_aload_n d_44_0 rfl ?_
  refine A_aload_n d_44_1 rfl ?_
  refine A_iload_n d_44_2 rfl ?_
  refine A_call (t := 32) (way := 0) rfl d_44_3 rfl (cl kI_1_90 rfl) rfl (by decide) rfl (fun q3 => ?_)
  refine A_iload_n d_44_6 rfl ?_
  refine A_call (t := 42) (way := 0) rfl d_44_7 rfl (cl kI_1_128 rfl) rfl (by decide) rfl (fun q7 => ?_)
  refine A_istore d_44_10 rfl ?_
  refine A_iload d_44_12 rfl ?_
  refine A_lt0 (t := 38) d_44_14 (by decide) ?_ ?_
  · refine A_iconst d_44_38 (by decide) ?_
    exact A_ireti rfl d_44_39
  · refine A_iload d_44_17 rfl ?_
    refine A_aload_n d_44_19 rfl ?_
    refine A_getfA rfl d_44_20 kF_1_28 (fun v20 => ?_)
    refine A_alen rfl d_44_23 (fun v23 => ?_)
    refine A_ge (t := 38) d_44_24 (by decide) ?_ ?_
    · refine A_iconst d_44_38 (by decide) ?_
      exact A_ireti rfl d_44_39
    · refine A_aload_n d_44_27 rfl ?_
      refine A_getfA rfl d_44_28 kF_1_28 (fun v28 => ?_)
      refine A_iload d_44_31 rfl ?_
      refine A_iald rfl d_44_33 (fun v33 => ?_)
      refine A_iconst d_44_34 (by decide) ?_
      refine A_ne (t := 40) d_44_35 (by decide) ?_ ?_
      · refine A_aload_n d_44_40 rfl ?_
        refine A_iload_n d_44_41 rfl ?_
        refine A_aload_n d_44_42 rfl ?_
        refine A_getfA rfl d_44_43 kF_1_28 (fun v43 => ?_)
        refine A_iload d_44_46 rfl ?_
        refine A_iald rfl d_44_48 (fun v48 => ?_)
        refine A_call (t := 39) (way := 0) rfl d_44_49 rfl (cl kI_1_93 rfl) rfl (by decide) rfl (fun q49 => ?_)
        exact A_ireti rfl d_44_52
      · refine A_iconst d_44_38 (by decide) ?_
        exact A_ireti rfl d_44_39
set_option maxRecDepth 20000 in
theorem q_Mc_push (a0 : Nat) (x1 : Int) (h : mH) (ho : isO h a0 1 = true) : F_Mc_push a0 x1 h =
  (gfd 1 5 h a0).bind fun v1 =>
  if v1 < 0 then
    (some (0, h))
  else
    ((gfd 1 5 h a0).bind fun v8 =>
    if v8 < 16 then
      ((gfd 1 2 h a0).bind fun v19 =>
      (gfd 1 5 h a0).bind fun v23 =>
      (ast h v19.toNat v23 x1).bind fun h27 =>
      (gfd 1 5 h27 a0).bind fun v30 =>
      (pfd 1 5 h27 a0 (w32 (v30 + 1))).bind fun h35 =>
      some (1, h35))
    else
      (some (0, h))) := by
  refine (congrArg asI (if_pos ho)).trans ?_
  show asI (Lim 45 0 [some (.inr (.inr a0)), some (.inl x1)] [] h) = _
  refine A_aload_n d_45_0 rfl ?_
  refine A_getfI rfl d_45_1 kF_1_42 (by decide) (fun v1 => ?_)
  refine A_lt0 (t := 16) d_45_4 (by decide) ?_ ?_
  · refine A_iconst d_45_16 (by decide) ?_
    exact A_iretz rfl d_45_17 (by decide)
  · refine A_aload_n d_45_7 rfl ?_
    refine A_getfI rfl d_45_8 kF_1_42 (by decide) (fun v8 => ?_)
    refine A_bipush d_45_11 (by decide) ?_
    refine A_lt (t := 18) d_45_13 (by decide) ?_ ?_
    · refine A_aload_n d_45_18 rfl ?_
      refine A_getfA rfl d_45_19 kF_1_22 (fun v19 => ?_)
      refine A_aload_n d_45_22 rfl ?_
      refine A_getfI rfl d_45_23 kF_1_42 (by decide) (fun v23 => ?_)
      refine A_iload_n d_45_26 rfl ?_
      refine A_iast rfl d_45_27 (fun h27 => ?_)
      refine A_aload_n d_45_28 rfl ?_
      refine A_dup d_45_29 rfl ?_
      refine A_getfI rfl d_45_30 kF_1_42 (by decide) (fun v30 => ?_)
      refine A_iconst d_45_33 (by decide) ?_
      refine A_iadd d_45_34 ?_
      refine A_putfI rfl d_45_35 kF_1_42 rfl (fun h35 => ?_)
      refine A_iconst d_45_38 (by decide) ?_
      exact A_iretz rfl d_45_39 (by decide)
    · refine A_iconst d_45_16 (by decide) ?_
      exact A_iretz rfl d_45_17 (by decide)
set_option maxRecDepth 20000 in
theorem q_Mc_pop (a0 : Nat) (x1 : Int) (h : mH) (ho : isO h a0 1 = true) : F_Mc_pop a0 x1 h =
  (gfd 1 5 h a0).bind fun v1 =>
  if w32 (v1 - 1) < 0 then
    (some (2, h))
  else
    (if w32 (v1 - 1) < 16 then
      ((pfd 1 5 h a0 (w32 (v1 - 1))).bind fun h21 =>
      (gfd 1 2 h21 a0).bind fun v27 =>
      (ald 10 h21 v27.toNat (w32 (v1 - 1))).bind fun v31 =>
      (F_Mc_goOnWith a0 x1 v31 h21).bind fun q32 =>
      some (q32.1, q32.2))
    else
      (some (2, h))) := by
  refine (congrArg asI (if_pos ho)).trans ?_
  show asI (Lim 46 0 [some (.inr (.inr a0)), some (.inl x1), none] [] h) = _
  refine A_aload_n d_46_0 rfl ?_
  refine A_getfI rfl d_46_1 kF_1_42 (by decide) (fun v1 => ?_)
  refine A_iconst d_46_4 (by decide) ?_
  refine A_isub d_46_5 ?_
  refine A_istore_n d_46_6 rfl ?_
  refine A_iload_n d_46_7 rfl ?_
  refine A_lt0 (t := 17) d_46_8 (by decide) ?_ ?_
  · refine A_iconst d_46_17 (by decide) ?_
    exact A_ireti rfl d_46_18
  · refine A_iload_n d_46_11 rfl ?_
    refine A_bipush d_46_12 (by decide) ?_
    refine A_lt (t := 19) d_46_14 (by decide) ?_ ?_
    · refine A_aload_n d_46_19 rfl ?_
      refine A_iload_n d_46_20 rfl ?_
      refine A_putfI rfl d_46_21 kF_1_42 rfl (fun h21 => ?_)
      refine A_aload_n d_46_24 rfl ?_
      refine A_iload_n d_46_25 rfl ?_
      refine A_aload_n d_46_26 rfl ?_
      refine A_getfA rfl d_46_27 kF_1_22 (fun v27 => ?_)
      refine A_iload_n d_46_30 rfl ?_
      refine A_iald rfl d_46_31 (fun v31 => ?_)
      refine A_call (t := 39) (way := 0) rfl d_46_32 rfl (cl kI_1_93 rfl) rfl (by decide) rfl (fun q32 => ?_)
      exact A_ireti rfl d_46_35
    · refine A_iconst d_46_17 (by decide) ?_
      exact A_ireti rfl d_46_18

/-! equations of Tx (by program) -/
set_option maxRecDepth 20000 in
theorem q_Tx_append (a0 : Nat) (x1 : Int) (h : mH) (ho : isO h a0 4 = true) : F_Tx_append a0 x1 h =
  (gfd 4 2 h a0).bind fun v1 =>
  if v1 < 0 then
    (some (0, h))
  else
    ((gfd 4 2 h a0).bind fun v8 =>
    if v8 < 200 then
      ((gfd 4 1 h a0).bind fun v20 =>
      (gfd 4 2 h a0).bind fun v24 =>
      (ast h v20.toNat v24 x1).bind fun h28 =>
      (gfd 4 2 h28 a0).bind fun v31 =>
      (pfd 4 2 h28 a0 (w32 (v31 + 1))).bind fun h36 =>
      some (1, h36))
    else
      (some (0, h))) := by
  refine (congrArg asI (if_pos ho)).trans ?_
  show asI (Lim 91 0 [some (.inr (.inr a0)), some (.inl x1)] [] h) = _
  refine A_aload_n d_91_0 rfl ?_
  refine A_getfI rfl d_91_1 kF_4_22 (by decide) (fun v1 => ?_)
  refine A_lt0 (t := 17) d_91_4 (by decide) ?_ ?_
  · refine A_iconst d_91_17 (by decide) ?_
    exact A_iretz rfl d_91_18 (by decide)
  · refine A_aload_n d_91_7 rfl ?_
    refine A_getfI rfl d_91_8 kF_4_22 (by decide) (fun v8 => ?_)
    refine A_sipush d_91_11 (by decide) ?_
    refine A_lt (t := 19) d_91_14 (by decide) ?_ ?_
    · refine A_aload_n d_91_19 rfl ?_
      refine A_getfA rfl d_91_20 kF_4_18 (fun v20 => ?_)
      refine A_aload_n d_91_23 rfl ?_
      refine A_getfI rfl d_91_24 kF_4_22 (by decide) (fun v24 => ?_)
      refine A_iload_n d_91_27 rfl ?_
      refine A_iast rfl d_91_28 (fun h28 => ?_)
      refine A_aload_n d_91_29 rfl ?_
      refine A_dup d_91_30 rfl ?_
      refine A_getfI rfl d_91_31 kF_4_22 (by decide) (fun v31 => ?_)
      refine A_iconst d_91_34 (by decide) ?_
      refine A_iadd d_91_35 ?_
      refine A_putfI rfl d_91_36 kF_4_22 rfl (fun h36 => ?_)
      refine A_iconst d_91_39 (by decide) ?_
      exact A_iretz rfl d_91_40 (by decide)
    · refine A_iconst d_91_17 (by decide) ?_
      exact A_iretz rfl d_91_18 (by decide)
set_option maxRecDepth 20000 in
theorem q_Tx_readAll_14 (a0 : Nat) (x1 : Int) (o2 : Option mV) (h : mH) : B_Tx_readAll_14 a0 x1 o2 h =
  if 200 ≤ x1 then
    (some ((-4), h))
  else
    ((gfd 4 3 h a0).bind fun v22 =>
    (gfd 4 2 h a0).bind fun v26 =>
    if v26 ≤ v22 then
      (some ((-4), h))
    else
      ((gfd 4 3 h a0).bind fun v33 =>
      (F_Tx_readItem a0 h).bind fun q38 =>
      if q38.1 ≠ 0 then
        (B_Tx_readAll_14 a0 (w32 (x1 + 1)) (some (.inl v33)) q38.2)
      else
        (some (v33, q38.2)))) := by
  unfold B_Tx_readAll_14
  refine A_iload_n d_92_14 rfl ?_
  refine A_sipush d_92_15 (by decide) ?_
  refine A_ge (t := 52) d_92_18 (by decide) ?_ ?_
  · refine A_bipush d_92_52 (by decide) ?_
    exact A_ireti rfl d_92_54
  · refine A_aload_n d_92_21 rfl ?_
    refine A_getfI rfl d_92_22 kF_4_26 (by decide) (fun v22 => ?_)
    refine A_aload_n d_92_25 rfl ?_
    refine A_getfI rfl d_92_26 kF_4_22 (by decide) (fun v26 => ?_)
    refine A_ge (t := 52) d_92_29 (by decide) ?_ ?_
    · refine A_bipush d_92_52 (by decide) ?_
      exact A_ireti rfl d_92_54
    · refine A_aload_n d_92_32 rfl ?_
      refine A_getfI rfl d_92_33 kF_4_26 (by decide) (fun v33 => ?_)
      refine A_istore_n d_92_36 rfl ?_
      refine A_aload_n d_92_37 rfl ?_
      refine A_call (t := 94) (way := 0) rfl d_92_38 rfl (cl kI_4_32 rfl) rfl (by decide) rfl (fun q38 => ?_)
      refine A_ne0 (t := 46) d_92_41 (by decide) ?_ ?_
      · refine A_iinc d_92_46 (by decide) rfl rfl ?_
        refine A_goto (t := 14) d_92_49 (by decide) ?_
        exact rfl
      · refine A_iload_n d_92_44 rfl ?_
        exact A_ireti rfl d_92_45
set_option maxRecDepth 20000 in
theorem q_Tx_readAll (a0 : Nat) (h : mH) (ho : isO h a0 4 = true) : F_Tx_readAll a0 h =
  (pfd 4 3 h a0 0).bind fun h2 =>
  (gfd 4 0 h2 a0).bind fun v6 =>
  (F_Pg_empty v6.toNat h2).bind fun h9 =>
  B_Tx_readAll_14 a0 0 none h9 := by
  refine (congrArg asI (if_pos ho)).trans ?_
  show asI (Lim 92 0 [some (.inr (.inr a0)), none, none] [] h) = _
  refine A_aload_n d_92_0 rfl ?_
  refine A_iconst d_92_1 (by decide) ?_
  refine A_putfI rfl d_92_2 kF_4_26 rfl (fun h2 => ?_)
  refine A_aload_n d_92_5 rfl ?_
  refine A_getfA rfl d_92_6 kF_4_12 (fun v6 => ?_)
  refine A_callU (t := 51) (way := 0) rfl d_92_9 rfl (cl kI_4_29 rfl) rfl rfl rfl (fun h9 => ?_)
  refine A_iconst d_92_12 (by decide) ?_
  refine A_istore_n d_92_13 rfl ?_
  exact rfl
set_option maxRecDepth 20000 in
theorem q_Tx_isClosed_4 (a0 : Nat) (x1 : Int) (x2 : Int) (h : mH) : B_Tx_isClosed_4 a0 x1 x2 h =
  (gfd 4 0 h a0).bind fun v6 =>
  (F_Pg_labels v6.toNat h).bind fun q9 =>
  if q9.1 ≤ x2 then
    ((gfd 4 0 q9.2 a0).bind fun v42 =>
    (F_Pg_labels v42.toNat q9.2).bind fun q45 =>
    if q45.1 ≤ 0 then
      (some (0, q45.2))
    else
      ((gfd 4 0 q45.2 a0).bind fun v53 =>
      (F_Pg_allLabels v53.toNat q45.2).bind fun q56 =>
      if iand x1 (ixor q56.1 (-1)) ≠ 0 then
        (some (0, q56.2))
      else
        (some (1, q56.2))))
  else
    ((gfd 4 0 q9.2 a0).bind fun v17 =>
    (F_Pg_targets v17.toNat x2 q9.2).bind fun q21 =>
    (gfd 4 0 q21.2 a0).bind fun v25 =>
    (F_Pg_wantedCode v25.toNat x2 q21.2).bind fun q29 =>
    B_Tx_isClosed_4 a0 (ior x1 (ior q21.1 q29.1)) (w32 (x2 + 1)) q29.2) := by
  unfold B_Tx_isClosed_4
  refine A_iload_n d_93_4 rfl ?_
  refine A_aload_n d_93_5 rfl ?_
  refine A_getfA rfl d_93_6 kF_4_12 (fun v6 => ?_)
  refine A_call (t := 53) (way := 0) rfl d_93_9 rfl (cl kI_4_36 rfl) rfl (by decide) rfl (fun q9 => ?_)
  refine A_ge (t := 41) d_93_12 (by decide) ?_ ?_
  · refine A_aload_n d_93_41 rfl ?_
    refine A_getfA rfl d_93_42 kF_4_12 (fun v42 => ?_)
    refine A_call (t := 53) (way := 0) rfl d_93_45 rfl (cl kI_4_36 rfl) rfl (by decide) rfl (fun q45 => ?_)
    refine A_le0 (t := 69) d_93_48 (by decide) ?_ ?_
    · refine A_iconst d_93_69 (by decide) ?_
      exact A_iretz rfl d_93_70 (by decide)
    · refine A_iload_n d_93_51 rfl ?_
      refine A_aload_n d_93_52 rfl ?_
      refine A_getfA rfl d_93_53 kF_4_12 (fun v53 => ?_)
      refine A_call (t := 54) (way := 0) rfl d_93_56 rfl (cl kI_4_47 rfl) rfl (by decide) rfl (fun q56 => ?_)
      refine A_iconst d_93_59 (by decide) ?_
      refine A_ixor d_93_60 ?_
      refine A_iand d_93_61 ?_
      refine A_ne0 (t := 69) d_93_62 (by decide) ?_ ?_
      · refine A_iconst d_93_69 (by decide) ?_
        exact A_iretz rfl d_93_70 (by decide)
      · refine A_iconst d_93_65 (by decide) ?_
        refine A_goto (t := 70) d_93_66 (by decide) ?_
        exact A_iretz rfl d_93_70 (by decide)
  · refine A_iload_n d_93_15 rfl ?_
    refine A_aload_n d_93_16 rfl ?_
    refine A_getfA rfl d_93_17 kF_4_12 (fun v17 => ?_)
    refine A_iload_n d_93_20 rfl ?_
    refine A_call (t := 83) (way := 0) rfl d_93_21 rfl (cl kI_4_40 rfl) rfl (by decide) rfl (fun q21 => ?_)
    refine A_aload_n d_93_24 rfl ?_
    refine A_getfA rfl d_93_25 kF_4_12 (fun v25 => ?_)
    refine A_iload_n d_93_28 rfl ?_
    refine A_call (t := 84) (way := 0) rfl d_93_29 rfl (cl kI_4_44 rfl) rfl (by decide) rfl (fun q29 => ?_)
    refine A_ior d_93_32 ?_
    refine A_ior d_93_33 ?_
    refine A_istore_n d_93_34 rfl ?_
    refine A_iinc d_93_35 (by decide) rfl rfl ?_
    refine A_goto (t := 4) d_93_38 (by decide) ?_
    exact rfl
set_option maxRecDepth 20000 in
theorem q_Tx_isClosed (a0 : Nat) (h : mH) (ho : isO h a0 4 = true) : F_Tx_isClosed a0 h =
  B_Tx_isClosed_4 a0 0 0 h := by
  refine (congrArg asI (if_pos ho)).trans ?_
  show asI (Lim 93 0 [some (.inr (.inr a0)), none, none] [] h) = _
  refine A_iconst d_93_0 (by decide) ?_
  refine A_istore_n d_93_1 rfl ?_
  refine A_iconst d_93_2 (by decide) ?_
  refine A_istore_n d_93_3 rfl ?_
  exact rfl
set_option maxRecDepth 20000 in
theorem q_Tx_readItem (a0 : Nat) (h : mH) (ho : isO h a0 4 = true) : F_Tx_readItem a0 h =
  (F_Tx_peek a0 h).bind fun q1 =>
  (gfd 4 3 q1.2 a0).bind fun v7 =>
  (pfd 4 3 q1.2 a0 (w32 (v7 + 1))).bind fun h12 =>
  if q1.1 = 105 then
    ((F_Tx_readInstruction a0 h12).bind fun q63 =>
    rz q63.1 q63.2)
  else if q1.1 = 108 then
    ((F_Tx_readLabel a0 h12).bind fun q58 =>
    rz q58.1 q58.2)
  else if q1.1 = 115 then
    ((F_Tx_readSort a0 h12).bind fun q53 =>
    rz q53.1 q53.2)
  else (some (0, h12)) := by
  refine (congrArg asI (if_pos ho)).trans ?_
  show asI (Lim 94 0 [some (.inr (.inr a0)), none] [] h) = _
  refine A_aload_n d_94_0 rfl ?_
  refine A_call (t := 99) (way := 0) rfl d_94_1 rfl (cl kI_4_50 rfl) rfl (by decide) rfl (fun q1 => ?_)
  refine A_istore_n d_94_4 rfl ?_
  refine A_aload_n d_94_5 rfl ?_
  refine A_dup d_94_6 rfl ?_
  refine A_getfI rfl d_94_7 kF_4_26 (by decide) (fun v7 => ?_)
  refine A_iconst d_94_10 (by decide) ?_
  refine A_iadd d_94_11 ?_
  refine A_putfI rfl d_94_12 kF_4_26 rfl (fun h12 => ?_)
  refine A_iload_n d_94_15 rfl ?_
  refine A_if (fun e16_0 => ?_) (fun e16_0 => ?_)
  · refine A_look (t := 62) d_94_16 (by decide) (by rw [e16_0]; decide) ?_
    refine A_aload_n d_94_62 rfl ?_
    refine A_call (t := 97) (way := 0) rfl d_94_63 rfl (cl kI_4_59 rfl) rfl (by decide) rfl (fun q63 => ?_)
    exact A_iretb rfl d_94_66
  refine A_if (fun e16_1 => ?_) (fun e16_1 => ?_)
  · refine A_look (t := 57) d_94_16 (by decide) (by rw [e16_1]; decide) ?_
    refine A_aload_n d_94_57 rfl ?_
    refine A_call (t := 96) (way := 0) rfl d_94_58 rfl (cl kI_4_56 rfl) rfl (by decide) rfl (fun q58 => ?_)
    exact A_iretb rfl d_94_61
  refine A_if (fun e16_2 => ?_) (fun e16_2 => ?_)
  · refine A_look (t := 52) d_94_16 (by decide) (by rw [e16_2]; decide) ?_
    refine A_aload_n d_94_52 rfl ?_
    refine A_call (t := 95) (way := 0) rfl d_94_53 rfl (cl kI_4_53 rfl) rfl (by decide) rfl (fun q53 => ?_)
    exact A_iretb rfl d_94_56
  refine A_look (t := 67) d_94_16 (by decide) (by simp only [Op.lookupswitch.offset]; (first | rw [if_neg e16_0] | rw [if_neg (Ne.symm e16_0)]); (first | rw [if_neg e16_1] | rw [if_neg (Ne.symm e16_1)]); (first | rw [if_neg e16_2] | rw [if_neg (Ne.symm e16_2)]); decide) ?_
  refine A_iconst d_94_67 (by decide) ?_
  exact A_iretz rfl d_94_68 (by decide)
set_option maxRecDepth 20000 in
theorem q_Tx_readSort_17 (a0 : Nat) (x1 : Int) (x2 : Int) (o3 : Option mV) (h : mH) : B_Tx_readSort_17 a0 x1 x2 o3 h =
  if 3 ≤ x2 then
    (B_Tx_readSort_71 a0 x1 x2 o3 h)
  else
    ((F_Tx_peek a0 h).bind fun q23 =>
    (F_Tx_isFigure q23.1 q23.2).bind fun q26 =>
    if q26.1 = 0 then
      (B_Tx_readSort_71 a0 x1 x2 o3 q26.2)
    else
      ((F_Tx_readFigure a0 q26.2).bind fun q33 =>
      if q33.1 ≤ x1 then
        ((gfd 4 0 q33.2 a0).bind fun v45 =>
        if q33.1 ≠ 0 then
          (B_Tx_readSort_62 a0 x1 x2 q33.1 (w32 ((w32 (2 + q33.1)) - 1)) x1 v45.toNat q33.2)
        else
          (B_Tx_readSort_62 a0 x1 x2 q33.1 1 x1 v45.toNat q33.2))
      else
        (some (0, q33.2)))) := by
  unfold B_Tx_readSort_17
  refine A_iload_n d_95_17 rfl ?_
  refine A_iconst d_95_18 (by decide) ?_
  refine A_ge (t := 71) d_95_19 (by decide) ?_ ?_
  · exact rfl
  · refine A_aload_n d_95_22 rfl ?_
    refine A_call (t := 99) (way := 0) rfl d_95_23 rfl (cl kI_4_50 rfl) rfl (by decide) rfl (fun q23 => ?_)
    refine A_call (t := 100) (way := 2) rfl d_95_26 rfl (cl kI_4_65 rfl) rfl (by decide) rfl (fun q26 => ?_)
    refine A_eq0 (t := 71) d_95_29 (by decide) ?_ ?_
    · exact rfl
    · refine A_aload_n d_95_32 rfl ?_
      refine A_call (t := 101) (way := 0) rfl d_95_33 rfl (cl kI_4_69 rfl) rfl (by decide) rfl (fun q33 => ?_)
      refine A_istore_n d_95_36 rfl ?_
      refine A_iload_n d_95_37 rfl ?_
      refine A_iload_n d_95_38 rfl ?_
      refine A_le (t := 44) d_95_39 (by decide) ?_ ?_
      · refine A_aload_n d_95_44 rfl ?_
        refine A_getfA rfl d_95_45 kF_4_12 (fun v45 => ?_)
        refine A_iload_n d_95_48 rfl ?_
        refine A_iload_n d_95_49 rfl ?_
        refine A_ne0 (t := 57) d_95_50 (by decide) ?_ ?_
        · refine A_iconst d_95_57 (by decide) ?_
          refine A_iload_n d_95_58 rfl ?_
          refine A_iadd d_95_59 ?_
          refine A_iconst d_95_60 (by decide) ?_
          refine A_isub d_95_61 ?_
          exact rfl
        · refine A_iconst d_95_53 (by decide) ?_
          refine A_goto (t := 62) d_95_54 (by decide) ?_
          exact rfl
      · refine A_iconst d_95_42 (by decide) ?_
        exact A_iretz rfl d_95_43 (by decide)
set_option maxRecDepth 20000 in
theorem q_Tx_readSort_62 (a0 : Nat) (x1 : Int) (x2 : Int) (x3 : Int) (s0 : Int) (s1 : Int) (sa2 : Nat) (h : mH) : B_Tx_readSort_62 a0 x1 x2 x3 s0 s1 sa2 h =
  (F_Pg_addField sa2 s1 s0 h).bind fun h62 =>
  B_Tx_readSort_17 a0 x1 (w32 (x2 + 1)) (some (.inl x3)) h62 := by
  unfold B_Tx_readSort_62
  refine A_callU (t := 62) (way := 0) rfl d_95_62 rfl (cl kI_4_72 rfl) rfl rfl rfl (fun h62 => ?_)
  refine A_iinc d_95_65 (by decide) rfl rfl ?_
  refine A_goto (t := 17) d_95_68 (by decide) ?_
  exact rfl
set_option maxRecDepth 20000 in
theorem q_Tx_readSort_71 (a0 : Nat) (x1 : Int) (x2 : Int) (o3 : Option mV) (h : mH) : B_Tx_readSort_71 a0 x1 x2 o3 h =
  (gfd 4 0 h a0).bind fun v72 =>
  (F_Pg_addSort v72.toNat h).bind fun h75 =>
  (gfd 4 0 h75 a0).bind fun v79 =>
  (F_Pg_fields v79.toNat x1 h75).bind fun q83 =>
  if q83.1 ≤ 0 then
    (some (0, q83.2))
  else
    ((F_Tx_passes a0 59 q83.2).bind fun q92 =>
    if q92.1 = 0 then
      (some (0, q92.2))
    else
      (some (1, q92.2))) := by
  unfold B_Tx_readSort_71
  refine A_aload_n d_95_71 rfl ?_
  refine A_getfA rfl d_95_72 kF_4_12 (fun v72 => ?_)
  refine A_callU (t := 61) (way := 0) rfl d_95_75 rfl (cl kI_4_76 rfl) rfl rfl rfl (fun h75 => ?_)
  refine A_aload_n d_95_78 rfl ?_
  refine A_getfA rfl d_95_79 kF_4_12 (fun v79 => ?_)
  refine A_iload_n d_95_82 rfl ?_
  refine A_call (t := 59) (way := 0) rfl d_95_83 rfl (cl kI_4_79 rfl) rfl (by decide) rfl (fun q83 => ?_)
  refine A_le0 (t := 102) d_95_86 (by decide) ?_ ?_
  · refine A_iconst d_95_102 (by decide) ?_
    exact A_iretz rfl d_95_103 (by decide)
  · refine A_aload_n d_95_89 rfl ?_
    refine A_bipush d_95_90 (by decide) ?_
    refine A_call (t := 103) (way := 0) rfl d_95_92 rfl (cl kI_4_82 rfl) rfl (by decide) rfl (fun q92 => ?_)
    refine A_eq0 (t := 102) d_95_95 (by decide) ?_ ?_
    · refine A_iconst d_95_102 (by decide) ?_
      exact A_iretz rfl d_95_103 (by decide)
    · refine A_iconst d_95_98 (by decide) ?_
      refine A_goto (t := 103) d_95_99 (by decide) ?_
      exact A_iretz rfl d_95_103 (by decide)
set_option maxRecDepth 20000 in
theorem q_Tx_readSort (a0 : Nat) (h : mH) (ho : isO h a0 4 = true) : F_Tx_readSort a0 h =
  (gfd 4 0 h a0).bind fun v1 =>
  (F_Pg_sorts v1.toNat h).bind fun q4 =>
  if q4.1 < 4 then
    (B_Tx_readSort_17 a0 q4.1 0 none q4.2)
  else
    (some (0, q4.2)) := by
  refine (congrArg asI (if_pos ho)).trans ?_
  show asI (Lim 95 0 [some (.inr (.inr a0)), none, none, none] [] h) = _
  refine A_aload_n d_95_0 rfl ?_
  refine A_getfA rfl d_95_1 kF_4_12 (fun v1 => ?_)
  refine A_call (t := 52) (way := 0) rfl d_95_4 rfl (cl kI_4_62 rfl) rfl (by decide) rfl (fun q4 => ?_)
  refine A_istore_n d_95_7 rfl ?_
  refine A_iload_n d_95_8 rfl ?_
  refine A_iconst d_95_9 (by decide) ?_
  refine A_lt (t := 15) d_95_10 (by decide) ?_ ?_
  · refine A_iconst d_95_15 (by decide) ?_
    refine A_istore_n d_95_16 rfl ?_
    exact rfl
  · refine A_iconst d_95_13 (by decide) ?_
    exact A_iretz rfl d_95_14 (by decide)
set_option maxRecDepth 20000 in
theorem q_Tx_readLabel_17 (a0 : Nat) (x1 : Int) (x2 : Int) (o3 : Option mV) (h : mH) : B_Tx_readLabel_17 a0 x1 x2 o3 h =
  if 4 ≤ x2 then
    ((F_Tx_passes a0 44 h).bind fun q56 =>
    if q56.1 ≠ 0 then
      (B_Tx_readLabel_66 a0 x1 0 o3 q56.2)
    else
      (some (0, q56.2)))
  else
    ((F_Tx_readFigure a0 h).bind fun q23 =>
    (F_Tx_isTold a0 q23.1 q23.2).bind fun q29 =>
    if q29.1 ≠ 0 then
      ((gfd 4 0 q29.2 a0).bind fun v38 =>
      (F_Pg_setWanted v38.toNat x1 x2 q23.1 q29.2).bind fun h44 =>
      B_Tx_readLabel_17 a0 x1 (w32 (x2 + 1)) (some (.inl q23.1)) h44)
    else
      (some (0, q29.2))) := by
  unfold B_Tx_readLabel_17
  refine A_iload_n d_96_17 rfl ?_
  refine A_iconst d_96_18 (by decide) ?_
  refine A_ge (t := 53) d_96_19 (by decide) ?_ ?_
  · refine A_aload_n d_96_53 rfl ?_
    refine A_bipush d_96_54 (by decide) ?_
    refine A_call (t := 103) (way := 0) rfl d_96_56 rfl (cl kI_4_82 rfl) rfl (by decide) rfl (fun q56 => ?_)
    refine A_ne0 (t := 64) d_96_59 (by decide) ?_ ?_
    · refine A_iconst d_96_64 (by decide) ?_
      refine A_istore_n d_96_65 rfl ?_
      exact rfl
    · refine A_iconst d_96_62 (by decide) ?_
      exact A_iretz rfl d_96_63 (by decide)
  · refine A_aload_n d_96_22 rfl ?_
    refine A_call (t := 101) (way := 0) rfl d_96_23 rfl (cl kI_4_69 rfl) rfl (by decide) rfl (fun q23 => ?_)
    refine A_istore_n d_96_26 rfl ?_
    refine A_aload_n d_96_27 rfl ?_
    refine A_iload_n d_96_28 rfl ?_
    refine A_call (t := 98) (way := 0) rfl d_96_29 rfl (cl kI_4_85 rfl) rfl (by decide) rfl (fun q29 => ?_)
    refine A_ne0 (t := 37) d_96_32 (by decide) ?_ ?_
    · refine A_aload_n d_96_37 rfl ?_
      refine A_getfA rfl d_96_38 kF_4_12 (fun v38 => ?_)
      refine A_iload_n d_96_41 rfl ?_
      refine A_iload_n d_96_42 rfl ?_
      refine A_iload_n d_96_43 rfl ?_
      refine A_callU (t := 67) (way := 0) rfl d_96_44 rfl (cl kI_4_88 rfl) rfl rfl rfl (fun h44 => ?_)
      refine A_iinc d_96_47 (by decide) rfl rfl ?_
      refine A_goto (t := 17) d_96_50 (by decide) ?_
      exact rfl
    · refine A_iconst d_96_35 (by decide) ?_
      exact A_iretz rfl d_96_36 (by decide)
set_option maxRecDepth 20000 in
theorem q_Tx_readLabel_66 (a0 : Nat) (x1 : Int) (x2 : Int) (o3 : Option mV) (h : mH) : B_Tx_readLabel_66 a0 x1 x2 o3 h =
  if 3 ≤ x2 then
    (B_Tx_readLabel_111 a0 x1 x2 o3 h)
  else
    ((F_Tx_peek a0 h).bind fun q72 =>
    (F_Tx_isFigure q72.1 q72.2).bind fun q75 =>
    if q75.1 = 0 then
      (B_Tx_readLabel_111 a0 x1 x2 o3 q75.2)
    else
      ((F_Tx_readFigure a0 q75.2).bind fun q82 =>
      (F_Tx_isTold a0 q82.1 q82.2).bind fun q88 =>
      if q88.1 ≠ 0 then
        ((gfd 4 0 q88.2 a0).bind fun v97 =>
        (F_Pg_addWantedBelow v97.toNat x1 q82.1 q88.2).bind fun h102 =>
        B_Tx_readLabel_66 a0 x1 (w32 (x2 + 1)) (some (.inl q82.1)) h102)
      else
        (some (0, q88.2)))) := by
  unfold B_Tx_readLabel_66
  refine A_iload_n d_96_66 rfl ?_
  refine A_iconst d_96_67 (by decide) ?_
  refine A_ge (t := 111) d_96_68 (by decide) ?_ ?_
  · exact rfl
  · refine A_aload_n d_96_71 rfl ?_
    refine A_call (t := 99) (way := 0) rfl d_96_72 rfl (cl kI_4_50 rfl) rfl (by decide) rfl (fun q72 => ?_)
    refine A_call (t := 100) (way := 2) rfl d_96_75 rfl (cl kI_4_65 rfl) rfl (by decide) rfl (fun q75 => ?_)
    refine A_eq0 (t := 111) d_96_78 (by decide) ?_ ?_
    · exact rfl
    · refine A_aload_n d_96_81 rfl ?_
      refine A_call (t := 101) (way := 0) rfl d_96_82 rfl (cl kI_4_69 rfl) rfl (by decide) rfl (fun q82 => ?_)
      refine A_istore_n d_96_85 rfl ?_
      refine A_aload_n d_96_86 rfl ?_
      refine A_iload_n d_96_87 rfl ?_
      refine A_call (t := 98) (way := 0) rfl d_96_88 rfl (cl kI_4_85 rfl) rfl (by decide) rfl (fun q88 => ?_)
      refine A_ne0 (t := 96) d_96_91 (by decide) ?_ ?_
      · refine A_aload_n d_96_96 rfl ?_
        refine A_getfA rfl d_96_97 kF_4_12 (fun v97 => ?_)
        refine A_iload_n d_96_100 rfl ?_
        refine A_iload_n d_96_101 rfl ?_
        refine A_callU (t := 70) (way := 0) rfl d_96_102 rfl (cl kI_4_92 rfl) rfl rfl rfl (fun h102 => ?_)
        refine A_iinc d_96_105 (by decide) rfl rfl ?_
        refine A_goto (t := 66) d_96_108 (by decide) ?_
        exact rfl
      · refine A_iconst d_96_94 (by decide) ?_
        exact A_iretz rfl d_96_95 (by decide)
set_option maxRecDepth 20000 in
theorem q_Tx_readLabel_111 (a0 : Nat) (x1 : Int) (x2 : Int) (o3 : Option mV) (h : mH) : B_Tx_readLabel_111 a0 x1 x2 o3 h =
  (F_Tx_passes a0 44 h).bind fun q114 =>
  if q114.1 ≠ 0 then
    ((F_Tx_readNumber a0 q114.2).bind fun q123 =>
    (gfd 4 0 q123.2 a0).bind fun v128 =>
    (F_Pg_setOpenBelow v128.toNat x1 q123.1 q123.2).bind fun h133 =>
    (gfd 4 0 h133 a0).bind fun v137 =>
    (F_Pg_addLabel v137.toNat h133).bind fun h140 =>
    if q123.1 < 0 then
      (some (0, h140))
    else
      (if 1 < q123.1 then
        (some (0, h140))
      else
        ((F_Tx_passes a0 59 h140).bind fun q155 =>
        if q155.1 = 0 then
          (some (0, q155.2))
        else
          (some (1, q155.2)))))
  else
    (some (0, q114.2)) := by
  unfold B_Tx_readLabel_111
  refine A_aload_n d_96_111 rfl ?_
  refine A_bipush d_96_112 (by decide) ?_
  refine A_call (t := 103) (way := 0) rfl d_96_114 rfl (cl kI_4_82 rfl) rfl (by decide) rfl (fun q114 => ?_)
  refine A_ne0 (t := 122) d_96_117 (by decide) ?_ ?_
  · refine A_aload_n d_96_122 rfl ?_
    refine A_call (t := 102) (way := 0) rfl d_96_123 rfl (cl kI_4_95 rfl) rfl (by decide) rfl (fun q123 => ?_)
    refine A_istore_n d_96_126 rfl ?_
    refine A_aload_n d_96_127 rfl ?_
    refine A_getfA rfl d_96_128 kF_4_12 (fun v128 => ?_)
    refine A_iload_n d_96_131 rfl ?_
    refine A_iload_n d_96_132 rfl ?_
    refine A_callU (t := 72) (way := 0) rfl d_96_133 rfl (cl kI_4_98 rfl) rfl rfl rfl (fun h133 => ?_)
    refine A_aload_n d_96_136 rfl ?_
    refine A_getfA rfl d_96_137 kF_4_12 (fun v137 => ?_)
    refine A_callU (t := 63) (way := 0) rfl d_96_140 rfl (cl kI_4_101 rfl) rfl rfl rfl (fun h140 => ?_)
    refine A_iload_n d_96_143 rfl ?_
    refine A_lt0 (t := 165) d_96_144 (by decide) ?_ ?_
    · refine A_iconst d_96_165 (by decide) ?_
      exact A_iretz rfl d_96_166 (by decide)
    · refine A_iload_n d_96_147 rfl ?_
      refine A_iconst d_96_148 (by decide) ?_
      refine A_gt (t := 165) d_96_149 (by decide) ?_ ?_
      · refine A_iconst d_96_165 (by decide) ?_
        exact A_iretz rfl d_96_166 (by decide)
      · refine A_aload_n d_96_152 rfl ?_
        refine A_bipush d_96_153 (by decide) ?_
        refine A_call (t := 103) (way := 0) rfl d_96_155 rfl (cl kI_4_82 rfl) rfl (by decide) rfl (fun q155 => ?_)
        refine A_eq0 (t := 165) d_96_158 (by decide) ?_ ?_
        · refine A_iconst d_96_165 (by decide) ?_
          exact A_iretz rfl d_96_166 (by decide)
        · refine A_iconst d_96_161 (by decide) ?_
          refine A_goto (t := 166) d_96_162 (by decide) ?_
          exact A_iretz rfl d_96_166 (by decide)
  · refine A_iconst d_96_120 (by decide) ?_
    exact A_iretz rfl d_96_121 (by decide)
set_option maxRecDepth 20000 in
theorem q_Tx_readLabel (a0 : Nat) (h : mH) (ho : isO h a0 4 = true) : F_Tx_readLabel a0 h =
  (gfd 4 0 h a0).bind fun v1 =>
  (F_Pg_labels v1.toNat h).bind fun q4 =>
  if q4.1 < 4 then
    (B_Tx_readLabel_17 a0 q4.1 0 none q4.2)
  else
    (some (0, q4.2)) := by
  refine (congrArg asI (if_pos ho)).trans ?_
  show asI (Lim 96 0 [some (.inr (.inr a0)), none, none, none] [] h) = _
  refine A_aload_n d_96_0 rfl ?_
  refine A_getfA rfl d_96_1 kF_4_12 (fun v1 => ?_)
  refine A_call (t := 53) (way := 0) rfl d_96_4 rfl (cl kI_4_36 rfl) rfl (by decide) rfl (fun q4 => ?_)
  refine A_istore_n d_96_7 rfl ?_
  refine A_iload_n d_96_8 rfl ?_
  refine A_iconst d_96_9 (by decide) ?_
  refine A_lt (t := 15) d_96_10 (by decide) ?_ ?_
  · refine A_iconst d_96_15 (by decide) ?_
    refine A_istore_n d_96_16 rfl ?_
    exact rfl
  · refine A_iconst d_96_13 (by decide) ?_
    exact A_iretz rfl d_96_14 (by decide)
set_option maxRecDepth 20000 in
theorem q_Tx_readInstruction_64 (a0 : Nat) (x1 : Int) (x2 : Int) (x3 : Int) (x4 : Int) (h : mH) : B_Tx_readInstruction_64 a0 x1 x2 x3 x4 h =
  B_Tx_readInstruction_65 a0 x1 x2 x3 x4 0 h := by
  unfold B_Tx_readInstruction_64
  refine A_iconst d_97_64 (by decide) ?_
  exact rfl
set_option maxRecDepth 20000 in
theorem q_Tx_readInstruction_65 (a0 : Nat) (x1 : Int) (x2 : Int) (x3 : Int) (x4 : Int) (s0 : Int) (h : mH) : B_Tx_readInstruction_65 a0 x1 x2 x3 x4 s0 h =
  (F_Tx_readNumber a0 h).bind fun q67 =>
  if s0 = 0 then
    (B_Tx_readInstruction_89 a0 x1 x2 s0 x4 q67.1 q67.2)
  else
    ((F_Tx_passes a0 44 q67.2).bind fun q79 =>
    if q79.1 = 0 then
      (B_Tx_readInstruction_89 a0 x1 x2 s0 x4 q67.1 q79.2)
    else
      (B_Tx_readInstruction_90 a0 x1 x2 s0 x4 q67.1 1 q79.2)) := by
  unfold B_Tx_readInstruction_65
  refine A_istore_n d_97_65 rfl ?_
  refine A_aload_n d_97_66 rfl ?_
  refine A_call (t := 102) (way := 0) rfl d_97_67 rfl (cl kI_4_95 rfl) rfl (by decide) rfl (fun q67 => ?_)
  refine A_istore d_97_70 rfl ?_
  refine A_iload_n d_97_72 rfl ?_
  refine A_eq0 (t := 89) d_97_73 (by decide) ?_ ?_
  · exact rfl
  · refine A_aload_n d_97_76 rfl ?_
    refine A_bipush d_97_77 (by decide) ?_
    refine A_call (t := 103) (way := 0) rfl d_97_79 rfl (cl kI_4_82 rfl) rfl (by decide) rfl (fun q79 => ?_)
    refine A_eq0 (t := 89) d_97_82 (by decide) ?_ ?_
    · exact rfl
    · refine A_iconst d_97_85 (by decide) ?_
      refine A_goto (t := 90) d_97_86 (by decide) ?_
      exact rfl
set_option maxRecDepth 20000 in
theorem q_Tx_readInstruction_89 (a0 : Nat) (x1 : Int) (x2 : Int) (x3 : Int) (x4 : Int) (x5 : Int) (h : mH) : B_Tx_readInstruction_89 a0 x1 x2 x3 x4 x5 h =
  B_Tx_readInstruction_90 a0 x1 x2 x3 x4 x5 0 h := by
  unfold B_Tx_readInstruction_89
  refine A_iconst d_97_89 (by decide) ?_
  exact rfl
set_option maxRecDepth 20000 in
theorem q_Tx_readInstruction_90 (a0 : Nat) (x1 : Int) (x2 : Int) (x3 : Int) (x4 : Int) (x5 : Int) (s0 : Int) (h : mH) : B_Tx_readInstruction_90 a0 x1 x2 x3 x4 x5 s0 h =
  (F_Tx_readNumber a0 h).bind fun q92 =>
  if s0 = 0 then
    (B_Tx_readInstruction_114 a0 x1 x2 s0 x4 x5 q92.1 q92.2)
  else
    ((F_Tx_passes a0 59 q92.2).bind fun q104 =>
    if q104.1 = 0 then
      (B_Tx_readInstruction_114 a0 x1 x2 s0 x4 x5 q92.1 q104.2)
    else
      (B_Tx_readInstruction_115 a0 x1 x2 s0 x4 x5 q92.1 1 q104.2)) := by
  unfold B_Tx_readInstruction_90
  refine A_istore_n d_97_90 rfl ?_
  refine A_aload_n d_97_91 rfl ?_
  refine A_call (t := 102) (way := 0) rfl d_97_92 rfl (cl kI_4_95 rfl) rfl (by decide) rfl (fun q92 => ?_)
  refine A_istore d_97_95 rfl ?_
  refine A_iload_n d_97_97 rfl ?_
  refine A_eq0 (t := 114) d_97_98 (by decide) ?_ ?_
  · exact rfl
  · refine A_aload_n d_97_101 rfl ?_
    refine A_bipush d_97_102 (by decide) ?_
    refine A_call (t := 103) (way := 0) rfl d_97_104 rfl (cl kI_4_82 rfl) rfl (by decide) rfl (fun q104 => ?_)
    refine A_eq0 (t := 114) d_97_107 (by decide) ?_ ?_
    · exact rfl
    · refine A_iconst d_97_110 (by decide) ?_
      refine A_goto (t := 115) d_97_111 (by decide) ?_
      exact rfl
set_option maxRecDepth 20000 in
theorem q_Tx_readInstruction_114 (a0 : Nat) (x1 : Int) (x2 : Int) (x3 : Int) (x4 : Int) (x5 : Int) (x6 : Int) (h : mH) : B_Tx_readInstruction_114 a0 x1 x2 x3 x4 x5 x6 h =
  B_Tx_readInstruction_115 a0 x1 x2 x3 x4 x5 x6 0 h := by
  unfold B_Tx_readInstruction_114
  refine A_iconst d_97_114 (by decide) ?_
  exact rfl
set_option maxRecDepth 20000 in
theorem q_Tx_readInstruction_115 (a0 : Nat) (x1 : Int) (x2 : Int) (x3 : Int) (x4 : Int) (x5 : Int) (x6 : Int) (s0 : Int) (h : mH) : B_Tx_readInstruction_115 a0 x1 x2 x3 x4 x5 x6 s0 h =
  if s0 = 0 then
    (some (0, h))
  else
    ((gfd 4 0 h a0).bind fun v128 =>
    (F_Pg_sorts v128.toNat h).bind fun q131 =>
    (F_Pg_mayBeTold x2 x4 x5 x6 q131.1 4 q131.2).bind fun q135 =>
    if q135.1 ≠ 0 then
      ((gfd 4 0 q135.2 a0).bind fun v144 =>
      (F_Pg_size v144.toNat x1 q135.2).bind fun q148 =>
      (gfd 4 0 q148.2 a0).bind fun v154 =>
      (F_Pg_makeRoom v154.toNat x1 q148.1 q148.2).bind fun h160 =>
      (gfd 4 0 h160 a0).bind fun v164 =>
      (F_Pg_setInstruction v164.toNat x1 q148.1 x2 x4 x5 x6 h160).bind fun h177 =>
      some (1, h177))
    else
      (some (0, q135.2))) := by
  unfold B_Tx_readInstruction_115
  refine A_istore_n d_97_115 rfl ?_
  refine A_iload_n d_97_116 rfl ?_
  refine A_eq0 (t := 141) d_97_117 (by decide) ?_ ?_
  · refine A_iconst d_97_141 (by decide) ?_
    exact A_iretz rfl d_97_142 (by decide)
  · refine A_iload_n d_97_120 rfl ?_
    refine A_iload d_97_121 rfl ?_
    refine A_iload d_97_123 rfl ?_
    refine A_iload d_97_125 rfl ?_
    refine A_aload_n d_97_127 rfl ?_
    refine A_getfA rfl d_97_128 kF_4_12 (fun v128 => ?_)
    refine A_call (t := 52) (way := 0) rfl d_97_131 rfl (cl kI_4_62 rfl) rfl (by decide) rfl (fun q131 => ?_)
    refine A_iconst d_97_134 (by decide) ?_
    refine A_call (t := 80) (way := 2) rfl d_97_135 rfl (cl kI_4_107 rfl) rfl (by decide) rfl (fun q135 => ?_)
    refine A_ne0 (t := 143) d_97_138 (by decide) ?_ ?_
    · refine A_aload_n d_97_143 rfl ?_
      refine A_getfA rfl d_97_144 kF_4_12 (fun v144 => ?_)
      refine A_iload_n d_97_147 rfl ?_
      refine A_call (t := 73) (way := 0) rfl d_97_148 rfl (cl kI_4_104 rfl) rfl (by decide) rfl (fun q148 => ?_)
      refine A_istore d_97_151 rfl ?_
      refine A_aload_n d_97_153 rfl ?_
      refine A_getfA rfl d_97_154 kF_4_12 (fun v154 => ?_)
      refine A_iload_n d_97_157 rfl ?_
      refine A_iload d_97_158 rfl ?_
      refine A_callU (t := 76) (way := 0) rfl d_97_160 rfl (cl kI_4_111 rfl) rfl rfl rfl (fun h160 => ?_)
      refine A_aload_n d_97_163 rfl ?_
      refine A_getfA rfl d_97_164 kF_4_12 (fun v164 => ?_)
      refine A_iload_n d_97_167 rfl ?_
      refine A_iload d_97_168 rfl ?_
      refine A_iload_n d_97_170 rfl ?_
      refine A_iload d_97_171 rfl ?_
      refine A_iload d_97_173 rfl ?_
      refine A_iload d_97_175 rfl ?_
      refine A_callU (t := 75) (way := 0) rfl d_97_177 rfl (cl kI_4_114 rfl) rfl rfl rfl (fun h177 => ?_)
      refine A_iconst d_97_180 (by decide) ?_
      exact A_iretz rfl d_97_181 (by decide)
    · refine A_iconst d_97_141 (by decide) ?_
      exact A_iretz rfl d_97_142 (by decide)
set_option maxRecDepth 20000 in
theorem q_Tx_readInstruction (a0 : Nat) (h : mH) (ho : isO h a0 4 = true) : F_Tx_readInstruction a0 h =
  (gfd 4 0 h a0).bind fun v1 =>
  (F_Pg_labels v1.toNat h).bind fun q4 =>
  if w32 (q4.1 - 1) < 0 then
    (some (0, q4.2))
  else
    ((gfd 4 0 q4.2 a0).bind fun v15 =>
    (F_Pg_size v15.toNat (w32 (q4.1 - 1)) q4.2).bind fun q19 =>
    if q19.1 < 6 then
      ((F_Tx_readNumber a0 q19.2).bind fun q30 =>
      (F_Tx_passes a0 44 q30.2).bind fun q37 =>
      (F_Tx_readNumber a0 q37.2).bind fun q42 =>
      if q37.1 = 0 then
        (B_Tx_readInstruction_64 a0 (w32 (q4.1 - 1)) q30.1 q37.1 q42.1 q42.2)
      else
        ((F_Tx_passes a0 44 q42.2).bind fun q54 =>
        if q54.1 = 0 then
          (B_Tx_readInstruction_64 a0 (w32 (q4.1 - 1)) q30.1 q37.1 q42.1 q54.2)
        else
          (B_Tx_readInstruction_65 a0 (w32 (q4.1 - 1)) q30.1 q37.1 q42.1 1 q54.2)))
    else
      (some (0, q19.2))) := by
  refine (congrArg asI (if_pos ho)).trans ?_
  show asI (Lim 97 0 [some (.inr (.inr a0)), none, none, none, none, none, none, none] [] h) = _
  refine A_aload_n d_97_0 rfl ?_
  refine A_getfA rfl d_97_1 kF_4_12 (fun v1 => ?_)
  refine A_call (t := 53) (way := 0) rfl d_97_4 rfl (cl kI_4_36 rfl) rfl (by decide) rfl (fun q4 => ?_)
  refine A_iconst d_97_7 (by decide) ?_
  refine A_isub d_97_8 ?_
  refine A_istore_n d_97_9 rfl ?_
  refine A_iload_n d_97_10 rfl ?_
  refine A_lt0 (t := 27) d_97_11 (by decide) ?_ ?_
  · refine A_iconst d_97_27 (by decide) ?_
    exact A_iretz rfl d_97_28 (by decide)
  · refine A_aload_n d_97_14 rfl ?_
    refine A_getfA rfl d_97_15 kF_4_12 (fun v15 => ?_)
    refine A_iload_n d_97_18 rfl ?_
    refine A_call (t := 73) (way := 0) rfl d_97_19 rfl (cl kI_4_104 rfl) rfl (by decide) rfl (fun q19 => ?_)
    refine A_bipush d_97_22 (by decide) ?_
    refine A_lt (t := 29) d_97_24 (by decide) ?_ ?_
    · refine A_aload_n d_97_29 rfl ?_
      refine A_call (t := 102) (way := 0) rfl d_97_30 rfl (cl kI_4_95 rfl) rfl (by decide) rfl (fun q30 => ?_)
      refine A_istore_n d_97_33 rfl ?_
      refine A_aload_n d_97_34 rfl ?_
      refine A_bipush d_97_35 (by decide) ?_
      refine A_call (t := 103) (way := 0) rfl d_97_37 rfl (cl kI_4_82 rfl) rfl (by decide) rfl (fun q37 => ?_)
      refine A_istore_n d_97_40 rfl ?_
      refine A_aload_n d_97_41 rfl ?_
      refine A_call (t := 102) (way := 0) rfl d_97_42 rfl (cl kI_4_95 rfl) rfl (by decide) rfl (fun q42 => ?_)
      refine A_istore d_97_45 rfl ?_
      refine A_iload_n d_97_47 rfl ?_
      refine A_eq0 (t := 64) d_97_48 (by decide) ?_ ?_
      · exact rfl
      · refine A_aload_n d_97_51 rfl ?_
        refine A_bipush d_97_52 (by decide) ?_
        refine A_call (t := 103) (way := 0) rfl d_97_54 rfl (cl kI_4_82 rfl) rfl (by decide) rfl (fun q54 => ?_)
        refine A_eq0 (t := 64) d_97_57 (by decide) ?_ ?_
        · exact rfl
        · refine A_iconst d_97_60 (by decide) ?_
          refine A_goto (t := 65) d_97_61 (by decide) ?_
          exact rfl
    · refine A_iconst d_97_27 (by decide) ?_
      exact A_iretz rfl d_97_28 (by decide)
set_option maxRecDepth 20000 in
theorem q_Tx_isTold_36 (a0 : Nat) (x1 : Int) (h : mH) : B_Tx_isTold_36 a0 x1 h =
  some (1, h) := by
  unfold B_Tx_isTold_36
  refine A_iconst d_98_36 (by decide) ?_
  refine A_goto (t := 41) d_98_37 (by decide) ?_
  exact A_iretz rfl d_98_41 (by decide)
set_option maxRecDepth 20000 in
theorem q_Tx_isTold (a0 : Nat) (x1 : Int) (h : mH) (ho : isO h a0 4 = true) : F_Tx_isTold a0 x1 h =
  if x1 < 0 then
    (some (0, h))
  else
    (if x1 < 10 then
      (if x1 < 2 then
        (B_Tx_isTold_36 a0 x1 h)
      else
        (if 6 ≤ x1 then
          (B_Tx_isTold_36 a0 x1 h)
        else
          ((gfd 4 0 h a0).bind fun v24 =>
          (F_Pg_hasSort v24.toNat (w32 (x1 - 2)) h).bind fun q30 =>
          if q30.1 = 0 then
            (some (0, q30.2))
          else
            (B_Tx_isTold_36 a0 x1 q30.2))))
    else
      (some (0, h))) := by
  refine (congrArg asI (if_pos ho)).trans ?_
  show asI (Lim 98 0 [some (.inr (.inr a0)), some (.inl x1)] [] h) = _
  refine A_iload_n d_98_0 rfl ?_
  refine A_lt0 (t := 10) d_98_1 (by decide) ?_ ?_
  · refine A_iconst d_98_10 (by decide) ?_
    exact A_iretz rfl d_98_11 (by decide)
  · refine A_iload_n d_98_4 rfl ?_
    refine A_bipush d_98_5 (by decide) ?_
    refine A_lt (t := 12) d_98_7 (by decide) ?_ ?_
    · refine A_iload_n d_98_12 rfl ?_
      refine A_iconst d_98_13 (by decide) ?_
      refine A_lt (t := 36) d_98_14 (by decide) ?_ ?_
      · exact rfl
      · refine A_iload_n d_98_17 rfl ?_
        refine A_bipush d_98_18 (by decide) ?_
        refine A_ge (t := 36) d_98_20 (by decide) ?_ ?_
        · exact rfl
        · refine A_aload_n d_98_23 rfl ?_
          refine A_getfA rfl d_98_24 kF_4_12 (fun v24 => ?_)
          refine A_iload_n d_98_27 rfl ?_
          refine A_iconst d_98_28 (by decide) ?_
          refine A_isub d_98_29 ?_
          refine A_call (t := 55) (way := 0) rfl d_98_30 rfl (cl kI_4_118 rfl) rfl (by decide) rfl (fun q30 => ?_)
          refine A_eq0 (t := 40) d_98_33 (by decide) ?_ ?_
          · refine A_iconst d_98_40 (by decide) ?_
            exact A_iretz rfl d_98_41 (by decide)
          · exact rfl
    · refine A_iconst d_98_10 (by decide) ?_
      exact A_iretz rfl d_98_11 (by decide)
set_option maxRecDepth 20000 in
theorem q_Tx_peek (a0 : Nat) (h : mH) (ho : isO h a0 4 = true) : F_Tx_peek a0 h =
  (gfd 4 3 h a0).bind fun v1 =>
  if v1 < 0 then
    (some ((-1), h))
  else
    ((gfd 4 3 h a0).bind fun v8 =>
    (gfd 4 2 h a0).bind fun v12 =>
    if v12 ≤ v8 then
      (some ((-1), h))
    else
      ((gfd 4 3 h a0).bind fun v19 =>
      if 200 ≤ v19 then
        (some ((-1), h))
      else
        ((gfd 4 1 h a0).bind fun v29 =>
        (gfd 4 3 h a0).bind fun v33 =>
        (ald 10 h v29.toNat v33).bind fun v36 =>
        some (v36, h)))) := by
  refine (congrArg asI (if_pos ho)).trans ?_
  show asI (Lim 99 0 [some (.inr (.inr a0))] [] h) = _
  refine A_aload_n d_99_0 rfl ?_
  refine A_getfI rfl d_99_1 kF_4_26 (by decide) (fun v1 => ?_)
  refine A_lt0 (t := 40) d_99_4 (by decide) ?_ ?_
  · refine A_iconst d_99_40 (by decide) ?_
    exact A_ireti rfl d_99_41
  · refine A_aload_n d_99_7 rfl ?_
    refine A_getfI rfl d_99_8 kF_4_26 (by decide) (fun v8 => ?_)
    refine A_aload_n d_99_11 rfl ?_
    refine A_getfI rfl d_99_12 kF_4_22 (by decide) (fun v12 => ?_)
    refine A_ge (t := 40) d_99_15 (by decide) ?_ ?_
    · refine A_iconst d_99_40 (by decide) ?_
      exact A_ireti rfl d_99_41
    · refine A_aload_n d_99_18 rfl ?_
      refine A_getfI rfl d_99_19 kF_4_26 (by decide) (fun v19 => ?_)
      refine A_sipush d_99_22 (by decide) ?_
      refine A_ge (t := 40) d_99_25 (by decide) ?_ ?_
      · refine A_iconst d_99_40 (by decide) ?_
        exact A_ireti rfl d_99_41
      · refine A_aload_n d_99_28 rfl ?_
        refine A_getfA rfl d_99_29 kF_4_18 (fun v29 => ?_)
        refine A_aload_n d_99_32 rfl ?_
        refine A_getfI rfl d_99_33 kF_4_26 (by decide) (fun v33 => ?_)
        refine A_iald rfl d_99_36 (fun v36 => ?_)
        refine A_goto (t := 41) d_99_37 (by decide) ?_
        exact A_ireti rfl d_99_41
set_option maxRecDepth 20000 in
theorem q_Tx_isFigure (x0 : Int) (h : mH) : F_Tx_isFigure x0 h =
  if x0 < 48 then
    (some (0, h))
  else
    (if 57 < x0 then
      (some (0, h))
    else
      (some (1, h))) := by
  refine (congrArg asI (if_pos rfl)).trans ?_
  show asI (Lim 100 0 [some (.inl x0)] [] h) = _
  refine A_iload_n d_100_0 rfl ?_
  refine A_bipush d_100_1 (by decide) ?_
  refine A_lt (t := 16) d_100_3 (by decide) ?_ ?_
  · refine A_iconst d_100_16 (by decide) ?_
    exact A_iretz rfl d_100_17 (by decide)
  · refine A_iload_n d_100_6 rfl ?_
    refine A_bipush d_100_7 (by decide) ?_
    refine A_gt (t := 16) d_100_9 (by decide) ?_ ?_
    · refine A_iconst d_100_16 (by decide) ?_
      exact A_iretz rfl d_100_17 (by decide)
    · refine A_iconst d_100_12 (by decide) ?_
      refine A_goto (t := 17) d_100_13 (by decide) ?_
      exact A_iretz rfl d_100_17 (by decide)
set_option maxRecDepth 20000 in
theorem q_Tx_readFigure (a0 : Nat) (h : mH) (ho : isO h a0 4 = true) : F_Tx_readFigure a0 h =
  (F_Tx_peek a0 h).bind fun q1 =>
  (F_Tx_isFigure q1.1 q1.2).bind fun q6 =>
  if q6.1 ≠ 0 then
    ((gfd 4 3 q6.2 a0).bind fun v16 =>
    (pfd 4 3 q6.2 a0 (w32 (v16 + 1))).bind fun h21 =>
    some (w32 (q1.1 - 48), h21))
  else
    (some ((-1), q6.2)) := by
  refine (congrArg asI (if_pos ho)).trans ?_
  show asI (Lim 101 0 [some (.inr (.inr a0)), none] [] h) = _
  refine A_aload_n d_101_0 rfl ?_
  refine A_call (t := 99) (way := 0) rfl d_101_1 rfl (cl kI_4_50 rfl) rfl (by decide) rfl (fun q1 => ?_)
  refine A_istore_n d_101_4 rfl ?_
  refine A_iload_n d_101_5 rfl ?_
  refine A_call (t := 100) (way := 2) rfl d_101_6 rfl (cl kI_4_65 rfl) rfl (by decide) rfl (fun q6 => ?_)
  refine A_ne0 (t := 14) d_101_9 (by decide) ?_ ?_
  · refine A_aload_n d_101_14 rfl ?_
    refine A_dup d_101_15 rfl ?_
    refine A_getfI rfl d_101_16 kF_4_26 (by decide) (fun v16 => ?_)
    refine A_iconst d_101_19 (by decide) ?_
    refine A_iadd d_101_20 ?_
    refine A_putfI rfl d_101_21 kF_4_26 rfl (fun h21 => ?_)
    refine A_iload_n d_101_24 rfl ?_
    refine A_bipush d_101_25 (by decide) ?_
    refine A_isub d_101_27 ?_
    exact A_ireti rfl d_101_28
  · refine A_iconst d_101_12 (by decide) ?_
    exact A_ireti rfl d_101_13
set_option maxRecDepth 20000 in
theorem q_Tx_readNumber (a0 : Nat) (h : mH) (ho : isO h a0 4 = true) : F_Tx_readNumber a0 h =
  (F_Tx_readFigure a0 h).bind fun q1 =>
  if 0 ≤ q1.1 then
    ((F_Tx_readFigure a0 q1.2).bind fun q12 =>
    if 0 ≤ q12.1 then
      (some (w32 ((w32 (q1.1 * 10)) + q12.1), q12.2))
    else
      (some (q1.1, q12.2)))
  else
    (some ((-1), q1.2)) := by
  refine (congrArg asI (if_pos ho)).trans ?_
  show asI (Lim 102 0 [some (.inr (.inr a0)), none, none] [] h) = _
  refine A_aload_n d_102_0 rfl ?_
  refine A_call (t := 101) (way := 0) rfl d_102_1 rfl (cl kI_4_69 rfl) rfl (by decide) rfl (fun q1 => ?_)
  refine A_istore_n d_102_4 rfl ?_
  refine A_iload_n d_102_5 rfl ?_
  refine A_ge0 (t := 11) d_102_6 (by decide) ?_ ?_
  · refine A_aload_n d_102_11 rfl ?_
    refine A_call (t := 101) (way := 0) rfl d_102_12 rfl (cl kI_4_69 rfl) rfl (by decide) rfl (fun q12 => ?_)
    refine A_istore_n d_102_15 rfl ?_
    refine A_iload_n d_102_16 rfl ?_
    refine A_ge0 (t := 24) d_102_17 (by decide) ?_ ?_
    · refine A_iload_n d_102_24 rfl ?_
      refine A_bipush d_102_25 (by decide) ?_
      refine A_imul d_102_27 ?_
      refine A_iload_n d_102_28 rfl ?_
      refine A_iadd d_102_29 ?_
      exact A_ireti rfl d_102_30
    · refine A_iload_n d_102_20 rfl ?_
      refine A_goto (t := 30) d_102_21 (by decide) ?_
      exact A_ireti rfl d_102_30
  · refine A_iconst d_102_9 (by decide) ?_
    exact A_ireti rfl d_102_10
set_option maxRecDepth 20000 in
theorem q_Tx_passes (a0 : Nat) (x1 : Int) (h : mH) (ho : isO h a0 4 = true) : F_Tx_passes a0 x1 h =
  (F_Tx_peek a0 h).bind fun q1 =>
  if q1.1 = x1 then
    ((gfd 4 3 q1.2 a0).bind fun v12 =>
    (pfd 4 3 q1.2 a0 (w32 (v12 + 1))).bind fun h17 =>
    some (1, h17))
  else
    (some (0, q1.2)) := by
  refine (congrArg asI (if_pos ho)).trans ?_
  show asI (Lim 103 0 [some (.inr (.inr a0)), some (.inl x1)] [] h) = _
  refine A_aload_n d_103_0 rfl ?_
  refine A_call (t := 99) (way := 0) rfl d_103_1 rfl (cl kI_4_50 rfl) rfl (by decide) rfl (fun q1 => ?_)
  refine A_iload_n d_103_4 rfl ?_
  refine A_eq (t := 10) d_103_5 (by decide) ?_ ?_
  · refine A_aload_n d_103_10 rfl ?_
    refine A_dup d_103_11 rfl ?_
    refine A_getfI rfl d_103_12 kF_4_26 (by decide) (fun v12 => ?_)
    refine A_iconst d_103_15 (by decide) ?_
    refine A_iadd d_103_16 ?_
    refine A_putfI rfl d_103_17 kF_4_26 rfl (fun h17 => ?_)
    refine A_iconst d_103_20 (by decide) ?_
    exact A_iretz rfl d_103_21 (by decide)
  · refine A_iconst d_103_8 (by decide) ?_
    exact A_iretz rfl d_103_9 (by decide)

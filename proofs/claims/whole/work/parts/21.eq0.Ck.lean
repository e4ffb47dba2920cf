/-! equations of Ck (by program) -/
set_option maxRecDepth 20000 in
theorem q_Ck_take_12 (a0 : Nat) (a1 : Nat) (x2 : Int) (o3 : Option mV) (h : mH) : B_Ck_take_12 a0 a1 x2 o3 h =
  if 4 ≤ x2 then
    (B_Ck_take_54 a0 a1 0 o3 h)
  else
    (B_Ck_take_19 a0 a1 x2 0 h) := by
  unfold B_Ck_take_12
  refine A_iload_n d_1_12 rfl ?_
  refine A_iconst d_1_13 (by decide) ?_
  refine A_ge (t := 52) d_1_14 (by decide) ?_ ?_
  · refine A_iconst d_1_52 (by decide) ?_
    refine A_istore_n d_1_53 rfl ?_
    exact rfl
  · refine A_iconst d_1_17 (by decide) ?_
    refine A_istore_n d_1_18 rfl ?_
    exact rfl
set_option maxRecDepth 20000 in
theorem q_Ck_take_19 (a0 : Nat) (a1 : Nat) (x2 : Int) (x3 : Int) (h : mH) : B_Ck_take_19 a0 a1 x2 x3 h =
  if 4 ≤ x3 then
    (B_Ck_take_12 a0 a1 (w32 (x2 + 1)) (some (.inl x3)) h)
  else
    ((gfd 0 4 h a0).bind fun v25 =>
    (F_Ck_wantsSuffice a0 x3 x2 h).bind fun q36 =>
    (bst q36.2 v25.toNat (w32 ((w32 (x2 * 4)) + x3)) q36.1).bind fun h39 =>
    B_Ck_take_19 a0 a1 x2 (w32 (x3 + 1)) h39) := by
  unfold B_Ck_take_19
  refine A_iload_n d_1_19 rfl ?_
  refine A_iconst d_1_20 (by decide) ?_
  refine A_ge (t := 46) d_1_21 (by decide) ?_ ?_
  · refine A_iinc d_1_46 (by decide) rfl rfl ?_
    refine A_goto (t := 12) d_1_49 (by decide) ?_
    exact rfl
  · refine A_aload_n d_1_24 rfl ?_
    refine A_getfA rfl d_1_25 kF_0_28 (fun v25 => ?_)
    refine A_iload_n d_1_28 rfl ?_
    refine A_iconst d_1_29 (by decide) ?_
    refine A_imul d_1_30 ?_
    refine A_iload_n d_1_31 rfl ?_
    refine A_iadd d_1_32 ?_
    refine A_aload_n d_1_33 rfl ?_
    refine A_iload_n d_1_34 rfl ?_
    refine A_iload_n d_1_35 rfl ?_
    refine A_call (t := 2) (way := 0) rfl d_1_36 rfl (cl kI_0_32 rfl) rfl (by decide) rfl (fun q36 => ?_)
    refine A_bast rfl d_1_39 (fun h39 => ?_)
    refine A_iinc d_1_40 (by decide) rfl rfl ?_
    refine A_goto (t := 19) d_1_43 (by decide) ?_
    exact rfl
set_option maxRecDepth 20000 in
theorem q_Ck_take_54 (a0 : Nat) (a1 : Nat) (x2 : Int) (o3 : Option mV) (h : mH) : B_Ck_take_54 a0 a1 x2 o3 h =
  if 4 ≤ x2 then
    (some h)
  else
    ((gfd 0 3 h a0).bind fun v60 =>
    (gfd 0 0 h a0).bind fun v66 =>
    (F_Pg_fields v66.toNat x2 h).bind fun q70 =>
    (ast q70.2 v60.toNat x2 (w32 ((ishl 1 q70.1) - 1))).bind fun h76 =>
    B_Ck_take_54 a0 a1 (w32 (x2 + 1)) o3 h76) := by
  unfold B_Ck_take_54
  refine A_iload_n d_1_54 rfl ?_
  refine A_iconst d_1_55 (by decide) ?_
  refine A_ge (t := 83) d_1_56 (by decide) ?_ ?_
  · exact A_ret rfl d_1_83
  · refine A_aload_n d_1_59 rfl ?_
    refine A_getfA rfl d_1_60 kF_0_25 (fun v60 => ?_)
    refine A_iload_n d_1_63 rfl ?_
    refine A_iconst d_1_64 (by decide) ?_
    refine A_aload_n d_1_65 rfl ?_
    refine A_getfA rfl d_1_66 kF_0_12 (fun v66 => ?_)
    refine A_iload_n d_1_69 rfl ?_
    refine A_call (t := 59) (way := 0) rfl d_1_70 rfl (cl kI_0_36 rfl) rfl (by decide) rfl (fun q70 => ?_)
    refine A_ishl d_1_73 ?_
    refine A_iconst d_1_74 (by decide) ?_
    refine A_isub d_1_75 ?_
    refine A_iast rfl d_1_76 (fun h76 => ?_)
    refine A_iinc d_1_77 (by decide) rfl rfl ?_
    refine A_goto (t := 54) d_1_80 (by decide) ?_
    exact rfl
set_option maxRecDepth 20000 in
theorem q_Ck_take (a0 : Nat) (a1 : Nat) (h : mH) (ho : isO h a0 0 = true) : F_Ck_take a0 a1 h =
  if a1 ≠ 0 then
    ((pfd 0 0 h a0 ((a1 : Nat) : Int)).bind fun h7 =>
    B_Ck_take_12 a0 a1 0 none h7)
  else
    (some h) := by
  refine (congrArg asU (if_pos ho)).trans ?_
  show asU (Lim 1 0 [some (.inr (.inr a0)), some (.inr (.inr a1)), none, none] [] h) = _
  refine A_aload_n d_1_0 rfl ?_
  refine A_nonnull (t := 5) d_1_1 (by decide) ?_ ?_
  · refine A_aload_n d_1_5 rfl ?_
    refine A_aload_n d_1_6 rfl ?_
    refine A_putfA rfl d_1_7 kF_0_12 rfl (fun h7 => ?_)
    refine A_iconst d_1_10 (by decide) ?_
    refine A_istore_n d_1_11 rfl ?_
    exact rfl
  · exact A_ret rfl d_1_4
set_option maxRecDepth 20000 in
theorem q_Ck_wantsSuffice_45 (a0 : Nat) (x1 : Int) (x2 : Int) (x3 : Int) (x4 : Int) (h : mH) : B_Ck_wantsSuffice_45 a0 x1 x2 x3 x4 h =
  if 4 ≤ x4 then
    (B_Ck_wantsSuffice_88 a0 x1 x2 x3 0 h)
  else
    ((gfd 0 0 h a0).bind fun v52 =>
    (F_Pg_wanted v52.toNat x1 x4 h).bind fun q58 =>
    (gfd 0 0 q58.2 a0).bind fun v62 =>
    (F_Pg_wanted v62.toNat x2 x4 q58.2).bind fun q68 =>
    (F_Ck_isPlainlyEnough q58.1 q68.1 q68.2).bind fun q71 =>
    if q71.1 ≠ 0 then
      (B_Ck_wantsSuffice_45 a0 x1 x2 x3 (w32 (x4 + 1)) q71.2)
    else
      (some (0, q71.2))) := by
  unfold B_Ck_wantsSuffice_45
  refine A_iload d_2_45 rfl ?_
  refine A_iconst d_2_47 (by decide) ?_
  refine A_ge (t := 85) d_2_48 (by decide) ?_ ?_
  · refine A_iconst d_2_85 (by decide) ?_
    refine A_istore d_2_86 rfl ?_
    exact rfl
  · refine A_aload_n d_2_51 rfl ?_
    refine A_getfA rfl d_2_52 kF_0_12 (fun v52 => ?_)
    refine A_iload_n d_2_55 rfl ?_
    refine A_iload d_2_56 rfl ?_
    refine A_call (t := 66) (way := 0) rfl d_2_58 rfl (cl kI_0_50 rfl) rfl (by decide) rfl (fun q58 => ?_)
    refine A_aload_n d_2_61 rfl ?_
    refine A_getfA rfl d_2_62 kF_0_12 (fun v62 => ?_)
    refine A_iload_n d_2_65 rfl ?_
    refine A_iload d_2_66 rfl ?_
    refine A_call (t := 66) (way := 0) rfl d_2_68 rfl (cl kI_0_50 rfl) rfl (by decide) rfl (fun q68 => ?_)
    refine A_call (t := 3) (way := 2) rfl d_2_71 rfl (cl kI_0_54 rfl) rfl (by decide) rfl (fun q71 => ?_)
    refine A_ne0 (t := 79) d_2_74 (by decide) ?_ ?_
    · refine A_iinc d_2_79 (by decide) rfl rfl ?_
      refine A_goto (t := 45) d_2_82 (by decide) ?_
      exact rfl
    · refine A_iconst d_2_77 (by decide) ?_
      exact A_iretz rfl d_2_78 (by decide)
set_option maxRecDepth 20000 in
theorem q_Ck_wantsSuffice_88 (a0 : Nat) (x1 : Int) (x2 : Int) (x3 : Int) (x4 : Int) (h : mH) : B_Ck_wantsSuffice_88 a0 x1 x2 x3 x4 h =
  if x3 ≤ x4 then
    (some (1, h))
  else
    ((gfd 0 0 h a0).bind fun v95 =>
    (F_Pg_wantedFromTop v95.toNat x1 x4 h).bind fun q101 =>
    (gfd 0 0 q101.2 a0).bind fun v105 =>
    (F_Pg_wantedFromTop v105.toNat x2 x4 q101.2).bind fun q111 =>
    (F_Ck_isPlainlyEnough q101.1 q111.1 q111.2).bind fun q114 =>
    if q114.1 ≠ 0 then
      (B_Ck_wantsSuffice_88 a0 x1 x2 x3 (w32 (x4 + 1)) q114.2)
    else
      (some (0, q114.2))) := by
  unfold B_Ck_wantsSuffice_88
  refine A_iload d_2_88 rfl ?_
  refine A_iload_n d_2_90 rfl ?_
  refine A_ge (t := 128) d_2_91 (by decide) ?_ ?_
  · refine A_iconst d_2_128 (by decide) ?_
    exact A_iretz rfl d_2_129 (by decide)
  · refine A_aload_n d_2_94 rfl ?_
    refine A_getfA rfl d_2_95 kF_0_12 (fun v95 => ?_)
    refine A_iload_n d_2_98 rfl ?_
    refine A_iload d_2_99 rfl ?_
    refine A_call (t := 69) (way := 0) rfl d_2_101 rfl (cl kI_0_57 rfl) rfl (by decide) rfl (fun q101 => ?_)
    refine A_aload_n d_2_104 rfl ?_
    refine A_getfA rfl d_2_105 kF_0_12 (fun v105 => ?_)
    refine A_iload_n d_2_108 rfl ?_
    refine A_iload d_2_109 rfl ?_
    refine A_call (t := 69) (way := 0) rfl d_2_111 rfl (cl kI_0_57 rfl) rfl (by decide) rfl (fun q111 => ?_)
    refine A_call (t := 3) (way := 2) rfl d_2_114 rfl (cl kI_0_54 rfl) rfl (by decide) rfl (fun q114 => ?_)
    refine A_ne0 (t := 122) d_2_117 (by decide) ?_ ?_
    · refine A_iinc d_2_122 (by decide) rfl rfl ?_
      refine A_goto (t := 88) d_2_125 (by decide) ?_
      exact rfl
    · refine A_iconst d_2_120 (by decide) ?_
      exact A_iretz rfl d_2_121 (by decide)
set_option maxRecDepth 20000 in
theorem q_Ck_wantsSuffice (a0 : Nat) (x1 : Int) (x2 : Int) (h : mH) (ho : isO h a0 0 = true) : F_Ck_wantsSuffice a0 x1 x2 h =
  (gfd 0 0 h a0).bind fun v1 =>
  (F_Pg_wantedHeight v1.toNat x2 h).bind fun q5 =>
  (gfd 0 0 q5.2 a0).bind fun v10 =>
  (F_Pg_wantedHeight v10.toNat x1 q5.2).bind fun q14 =>
  (gfd 0 0 q14.2 a0).bind fun v18 =>
  (F_Pg_openBelow v18.toNat x1 q14.2).bind fun q22 =>
  (gfd 0 0 q22.2 a0).bind fun v27 =>
  (F_Pg_openBelow v27.toNat x2 q22.2).bind fun q31 =>
  (F_Ck_heightSuffices q14.1 q22.1 q5.1 q31.1 q31.2).bind fun q34 =>
  if q34.1 ≠ 0 then
    (B_Ck_wantsSuffice_45 a0 x1 x2 q5.1 0 q34.2)
  else
    (some (0, q34.2)) := by
  refine (congrArg asI (if_pos ho)).trans ?_
  show asI (Lim 2 0 [some (.inr (.inr a0)), some (.inl x1), some (.inl x2), none, none] [] h) = _
  refine A_aload_n d_2_0 rfl ?_
  refine A_getfA rfl d_2_1 kF_0_12 (fun v1 => ?_)
  refine A_iload_n d_2_4 rfl ?_
  refine A_call (t := 68) (way := 0) rfl d_2_5 rfl (cl kI_0_40 rfl) rfl (by decide) rfl (fun q5 => ?_)
  refine A_istore_n d_2_8 rfl ?_
  refine A_aload_n d_2_9 rfl ?_
  refine A_getfA rfl d_2_10 kF_0_12 (fun v10 => ?_)
  refine A_iload_n d_2_13 rfl ?_
  refine A_call (t := 68) (way := 0) rfl d_2_14 rfl (cl kI_0_40 rfl) rfl (by decide) rfl (fun q14 => ?_)
  refine A_aload_n d_2_17 rfl ?_
  refine A_getfA rfl d_2_18 kF_0_12 (fun v18 => ?_)
  refine A_iload_n d_2_21 rfl ?_
  refine A_call (t := 71) (way := 0) rfl d_2_22 rfl (cl kI_0_43 rfl) rfl (by decide) rfl (fun q22 => ?_)
  refine A_iload_n d_2_25 rfl ?_
  refine A_aload_n d_2_26 rfl ?_
  refine A_getfA rfl d_2_27 kF_0_12 (fun v27 => ?_)
  refine A_iload_n d_2_30 rfl ?_
  refine A_call (t := 71) (way := 0) rfl d_2_31 rfl (cl kI_0_43 rfl) rfl (by decide) rfl (fun q31 => ?_)
  refine A_call (t := 4) (way := 2) rfl d_2_34 rfl (cl kI_0_46 rfl) rfl (by decide) rfl (fun q34 => ?_)
  refine A_ne0 (t := 42) d_2_37 (by decide) ?_ ?_
  · refine A_iconst d_2_42 (by decide) ?_
    refine A_istore d_2_43 rfl ?_
    exact rfl
  · refine A_iconst d_2_40 (by decide) ?_
    exact A_iretz rfl d_2_41 (by decide)
set_option maxRecDepth 20000 in
theorem q_Ck_isPlainlyEnough_9 (x0 : Int) (x1 : Int) (h : mH) : B_Ck_isPlainlyEnough_9 x0 x1 h =
  some (1, h) := by
  unfold B_Ck_isPlainlyEnough_9
  refine A_iconst d_3_9 (by decide) ?_
  refine A_goto (t := 14) d_3_10 (by decide) ?_
  exact A_iretz rfl d_3_14 (by decide)
set_option maxRecDepth 20000 in
theorem q_Ck_isPlainlyEnough (x0 : Int) (x1 : Int) (h : mH) : F_Ck_isPlainlyEnough x0 x1 h =
  if x1 = 0 then
    (B_Ck_isPlainlyEnough_9 x0 x1 h)
  else
    (if x0 ≠ x1 then
      (some (0, h))
    else
      (B_Ck_isPlainlyEnough_9 x0 x1 h)) := by
  refine (congrArg asI (if_pos rfl)).trans ?_
  show asI (Lim 3 0 [some (.inl x0), some (.inl x1)] [] h) = _
  refine A_iload_n d_3_0 rfl ?_
  refine A_eq0 (t := 9) d_3_1 (by decide) ?_ ?_
  · exact rfl
  · refine A_iload_n d_3_4 rfl ?_
    refine A_iload_n d_3_5 rfl ?_
    refine A_ne (t := 13) d_3_6 (by decide) ?_ ?_
    · refine A_iconst d_3_13 (by decide) ?_
      exact A_iretz rfl d_3_14 (by decide)
    · exact rfl
set_option maxRecDepth 20000 in
theorem q_Ck_heightSuffices (x0 : Int) (x1 : Int) (x2 : Int) (x3 : Int) (h : mH) : F_Ck_heightSuffices x0 x1 x2 x3 h =
  if x3 ≠ 1 then
    (if x0 ≠ x2 then
      (some (0, h))
    else
      (if x1 ≠ 0 then
        (some (0, h))
      else
        (some (1, h))))
  else
    (if x0 < x2 then
      (some (0, h))
    else
      (some (1, h))) := by
  refine (congrArg asI (if_pos rfl)).trans ?_
  show asI (Lim 4 0 [some (.inl x0), some (.inl x1), some (.inl x2), some (.inl x3)] [] h) = _
  refine A_iload_n d_4_0 rfl ?_
  refine A_iconst d_4_1 (by decide) ?_
  refine A_ne (t := 18) d_4_2 (by decide) ?_ ?_
  · refine A_iload_n d_4_18 rfl ?_
    refine A_iload_n d_4_19 rfl ?_
    refine A_ne (t := 31) d_4_20 (by decide) ?_ ?_
    · refine A_iconst d_4_31 (by decide) ?_
      exact A_iretz rfl d_4_32 (by decide)
    · refine A_iload_n d_4_23 rfl ?_
      refine A_ne0 (t := 31) d_4_24 (by decide) ?_ ?_
      · refine A_iconst d_4_31 (by decide) ?_
        exact A_iretz rfl d_4_32 (by decide)
      · refine A_iconst d_4_27 (by decide) ?_
        refine A_goto (t := 32) d_4_28 (by decide) ?_
        exact A_iretz rfl d_4_32 (by decide)
  · refine A_iload_n d_4_5 rfl ?_
    refine A_iload_n d_4_6 rfl ?_
    refine A_lt (t := 14) d_4_7 (by decide) ?_ ?_
    · refine A_iconst d_4_14 (by decide) ?_
      refine A_goto (t := 32) d_4_15 (by decide) ?_
      exact A_iretz rfl d_4_32 (by decide)
    · refine A_iconst d_4_10 (by decide) ?_
      refine A_goto (t := 32) d_4_11 (by decide) ?_
      exact A_iretz rfl d_4_32 (by decide)
set_option maxRecDepth 20000 in
theorem q_Ck_isEnough (a0 : Nat) (x1 : Int) (x2 : Int) (h : mH) (ho : isO h a0 0 = true) : F_Ck_isEnough a0 x1 x2 h =
  (F_Ck_isPlainlyEnough x1 x2 h).bind fun q2 =>
  if q2.1 = 0 then
    ((F_Ck_isCode x1 q2.2).bind fun q11 =>
    if q11.1 = 0 then
      (some (0, q11.2))
    else
      ((F_Ck_isCode x2 q11.2).bind fun q18 =>
      if q18.1 ≠ 0 then
        (if w32 ((w32 ((w32 ((w32 (x1 - 6)) * 4)) + x2)) - 6) < 0 then
          (some (0, q18.2))
        else
          ((gfd 0 4 q18.2 a0).bind fun v44 =>
          (aln q18.2 v44.toNat).bind fun v47 =>
          if v47 ≤ w32 ((w32 ((w32 ((w32 (x1 - 6)) * 4)) + x2)) - 6) then
            (some (0, q18.2))
          else
            ((gfd 0 4 q18.2 a0).bind fun v52 =>
            (bld q18.2 v52.toNat (w32 ((w32 ((w32 ((w32 (x1 - 6)) * 4)) + x2)) - 6))).bind fun v56 =>
            if v56 = 0 then
              (some (0, q18.2))
            else
              (some (1, q18.2)))))
      else
        (some (0, q18.2))))
  else
    (some (1, q2.2)) := by
  refine (congrArg asI (if_pos ho)).trans ?_
  show asI (Lim 5 0 [some (.inr (.inr a0)), some (.inl x1), some (.inl x2), none] [] h) = _
  refine A_iload_n d_5_0 rfl ?_
  refine A_iload_n d_5_1 rfl ?_
  refine A_call (t := 3) (way := 2) rfl d_5_2 rfl (cl kI_0_54 rfl) rfl (by decide) rfl (fun q2 => ?_)
  refine A_eq0 (t := 10) d_5_5 (by decide) ?_ ?_
  · refine A_iload_n d_5_10 rfl ?_
    refine A_call (t := 6) (way := 2) rfl d_5_11 rfl (cl kI_0_60 rfl) rfl (by decide) rfl (fun q11 => ?_)
    refine A_eq0 (t := 24) d_5_14 (by decide) ?_ ?_
    · refine A_iconst d_5_24 (by decide) ?_
      exact A_iretz rfl d_5_25 (by decide)
    · refine A_iload_n d_5_17 rfl ?_
      refine A_call (t := 6) (way := 2) rfl d_5_18 rfl (cl kI_0_60 rfl) rfl (by decide) rfl (fun q18 => ?_)
      refine A_ne0 (t := 26) d_5_21 (by decide) ?_ ?_
      · refine A_iload_n d_5_26 rfl ?_
        refine A_bipush d_5_27 (by decide) ?_
        refine A_isub d_5_29 ?_
        refine A_iconst d_5_30 (by decide) ?_
        refine A_imul d_5_31 ?_
        refine A_iload_n d_5_32 rfl ?_
        refine A_iadd d_5_33 ?_
        refine A_bipush d_5_34 (by decide) ?_
        refine A_isub d_5_36 ?_
        refine A_istore_n d_5_37 rfl ?_
        refine A_iload_n d_5_38 rfl ?_
        refine A_lt0 (t := 64) d_5_39 (by decide) ?_ ?_
        · refine A_iconst d_5_64 (by decide) ?_
          exact A_iretz rfl d_5_65 (by decide)
        · refine A_iload_n d_5_42 rfl ?_
          refine A_aload_n d_5_43 rfl ?_
          refine A_getfA rfl d_5_44 kF_0_28 (fun v44 => ?_)
          refine A_alen rfl d_5_47 (fun v47 => ?_)
          refine A_ge (t := 64) d_5_48 (by decide) ?_ ?_
          · refine A_iconst d_5_64 (by decide) ?_
            exact A_iretz rfl d_5_65 (by decide)
          · refine A_aload_n d_5_51 rfl ?_
            refine A_getfA rfl d_5_52 kF_0_28 (fun v52 => ?_)
            refine A_iload_n d_5_55 rfl ?_
            refine A_bald rfl d_5_56 (fun v56 => ?_)
            refine A_eq0 (t := 64) d_5_57 (by decide) ?_ ?_
            · refine A_iconst d_5_64 (by decide) ?_
              exact A_iretz rfl d_5_65 (by decide)
            · refine A_iconst d_5_60 (by decide) ?_
              refine A_goto (t := 65) d_5_61 (by decide) ?_
              exact A_iretz rfl d_5_65 (by decide)
      · refine A_iconst d_5_24 (by decide) ?_
        exact A_iretz rfl d_5_25 (by decide)
  · refine A_iconst d_5_8 (by decide) ?_
    exact A_iretz rfl d_5_9 (by decide)
set_option maxRecDepth 20000 in
theorem q_Ck_isCode (x0 : Int) (h : mH) : F_Ck_isCode x0 h =
  if x0 < 6 then
    (some (0, h))
  else
    (if 10 ≤ x0 then
      (some (0, h))
    else
      (some (1, h))) := by
  refine (congrArg asI (if_pos rfl)).trans ?_
  show asI (Lim 6 0 [some (.inl x0)] [] h) = _
  refine A_iload_n d_6_0 rfl ?_
  refine A_bipush d_6_1 (by decide) ?_
  refine A_lt (t := 16) d_6_3 (by decide) ?_ ?_
  · refine A_iconst d_6_16 (by decide) ?_
    exact A_iretz rfl d_6_17 (by decide)
  · refine A_iload_n d_6_6 rfl ?_
    refine A_bipush d_6_7 (by decide) ?_
    refine A_ge (t := 16) d_6_9 (by decide) ?_ ?_
    · refine A_iconst d_6_16 (by decide) ?_
      exact A_iretz rfl d_6_17 (by decide)
    · refine A_iconst d_6_12 (by decide) ?_
      refine A_goto (t := 17) d_6_13 (by decide) ?_
      exact A_iretz rfl d_6_17 (by decide)
set_option maxRecDepth 20000 in
theorem q_Ck_register (a0 : Nat) (x1 : Int) (h : mH) (ho : isO h a0 0 = true) : F_Ck_register a0 x1 h =
  if x1 < 0 then
    (some (0, h))
  else
    (if 4 ≤ x1 then
      (some (0, h))
    else
      ((gfd 0 1 h a0).bind fun v10 =>
      (ald 10 h v10.toNat x1).bind fun v14 =>
      some (v14, h))) := by
  refine (congrArg asI (if_pos ho)).trans ?_
  show asI (Lim 7 0 [some (.inr (.inr a0)), some (.inl x1)] [] h) = _
  refine A_iload_n d_7_0 rfl ?_
  refine A_lt0 (t := 18) d_7_1 (by decide) ?_ ?_
  · refine A_iconst d_7_18 (by decide) ?_
    exact A_ireti rfl d_7_19
  · refine A_iload_n d_7_4 rfl ?_
    refine A_iconst d_7_5 (by decide) ?_
    refine A_ge (t := 18) d_7_6 (by decide) ?_ ?_
    · refine A_iconst d_7_18 (by decide) ?_
      exact A_ireti rfl d_7_19
    · refine A_aload_n d_7_9 rfl ?_
      refine A_getfA rfl d_7_10 kF_0_18 (fun v10 => ?_)
      refine A_iload_n d_7_13 rfl ?_
      refine A_iald rfl d_7_14 (fun v14 => ?_)
      refine A_goto (t := 19) d_7_15 (by decide) ?_
      exact A_ireti rfl d_7_19
set_option maxRecDepth 20000 in
theorem q_Ck_setRegister (a0 : Nat) (x1 : Int) (x2 : Int) (h : mH) (ho : isO h a0 0 = true) : F_Ck_setRegister a0 x1 x2 h =
  if x1 < 0 then
    (some h)
  else
    (if 4 ≤ x1 then
      (some h)
    else
      ((gfd 0 1 h a0).bind fun v10 =>
      (ast h v10.toNat x1 x2).bind fun h15 =>
      some h15)) := by
  refine (congrArg asU (if_pos ho)).trans ?_
  show asU (Lim 8 0 [some (.inr (.inr a0)), some (.inl x1), some (.inl x2)] [] h) = _
  refine A_iload_n d_8_0 rfl ?_
  refine A_lt0 (t := 16) d_8_1 (by decide) ?_ ?_
  · exact A_ret rfl d_8_16
  · refine A_iload_n d_8_4 rfl ?_
    refine A_iconst d_8_5 (by decide) ?_
    refine A_ge (t := 16) d_8_6 (by decide) ?_ ?_
    · exact A_ret rfl d_8_16
    · refine A_aload_n d_8_9 rfl ?_
      refine A_getfA rfl d_8_10 kF_0_18 (fun v10 => ?_)
      refine A_iload_n d_8_13 rfl ?_
      refine A_iload_n d_8_14 rfl ?_
      refine A_iast rfl d_8_15 (fun h15 => ?_)
      exact A_ret rfl d_8_16
set_option maxRecDepth 20000 in
theorem q_Ck_fromTop (a0 : Nat) (x1 : Int) (h : mH) (ho : isO h a0 0 = true) : F_Ck_fromTop a0 x1 h =
  (gfd 0 7 h a0).bind fun v1 =>
  if w32 ((w32 (v1 - 1)) - x1) < 0 then
    (some (0, h))
  else
    (if 6 ≤ w32 ((w32 (v1 - 1)) - x1) then
      (some (0, h))
    else
      ((gfd 0 2 h a0).bind fun v20 =>
      (ald 10 h v20.toNat (w32 ((w32 (v1 - 1)) - x1))).bind fun v24 =>
      some (v24, h))) := by
  refine (congrArg asI (if_pos ho)).trans ?_
  show asI (Lim 9 0 [some (.inr (.inr a0)), some (.inl x1), none] [] h) = _
  refine A_aload_n d_9_0 rfl ?_
  refine A_getfI rfl d_9_1 kF_0_64 (by decide) (fun v1 => ?_)
  refine A_iconst d_9_4 (by decide) ?_
  refine A_isub d_9_5 ?_
  refine A_iload_n d_9_6 rfl ?_
  refine A_isub d_9_7 ?_
  refine A_istore_n d_9_8 rfl ?_
  refine A_iload_n d_9_9 rfl ?_
  refine A_lt0 (t := 28) d_9_10 (by decide) ?_ ?_
  · refine A_iconst d_9_28 (by decide) ?_
    exact A_ireti rfl d_9_29
  · refine A_iload_n d_9_13 rfl ?_
    refine A_bipush d_9_14 (by decide) ?_
    refine A_ge (t := 28) d_9_16 (by decide) ?_ ?_
    · refine A_iconst d_9_28 (by decide) ?_
      exact A_ireti rfl d_9_29
    · refine A_aload_n d_9_19 rfl ?_
      refine A_getfA rfl d_9_20 kF_0_22 (fun v20 => ?_)
      refine A_iload_n d_9_23 rfl ?_
      refine A_iald rfl d_9_24 (fun v24 => ?_)
      refine A_goto (t := 29) d_9_25 (by decide) ?_
      exact A_ireti rfl d_9_29
set_option maxRecDepth 20000 in
theorem q_Ck_begin_2 (a0 : Nat) (x1 : Int) (x2 : Int) (h : mH) : B_Ck_begin_2 a0 x1 x2 h =
  if 4 ≤ x2 then
    ((pfd 0 7 h a0 0).bind fun h30 =>
    (gfd 0 0 h30 a0).bind fun v34 =>
    (F_Pg_wantedHeight v34.toNat x1 h30).bind fun q38 =>
    B_Ck_begin_44 a0 x1 (w32 (q38.1 - 1)) q38.2)
  else
    ((gfd 0 1 h a0).bind fun v8 =>
    (gfd 0 0 h a0).bind fun v13 =>
    (F_Pg_wanted v13.toNat x1 x2 h).bind fun q18 =>
    (ast q18.2 v8.toNat x2 q18.1).bind fun h21 =>
    B_Ck_begin_2 a0 x1 (w32 (x2 + 1)) h21) := by
  unfold B_Ck_begin_2
  refine A_iload_n d_10_2 rfl ?_
  refine A_iconst d_10_3 (by decide) ?_
  refine A_ge (t := 28) d_10_4 (by decide) ?_ ?_
  · refine A_aload_n d_10_28 rfl ?_
    refine A_iconst d_10_29 (by decide) ?_
    refine A_putfI rfl d_10_30 kF_0_64 rfl (fun h30 => ?_)
    refine A_aload_n d_10_33 rfl ?_
    refine A_getfA rfl d_10_34 kF_0_12 (fun v34 => ?_)
    refine A_iload_n d_10_37 rfl ?_
    refine A_call (t := 68) (way := 0) rfl d_10_38 rfl (cl kI_0_40 rfl) rfl (by decide) rfl (fun q38 => ?_)
    refine A_iconst d_10_41 (by decide) ?_
    refine A_isub d_10_42 ?_
    refine A_istore_n d_10_43 rfl ?_
    exact rfl
  · refine A_aload_n d_10_7 rfl ?_
    refine A_getfA rfl d_10_8 kF_0_18 (fun v8 => ?_)
    refine A_iload_n d_10_11 rfl ?_
    refine A_aload_n d_10_12 rfl ?_
    refine A_getfA rfl d_10_13 kF_0_12 (fun v13 => ?_)
    refine A_iload_n d_10_16 rfl ?_
    refine A_iload_n d_10_17 rfl ?_
    refine A_call (t := 66) (way := 0) rfl d_10_18 rfl (cl kI_0_50 rfl) rfl (by decide) rfl (fun q18 => ?_)
    refine A_iast rfl d_10_21 (fun h21 => ?_)
    refine A_iinc d_10_22 (by decide) rfl rfl ?_
    refine A_goto (t := 2) d_10_25 (by decide) ?_
    exact rfl
set_option maxRecDepth 20000 in
theorem q_Ck_begin_44 (a0 : Nat) (x1 : Int) (x2 : Int) (h : mH) : B_Ck_begin_44 a0 x1 x2 h =
  if x2 < 0 then
    ((gfd 0 0 h a0).bind fun v70 =>
    (F_Pg_openBelow v70.toNat x1 h).bind fun q74 =>
    (pfd 0 5 q74.2 a0 q74.1).bind fun h77 =>
    ((bz 0).bind fun _ => pfd 0 6 h77 a0 0).bind fun h82 =>
    (pfd 0 8 h82 a0 0).bind fun h87 =>
    (pfd 0 9 h87 a0 0).bind fun h92 =>
    some h92)
  else
    ((gfd 0 0 h a0).bind fun v50 =>
    (F_Pg_wantedFromTop v50.toNat x1 x2 h).bind fun q55 =>
    (F_Ck_push a0 q55.1 q55.2).bind fun q58 =>
    B_Ck_begin_44 a0 x1 (w32 (x2 + (-1))) q58.2) := by
  unfold B_Ck_begin_44
  refine A_iload_n d_10_44 rfl ?_
  refine A_lt0 (t := 68) d_10_45 (by decide) ?_ ?_
  · refine A_aload_n d_10_68 rfl ?_
    refine A_aload_n d_10_69 rfl ?_
    refine A_getfA rfl d_10_70 kF_0_12 (fun v70 => ?_)
    refine A_iload_n d_10_73 rfl ?_
    refine A_call (t := 71) (way := 0) rfl d_10_74 rfl (cl kI_0_43 rfl) rfl (by decide) rfl (fun q74 => ?_)
    refine A_putfI rfl d_10_77 kF_0_71 rfl (fun h77 => ?_)
    refine A_aload_n d_10_80 rfl ?_
    refine A_iconst d_10_81 (by decide) ?_
    refine A_putfZ rfl d_10_82 kF_0_74 rfl (fun h82 => ?_)
    refine A_aload_n d_10_85 rfl ?_
    refine A_iconst d_10_86 (by decide) ?_
    refine A_putfI rfl d_10_87 kF_0_78 rfl (fun h87 => ?_)
    refine A_aload_n d_10_90 rfl ?_
    refine A_iconst d_10_91 (by decide) ?_
    refine A_putfI rfl d_10_92 kF_0_81 rfl (fun h92 => ?_)
    exact A_ret rfl d_10_95
  · refine A_aload_n d_10_48 rfl ?_
    refine A_aload_n d_10_49 rfl ?_
    refine A_getfA rfl d_10_50 kF_0_12 (fun v50 => ?_)
    refine A_iload_n d_10_53 rfl ?_
    refine A_iload_n d_10_54 rfl ?_
    refine A_call (t := 69) (way := 0) rfl d_10_55 rfl (cl kI_0_57 rfl) rfl (by decide) rfl (fun q55 => ?_)
    refine A_call (t := 19) (way := 0) rfl d_10_58 rfl (cl kI_0_68 rfl) rfl (by decide) rfl (fun q58 => ?_)
    refine A_pop d_10_61 rfl ?_
    refine A_iinc d_10_62 (by decide) rfl rfl ?_
    refine A_goto (t := 44) d_10_65 (by decide) ?_
    exact rfl
set_option maxRecDepth 20000 in
theorem q_Ck_begin (a0 : Nat) (x1 : Int) (h : mH) (ho : isO h a0 0 = true) : F_Ck_begin a0 x1 h =
  B_Ck_begin_2 a0 x1 0 h := by
  refine (congrArg asU (if_pos ho)).trans ?_
  show asU (Lim 10 0 [some (.inr (.inr a0)), some (.inl x1), none] [] h) = _
  refine A_iconst d_10_0 (by decide) ?_
  refine A_istore_n d_10_1 rfl ?_
  exact rfl
set_option maxRecDepth 20000 in
theorem q_Ck_passes_7 (a0 : Nat) (x1 : Int) (x2 : Int) (x3 : Int) (h : mH) : B_Ck_passes_7 a0 x1 x2 x3 h =
  if x2 ≤ x3 then
    (B_Ck_passes_52 a0 x1 x2 x3 h)
  else
    ((gfd 0 9 h a0).bind fun v13 =>
    if v13 ≠ 0 then
      (B_Ck_passes_52 a0 x1 x2 x3 h)
    else
      ((pfd 0 8 h a0 x3).bind fun h21 =>
      (gfd 0 6 h21 a0).bind fun v26 =>
      if v26 = 0 then
        ((F_Ck_step a0 x1 x3 h21).bind fun q40 =>
        B_Ck_passes_43 a0 x1 x2 x3 q40.1 a0 q40.2)
      else
        (B_Ck_passes_43 a0 x1 x2 x3 9 a0 h21))) := by
  unfold B_Ck_passes_7
  refine A_iload_n d_11_7 rfl ?_
  refine A_iload_n d_11_8 rfl ?_
  refine A_ge (t := 52) d_11_9 (by decide) ?_ ?_
  · exact rfl
  · refine A_aload_n d_11_12 rfl ?_
    refine A_getfI rfl d_11_13 kF_0_81 (by decide) (fun v13 => ?_)
    refine A_ne0 (t := 52) d_11_16 (by decide) ?_ ?_
    · exact rfl
    · refine A_aload_n d_11_19 rfl ?_
      refine A_iload_n d_11_20 rfl ?_
      refine A_putfI rfl d_11_21 kF_0_78 rfl (fun h21 => ?_)
      refine A_aload_n d_11_24 rfl ?_
      refine A_aload_n d_11_25 rfl ?_
      refine A_getfI rfl d_11_26 kF_0_74 (by decide) (fun v26 => ?_)
      refine A_eq0 (t := 37) d_11_29 (by decide) ?_ ?_
      · refine A_aload_n d_11_37 rfl ?_
        refine A_iload_n d_11_38 rfl ?_
        refine A_iload_n d_11_39 rfl ?_
        refine A_call (t := 15) (way := 0) rfl d_11_40 rfl (cl kI_0_88 rfl) rfl (by decide) rfl (fun q40 => ?_)
        exact rfl
      · refine A_bipush d_11_32 (by decide) ?_
        refine A_goto (t := 43) d_11_34 (by decide) ?_
        exact rfl
set_option maxRecDepth 20000 in
theorem q_Ck_passes_43 (a0 : Nat) (x1 : Int) (x2 : Int) (x3 : Int) (s0 : Int) (sa1 : Nat) (h : mH) : B_Ck_passes_43 a0 x1 x2 x3 s0 sa1 h =
  (pfd 0 9 h sa1 s0).bind fun h43 =>
  B_Ck_passes_7 a0 x1 x2 (w32 (x3 + 1)) h43 := by
  unfold B_Ck_passes_43
  refine A_putfI rfl d_11_43 kF_0_81 rfl (fun h43 => ?_)
  refine A_iinc d_11_46 (by decide) rfl rfl ?_
  refine A_goto (t := 7) d_11_49 (by decide) ?_
  exact rfl
set_option maxRecDepth 20000 in
theorem q_Ck_passes_52 (a0 : Nat) (x1 : Int) (x2 : Int) (x3 : Int) (h : mH) : B_Ck_passes_52 a0 x1 x2 x3 h =
  (gfd 0 9 h a0).bind fun v53 =>
  if v53 ≠ 0 then
    (some (0, h))
  else
    (some (1, h)) := by
  unfold B_Ck_passes_52
  refine A_aload_n d_11_52 rfl ?_
  refine A_getfI rfl d_11_53 kF_0_81 (by decide) (fun v53 => ?_)
  refine A_ne0 (t := 63) d_11_56 (by decide) ?_ ?_
  · refine A_iconst d_11_63 (by decide) ?_
    exact A_iretz rfl d_11_64 (by decide)
  · refine A_iconst d_11_59 (by decide) ?_
    refine A_goto (t := 64) d_11_60 (by decide) ?_
    exact A_iretz rfl d_11_64 (by decide)
set_option maxRecDepth 20000 in
theorem q_Ck_passes (a0 : Nat) (x1 : Int) (x2 : Int) (h : mH) (ho : isO h a0 0 = true) : F_Ck_passes a0 x1 x2 h =
  (F_Ck_begin a0 x1 h).bind fun h2 =>
  B_Ck_passes_7 a0 x1 x2 0 h2 := by
  refine (congrArg asI (if_pos ho)).trans ?_
  show asI (Lim 11 0 [some (.inr (.inr a0)), some (.inl x1), some (.inl x2), none] [] h) = _
  refine A_aload_n d_11_0 rfl ?_
  refine A_iload_n d_11_1 rfl ?_
  refine A_callU (t := 10) (way := 0) rfl d_11_2 rfl (cl kI_0_84 rfl) rfl rfl rfl (fun h2 => ?_)
  refine A_iconst d_11_5 (by decide) ?_
  refine A_istore_n d_11_6 rfl ?_
  exact rfl
set_option maxRecDepth 20000 in
theorem q_Ck_isSure_36 (a0 : Nat) (x1 : Int) (x2 : Int) (h : mH) : B_Ck_isSure_36 a0 x1 x2 h =
  (gfd 0 9 h a0).bind fun v37 =>
  if v37 ≠ 0 then
    (some (0, h))
  else
    (some (1, h)) := by
  unfold B_Ck_isSure_36
  refine A_aload_n d_12_36 rfl ?_
  refine A_getfI rfl d_12_37 kF_0_81 (by decide) (fun v37 => ?_)
  refine A_ne0 (t := 47) d_12_40 (by decide) ?_ ?_
  · refine A_iconst d_12_47 (by decide) ?_
    exact A_iretz rfl d_12_48 (by decide)
  · refine A_iconst d_12_43 (by decide) ?_
    refine A_goto (t := 48) d_12_44 (by decide) ?_
    exact A_iretz rfl d_12_48 (by decide)
set_option maxRecDepth 20000 in
theorem q_Ck_isSure (a0 : Nat) (x1 : Int) (h : mH) (ho : isO h a0 0 = true) : F_Ck_isSure a0 x1 h =
  (gfd 0 0 h a0).bind fun v1 =>
  (F_Pg_size v1.toNat x1 h).bind fun q5 =>
  (F_Ck_passes a0 x1 q5.1 q5.2).bind fun q12 =>
  if q12.1 = 0 then
    (B_Ck_isSure_36 a0 x1 q5.1 q12.2)
  else
    ((gfd 0 6 q12.2 a0).bind fun v19 =>
    if v19 ≠ 0 then
      (B_Ck_isSure_36 a0 x1 q5.1 q12.2)
    else
      ((pfd 0 8 q12.2 a0 q5.1).bind fun h27 =>
      (pfd 0 9 h27 a0 10).bind fun h33 =>
      B_Ck_isSure_36 a0 x1 q5.1 h33)) := by
  refine (congrArg asI (if_pos ho)).trans ?_
  show asI (Lim 12 0 [some (.inr (.inr a0)), some (.inl x1), none] [] h) = _
  refine A_aload_n d_12_0 rfl ?_
  refine A_getfA rfl d_12_1 kF_0_12 (fun v1 => ?_)
  refine A_iload_n d_12_4 rfl ?_
  refine A_call (t := 73) (way := 0) rfl d_12_5 rfl (cl kI_0_91 rfl) rfl (by decide) rfl (fun q5 => ?_)
  refine A_istore_n d_12_8 rfl ?_
  refine A_aload_n d_12_9 rfl ?_
  refine A_iload_n d_12_10 rfl ?_
  refine A_iload_n d_12_11 rfl ?_
  refine A_call (t := 11) (way := 0) rfl d_12_12 rfl (cl kI_0_94 rfl) rfl (by decide) rfl (fun q12 => ?_)
  refine A_eq0 (t := 36) d_12_15 (by decide) ?_ ?_
  · exact rfl
  · refine A_aload_n d_12_18 rfl ?_
    refine A_getfI rfl d_12_19 kF_0_74 (by decide) (fun v19 => ?_)
    refine A_ne0 (t := 36) d_12_22 (by decide) ?_ ?_
    · exact rfl
    · refine A_aload_n d_12_25 rfl ?_
      refine A_iload_n d_12_26 rfl ?_
      refine A_putfI rfl d_12_27 kF_0_78 rfl (fun h27 => ?_)
      refine A_aload_n d_12_30 rfl ?_
      refine A_bipush d_12_31 (by decide) ?_
      refine A_putfI rfl d_12_33 kF_0_81 rfl (fun h33 => ?_)
      exact rfl
set_option maxRecDepth 20000 in
theorem q_Ck_sureBits_4 (a0 : Nat) (x1 : Int) (x2 : Int) (h : mH) : B_Ck_sureBits_4 a0 x1 x2 h =
  (gfd 0 0 h a0).bind fun v6 =>
  (F_Pg_labels v6.toNat h).bind fun q9 =>
  if q9.1 ≤ x2 then
    (some (x1, q9.2))
  else
    ((F_Ck_isSure a0 x2 q9.2).bind fun q17 =>
    if q17.1 = 0 then
      (B_Ck_sureBits_29 a0 x1 x2 q17.2)
    else
      (B_Ck_sureBits_29 a0 (ior x1 (ishl 1 x2)) x2 q17.2)) := by
  unfold B_Ck_sureBits_4
  refine A_iload_n d_13_4 rfl ?_
  refine A_aload_n d_13_5 rfl ?_
  refine A_getfA rfl d_13_6 kF_0_12 (fun v6 => ?_)
  refine A_call (t := 53) (way := 0) rfl d_13_9 rfl (cl kI_0_97 rfl) rfl (by decide) rfl (fun q9 => ?_)
  refine A_ge (t := 35) d_13_12 (by decide) ?_ ?_
  · refine A_iload_n d_13_35 rfl ?_
    exact A_ireti rfl d_13_36
  · refine A_aload_n d_13_15 rfl ?_
    refine A_iload_n d_13_16 rfl ?_
    refine A_call (t := 12) (way := 0) rfl d_13_17 rfl (cl kI_0_101 rfl) rfl (by decide) rfl (fun q17 => ?_)
    refine A_eq0 (t := 29) d_13_20 (by decide) ?_ ?_
    · exact rfl
    · refine A_iload_n d_13_23 rfl ?_
      refine A_iconst d_13_24 (by decide) ?_
      refine A_iload_n d_13_25 rfl ?_
      refine A_ishl d_13_26 ?_
      refine A_ior d_13_27 ?_
      refine A_istore_n d_13_28 rfl ?_
      exact rfl
set_option maxRecDepth 20000 in
theorem q_Ck_sureBits_29 (a0 : Nat) (x1 : Int) (x2 : Int) (h : mH) : B_Ck_sureBits_29 a0 x1 x2 h =
  B_Ck_sureBits_4 a0 x1 (w32 (x2 + 1)) h := by
  unfold B_Ck_sureBits_29
  refine A_iinc d_13_29 (by decide) rfl rfl ?_
  refine A_goto (t := 4) d_13_32 (by decide) ?_
  exact rfl
set_option maxRecDepth 20000 in
theorem q_Ck_sureBits (a0 : Nat) (h : mH) (ho : isO h a0 0 = true) : F_Ck_sureBits a0 h =
  B_Ck_sureBits_4 a0 0 0 h := by
  refine (congrArg asI (if_pos ho)).trans ?_
  show asI (Lim 13 0 [some (.inr (.inr a0)), none, none] [] h) = _
  refine A_iconst d_13_0 (by decide) ?_
  refine A_istore_n d_13_1 rfl ?_
  refine A_iconst d_13_2 (by decide) ?_
  refine A_istore_n d_13_3 rfl ?_
  exact rfl
set_option maxRecDepth 20000 in
theorem q_Ck_joinBits_9 (a0 : Nat) (x1 : Int) (x2 : Int) (x3 : Int) (h : mH) : B_Ck_joinBits_9 a0 x1 x2 x3 h =
  (gfd 0 0 h a0).bind fun v11 =>
  (F_Pg_labels v11.toNat h).bind fun q14 =>
  if q14.1 ≤ x3 then
    (some (x2, q14.2))
  else
    ((F_Ck_jump a0 x3 q14.2).bind fun q22 =>
    if q22.1 ≠ 0 then
      (B_Ck_joinBits_34 a0 x1 x2 x3 q22.2)
    else
      (B_Ck_joinBits_34 a0 x1 (ior x2 (ishl 1 x3)) x3 q22.2)) := by
  unfold B_Ck_joinBits_9
  refine A_iload_n d_14_9 rfl ?_
  refine A_aload_n d_14_10 rfl ?_
  refine A_getfA rfl d_14_11 kF_0_12 (fun v11 => ?_)
  refine A_call (t := 53) (way := 0) rfl d_14_14 rfl (cl kI_0_97 rfl) rfl (by decide) rfl (fun q14 => ?_)
  refine A_ge (t := 40) d_14_17 (by decide) ?_ ?_
  · refine A_iload_n d_14_40 rfl ?_
    exact A_ireti rfl d_14_41
  · refine A_aload_n d_14_20 rfl ?_
    refine A_iload_n d_14_21 rfl ?_
    refine A_call (t := 16) (way := 0) rfl d_14_22 rfl (cl kI_0_104 rfl) rfl (by decide) rfl (fun q22 => ?_)
    refine A_ne0 (t := 34) d_14_25 (by decide) ?_ ?_
    · exact rfl
    · refine A_iload_n d_14_28 rfl ?_
      refine A_iconst d_14_29 (by decide) ?_
      refine A_iload_n d_14_30 rfl ?_
      refine A_ishl d_14_31 ?_
      refine A_ior d_14_32 ?_
      refine A_istore_n d_14_33 rfl ?_
      exact rfl
set_option maxRecDepth 20000 in
theorem q_Ck_joinBits_34 (a0 : Nat) (x1 : Int) (x2 : Int) (x3 : Int) (h : mH) : B_Ck_joinBits_34 a0 x1 x2 x3 h =
  B_Ck_joinBits_9 a0 x1 x2 (w32 (x3 + 1)) h := by
  unfold B_Ck_joinBits_34
  refine A_iinc d_14_34 (by decide) rfl rfl ?_
  refine A_goto (t := 9) d_14_37 (by decide) ?_
  exact rfl
set_option maxRecDepth 20000 in
theorem q_Ck_joinBits (a0 : Nat) (x1 : Int) (h : mH) (ho : isO h a0 0 = true) : F_Ck_joinBits a0 x1 h =
  (F_Ck_begin a0 x1 h).bind fun h2 =>
  B_Ck_joinBits_9 a0 x1 0 0 h2 := by
  refine (congrArg asI (if_pos ho)).trans ?_
  show asI (Lim 14 0 [some (.inr (.inr a0)), some (.inl x1), none, none] [] h) = _
  refine A_aload_n d_14_0 rfl ?_
  refine A_iload_n d_14_1 rfl ?_
  refine A_callU (t := 10) (way := 0) rfl d_14_2 rfl (cl kI_0_84 rfl) rfl rfl rfl (fun h2 => ?_)
  refine A_iconst d_14_5 (by decide) ?_
  refine A_istore_n d_14_6 rfl ?_
  refine A_iconst d_14_7 (by decide) ?_
  refine A_istore_n d_14_8 rfl ?_
  exact rfl
set_option maxRecDepth 20000 in
theorem q_Ck_step (a0 : Nat) (x1 : Int) (x2 : Int) (h : mH) (ho : isO h a0 0 = true) : F_Ck_step a0 x1 x2 h =
  (gfd 0 0 h a0).bind fun v1 =>
  (F_Pg_part v1.toNat x1 x2 1 h).bind fun q7 =>
  (gfd 0 0 q7.2 a0).bind fun v12 =>
  (F_Pg_part v12.toNat x1 x2 2 q7.2).bind fun q18 =>
  (gfd 0 0 q18.2 a0).bind fun v24 =>
  (F_Pg_part v24.toNat x1 x2 3 q18.2).bind fun q30 =>
  (gfd 0 0 q30.2 a0).bind fun v36 =>
  (F_Pg_part v36.toNat x1 x2 0 q30.2).bind fun q42 =>
  if q42.1 = 0 then
    ((F_Ck_register a0 q18.1 q42.2).bind fun q117 =>
    (F_Ck_setRegister a0 q7.1 q117.1 q117.2).bind fun h120 =>
    some (0, h120))
  else if q42.1 = 1 then
    ((F_Ck_setRegister a0 q7.1 1 q42.2).bind fun h128 =>
    some (0, h128))
  else if q42.1 = 2 then
    ((F_Ck_register a0 q7.1 q42.2).bind fun q135 =>
    if q135.1 ≠ 1 then
      (some (1, q135.2))
    else
      ((F_Ck_register a0 q18.1 q135.2).bind fun q145 =>
      if q145.1 ≠ 1 then
        (some (1, q145.2))
      else
        (some (0, q145.2))))
  else if q42.1 = 3 then
    ((F_Ck_tuple a0 q18.1 0 q42.2).bind fun q164 =>
    (F_Ck_setRegister a0 q7.1 q164.1 q164.2).bind fun h167 =>
    some (0, h167))
  else if q42.1 = 4 then
    ((F_Ck_setField a0 q7.1 q18.1 q30.1 q42.2).bind fun q178 =>
    some (q178.1, q178.2))
  else if q42.1 = 5 then
    ((F_Ck_getField a0 q7.1 q18.1 q30.1 q42.2).bind fun q188 =>
    some (q188.1, q188.2))
  else if q42.1 = 6 then
    ((F_Ck_register a0 q7.1 q42.2).bind fun q195 =>
    (F_Ck_push a0 q195.1 q195.2).bind fun q198 =>
    if q198.1 = 0 then
      (some (5, q198.2))
    else
      (some (0, q198.2)))
  else if q42.1 = 7 then
    ((F_Ck_pop a0 q7.1 q42.2).bind fun q212 =>
    some (q212.1, q212.2))
  else if q42.1 = 8 then
    ((F_Ck_setRegister a0 q7.1 (w32 (6 + q18.1)) q42.2).bind fun h223 =>
    some (0, h223))
  else if q42.1 = 9 then
    (((bz 1).bind fun _ => pfd 0 6 q42.2 a0 1).bind fun h250 =>
    (F_Ck_jump a0 q7.1 h250).bind fun q255 =>
    some (q255.1, q255.2))
  else if q42.1 = 10 then
    ((F_Ck_register a0 q7.1 q42.2).bind fun q230 =>
    if q230.1 ≠ 1 then
      (some (1, q230.2))
    else
      ((F_Ck_jump a0 q18.1 q230.2).bind fun q240 =>
      some (q240.1, q240.2)))
  else if q42.1 = 11 then
    (((bz 1).bind fun _ => pfd 0 6 q42.2 a0 1).bind fun h261 =>
    (F_Ck_setRegister a0 3 (w32 (6 + q18.1)) h261).bind fun h271 =>
    (F_Ck_jump a0 q7.1 h271).bind fun q276 =>
    some (q276.1, q276.2))
  else if q42.1 = 12 then
    (((bz 1).bind fun _ => pfd 0 6 q42.2 a0 1).bind fun h282 =>
    (F_Ck_register a0 q7.1 h282).bind fun q287 =>
    (F_Ck_isCode q287.1 q287.2).bind fun q290 =>
    if q290.1 = 0 then
      (some (8, q290.2))
    else
      ((F_Ck_register a0 q7.1 q290.2).bind fun q299 =>
      (F_Ck_jump a0 (w32 (q299.1 - 6)) q299.2).bind fun q305 =>
      some (q305.1, q305.2)))
  else (((bz 1).bind fun _ => pfd 0 6 q42.2 a0 1).bind fun h316 =>
    (F_Ck_register a0 0 h316).bind fun q321 =>
    if q321.1 ≠ 1 then
      (some (1, q321.2))
    else
      (some (0, q321.2))) := by
  refine (congrArg asI (if_pos ho)).trans ?_
  show asI (Lim 15 0 [some (.inr (.inr a0)), some (.inl x1), some (.inl x2), none, none, none] [] h) = _
  refine A_aload_n d_15_0 rfl ?_
  refine A_getfA rfl d_15_1 kF_0_12 (fun v1 => ?_)
  refine A_iload_n d_15_4 rfl ?_
  refine A_iload_n d_15_5 rfl ?_
  refine A_iconst d_15_6 (by decide) ?_
  refine A_call (t := 74) (way := 0) rfl d_15_7 rfl (cl kI_0_107 rfl) rfl (by decide) rfl (fun q7 => ?_)
  refine A_istore_n d_15_10 rfl ?_
  refine A_aload_n d_15_11 rfl ?_
  refine A_getfA rfl d_15_12 kF_0_12 (fun v12 => ?_)
  refine A_iload_n d_15_15 rfl ?_
  refine A_iload_n d_15_16 rfl ?_
  refine A_iconst d_15_17 (by decide) ?_
  refine A_call (t := 74) (way := 0) rfl d_15_18 rfl (cl kI_0_107 rfl) rfl (by decide) rfl (fun q18 => ?_)
  refine A_istore d_15_21 rfl ?_
  refine A_aload_n d_15_23 rfl ?_
  refine A_getfA rfl d_15_24 kF_0_12 (fun v24 => ?_)
  refine A_iload_n d_15_27 rfl ?_
  refine A_iload_n d_15_28 rfl ?_
  refine A_iconst d_15_29 (by decide) ?_
  refine A_call (t := 74) (way := 0) rfl d_15_30 rfl (cl kI_0_107 rfl) rfl (by decide) rfl (fun q30 => ?_)
  refine A_istore d_15_33 rfl ?_
  refine A_aload_n d_15_35 rfl ?_
  refine A_getfA rfl d_15_36 kF_0_12 (fun v36 => ?_)
  refine A_iload_n d_15_39 rfl ?_
  refine A_iload_n d_15_40 rfl ?_
  refine A_iconst d_15_41 (by decide) ?_
  refine A_call (t := 74) (way := 0) rfl d_15_42 rfl (cl kI_0_107 rfl) rfl (by decide) rfl (fun q42 => ?_)
  refine A_if (fun e45_0 => ?_) (fun e45_0 => ?_)
  · refine A_tab (t := 112) d_15_45 (by rw [e45_0]; decide) ?_
    refine A_aload_n d_15_112 rfl ?_
    refine A_iload_n d_15_113 rfl ?_
    refine A_aload_n d_15_114 rfl ?_
    refine A_iload d_15_115 rfl ?_
    refine A_call (t := 7) (way := 0) rfl d_15_117 rfl (cl kI_0_111 rfl) rfl (by decide) rfl (fun q117 => ?_)
    refine A_callU (t := 8) (way := 0) rfl d_15_120 rfl (cl kI_0_114 rfl) rfl rfl rfl (fun h120 => ?_)
    refine A_iconst d_15_123 (by decide) ?_
    exact A_ireti rfl d_15_124
  refine A_if (fun e45_1 => ?_) (fun e45_1 => ?_)
  · refine A_tab (t := 125) d_15_45 (by rw [e45_1]; decide) ?_
    refine A_aload_n d_15_125 rfl ?_
    refine A_iload_n d_15_126 rfl ?_
    refine A_iconst d_15_127 (by decide) ?_
    refine A_callU (t := 8) (way := 0) rfl d_15_128 rfl (cl kI_0_114 rfl) rfl rfl rfl (fun h128 => ?_)
    refine A_iconst d_15_131 (by decide) ?_
    exact A_ireti rfl d_15_132
  refine A_if (fun e45_2 => ?_) (fun e45_2 => ?_)
  · refine A_tab (t := 133) d_15_45 (by rw [e45_2]; decide) ?_
    refine A_aload_n d_15_133 rfl ?_
    refine A_iload_n d_15_134 rfl ?_
    refine A_call (t := 7) (way := 0) rfl d_15_135 rfl (cl kI_0_111 rfl) rfl (by decide) rfl (fun q135 => ?_)
    refine A_iconst d_15_138 (by decide) ?_
    refine A_ne (t := 156) d_15_139 (by decide) ?_ ?_
    · refine A_iconst d_15_156 (by decide) ?_
      exact A_ireti rfl d_15_157
    · refine A_aload_n d_15_142 rfl ?_
      refine A_iload d_15_143 rfl ?_
      refine A_call (t := 7) (way := 0) rfl d_15_145 rfl (cl kI_0_111 rfl) rfl (by decide) rfl (fun q145 => ?_)
      refine A_iconst d_15_148 (by decide) ?_
      refine A_ne (t := 156) d_15_149 (by decide) ?_ ?_
      · refine A_iconst d_15_156 (by decide) ?_
        exact A_ireti rfl d_15_157
      · refine A_iconst d_15_152 (by decide) ?_
        refine A_goto (t := 157) d_15_153 (by decide) ?_
        exact A_ireti rfl d_15_157
  refine A_if (fun e45_3 => ?_) (fun e45_3 => ?_)
  · refine A_tab (t := 158) d_15_45 (by rw [e45_3]; decide) ?_
    refine A_aload_n d_15_158 rfl ?_
    refine A_iload_n d_15_159 rfl ?_
    refine A_aload_n d_15_160 rfl ?_
    refine A_iload d_15_161 rfl ?_
    refine A_iconst d_15_163 (by decide) ?_
    refine A_call (t := 25) (way := 0) rfl d_15_164 rfl (cl kI_0_118 rfl) rfl (by decide) rfl (fun q164 => ?_)
    refine A_callU (t := 8) (way := 0) rfl d_15_167 rfl (cl kI_0_114 rfl) rfl rfl rfl (fun h167 => ?_)
    refine A_iconst d_15_170 (by decide) ?_
    exact A_ireti rfl d_15_171
  refine A_if (fun e45_4 => ?_) (fun e45_4 => ?_)
  · refine A_tab (t := 172) d_15_45 (by rw [e45_4]; decide) ?_
    refine A_aload_n d_15_172 rfl ?_
    refine A_iload_n d_15_173 rfl ?_
    refine A_iload d_15_174 rfl ?_
    refine A_iload d_15_176 rfl ?_
    refine A_call (t := 17) (way := 0) rfl d_15_178 rfl (cl kI_0_121 rfl) rfl (by decide) rfl (fun q178 => ?_)
    exact A_ireti rfl d_15_181
  refine A_if (fun e45_5 => ?_) (fun e45_5 => ?_)
  · refine A_tab (t := 182) d_15_45 (by rw [e45_5]; decide) ?_
    refine A_aload_n d_15_182 rfl ?_
    refine A_iload_n d_15_183 rfl ?_
    refine A_iload d_15_184 rfl ?_
    refine A_iload d_15_186 rfl ?_
    refine A_call (t := 18) (way := 0) rfl d_15_188 rfl (cl kI_0_124 rfl) rfl (by decide) rfl (fun q188 => ?_)
    exact A_ireti rfl d_15_191
  refine A_if (fun e45_6 => ?_) (fun e45_6 => ?_)
  · refine A_tab (t := 192) d_15_45 (by rw [e45_6]; decide) ?_
    refine A_aload_n d_15_192 rfl ?_
    refine A_aload_n d_15_193 rfl ?_
    refine A_iload_n d_15_194 rfl ?_
    refine A_call (t := 7) (way := 0) rfl d_15_195 rfl (cl kI_0_111 rfl) rfl (by decide) rfl (fun q195 => ?_)
    refine A_call (t := 19) (way := 0) rfl d_15_198 rfl (cl kI_0_68 rfl) rfl (by decide) rfl (fun q198 => ?_)
    refine A_eq0 (t := 208) d_15_201 (by decide) ?_ ?_
    · refine A_iconst d_15_208 (by decide) ?_
      exact A_ireti rfl d_15_209
    · refine A_iconst d_15_204 (by decide) ?_
      refine A_goto (t := 209) d_15_205 (by decide) ?_
      exact A_ireti rfl d_15_209
  refine A_if (fun e45_7 => ?_) (fun e45_7 => ?_)
  · refine A_tab (t := 210) d_15_45 (by rw [e45_7]; decide) ?_
    refine A_aload_n d_15_210 rfl ?_
    refine A_iload_n d_15_211 rfl ?_
    refine A_call (t := 20) (way := 0) rfl d_15_212 rfl (cl kI_0_127 rfl) rfl (by decide) rfl (fun q212 => ?_)
    exact A_ireti rfl d_15_215
  refine A_if (fun e45_8 => ?_) (fun e45_8 => ?_)
  · refine A_tab (t := 216) d_15_45 (by rw [e45_8]; decide) ?_
    refine A_aload_n d_15_216 rfl ?_
    refine A_iload_n d_15_217 rfl ?_
    refine A_bipush d_15_218 (by decide) ?_
    refine A_iload d_15_220 rfl ?_
    refine A_iadd d_15_222 ?_
    refine A_callU (t := 8) (way := 0) rfl d_15_223 rfl (cl kI_0_114 rfl) rfl rfl rfl (fun h223 => ?_)
    refine A_iconst d_15_226 (by decide) ?_
    exact A_ireti rfl d_15_227
  refine A_if (fun e45_9 => ?_) (fun e45_9 => ?_)
  · refine A_tab (t := 248) d_15_45 (by rw [e45_9]; decide) ?_
    refine A_aload_n d_15_248 rfl ?_
    refine A_iconst d_15_249 (by decide) ?_
    refine A_putfZ rfl d_15_250 kF_0_74 rfl (fun h250 => ?_)
    refine A_aload_n d_15_253 rfl ?_
    refine A_iload_n d_15_254 rfl ?_
    refine A_call (t := 16) (way := 0) rfl d_15_255 rfl (cl kI_0_104 rfl) rfl (by decide) rfl (fun q255 => ?_)
    exact A_ireti rfl d_15_258
  refine A_if (fun e45_10 => ?_) (fun e45_10 => ?_)
  · refine A_tab (t := 228) d_15_45 (by rw [e45_10]; decide) ?_
    refine A_aload_n d_15_228 rfl ?_
    refine A_iload_n d_15_229 rfl ?_
    refine A_call (t := 7) (way := 0) rfl d_15_230 rfl (cl kI_0_111 rfl) rfl (by decide) rfl (fun q230 => ?_)
    refine A_iconst d_15_233 (by decide) ?_
    refine A_ne (t := 246) d_15_234 (by decide) ?_ ?_
    · refine A_iconst d_15_246 (by decide) ?_
      exact A_ireti rfl d_15_247
    · refine A_aload_n d_15_237 rfl ?_
      refine A_iload d_15_238 rfl ?_
      refine A_call (t := 16) (way := 0) rfl d_15_240 rfl (cl kI_0_104 rfl) rfl (by decide) rfl (fun q240 => ?_)
      refine A_goto (t := 247) d_15_243 (by decide) ?_
      exact A_ireti rfl d_15_247
  refine A_if (fun e45_11 => ?_) (fun e45_11 => ?_)
  · refine A_tab (t := 259) d_15_45 (by rw [e45_11]; decide) ?_
    refine A_aload_n d_15_259 rfl ?_
    refine A_iconst d_15_260 (by decide) ?_
    refine A_putfZ rfl d_15_261 kF_0_74 rfl (fun h261 => ?_)
    refine A_aload_n d_15_264 rfl ?_
    refine A_iconst d_15_265 (by decide) ?_
    refine A_bipush d_15_266 (by decide) ?_
    refine A_iload d_15_268 rfl ?_
    refine A_iadd d_15_270 ?_
    refine A_callU (t := 8) (way := 0) rfl d_15_271 rfl (cl kI_0_114 rfl) rfl rfl rfl (fun h271 => ?_)
    refine A_aload_n d_15_274 rfl ?_
    refine A_iload_n d_15_275 rfl ?_
    refine A_call (t := 16) (way := 0) rfl d_15_276 rfl (cl kI_0_104 rfl) rfl (by decide) rfl (fun q276 => ?_)
    exact A_ireti rfl d_15_279
  refine A_if (fun e45_12 => ?_) (fun e45_12 => ?_)
  · refine A_tab (t := 280) d_15_45 (by rw [e45_12]; decide) ?_
    refine A_aload_n d_15_280 rfl ?_
    refine A_iconst d_15_281 (by decide) ?_
    refine A_putfZ rfl d_15_282 kF_0_74 rfl (fun h282 => ?_)
    refine A_aload_n d_15_285 rfl ?_
    refine A_iload_n d_15_286 rfl ?_
    refine A_call (t := 7) (way := 0) rfl d_15_287 rfl (cl kI_0_111 rfl) rfl (by decide) rfl (fun q287 => ?_)
    refine A_call (t := 6) (way := 2) rfl d_15_290 rfl (cl kI_0_60 rfl) rfl (by decide) rfl (fun q290 => ?_)
    refine A_eq0 (t := 311) d_15_293 (by decide) ?_ ?_
    · refine A_bipush d_15_311 (by decide) ?_
      exact A_ireti rfl d_15_313
    · refine A_aload_n d_15_296 rfl ?_
      refine A_aload_n d_15_297 rfl ?_
      refine A_iload_n d_15_298 rfl ?_
      refine A_call (t := 7) (way := 0) rfl d_15_299 rfl (cl kI_0_111 rfl) rfl (by decide) rfl (fun q299 => ?_)
      refine A_bipush d_15_302 (by decide) ?_
      refine A_isub d_15_304 ?_
      refine A_call (t := 16) (way := 0) rfl d_15_305 rfl (cl kI_0_104 rfl) rfl (by decide) rfl (fun q305 => ?_)
      refine A_goto (t := 313) d_15_308 (by decide) ?_
      exact A_ireti rfl d_15_313
  refine A_tab (t := 314) d_15_45 (by rw [if_pos (by omega)]; decide) ?_
  refine A_aload_n d_15_314 rfl ?_
  refine A_iconst d_15_315 (by decide) ?_
  refine A_putfZ rfl d_15_316 kF_0_74 rfl (fun h316 => ?_)
  refine A_aload_n d_15_319 rfl ?_
  refine A_iconst d_15_320 (by decide) ?_
  refine A_call (t := 7) (way := 0) rfl d_15_321 rfl (cl kI_0_111 rfl) rfl (by decide) rfl (fun q321 => ?_)
  refine A_iconst d_15_324 (by decide) ?_
  refine A_ne (t := 332) d_15_325 (by decide) ?_ ?_
  · refine A_iconst d_15_332 (by decide) ?_
    exact A_ireti rfl d_15_333
  · refine A_iconst d_15_328 (by decide) ?_
    refine A_goto (t := 333) d_15_329 (by decide) ?_
    exact A_ireti rfl d_15_333
set_option maxRecDepth 20000 in
theorem q_Ck_jump_2 (a0 : Nat) (x1 : Int) (x2 : Int) (h : mH) : B_Ck_jump_2 a0 x1 x2 h =
  if 4 ≤ x2 then
    ((gfd 0 0 h a0).bind fun v39 =>
    (F_Pg_wantedHeight v39.toNat x1 h).bind fun q43 =>
    (gfd 0 7 q43.2 a0).bind fun v48 =>
    (gfd 0 5 q43.2 a0).bind fun v52 =>
    (gfd 0 0 q43.2 a0).bind fun v57 =>
    (F_Pg_openBelow v57.toNat x1 q43.2).bind fun q61 =>
    (F_Ck_heightSuffices v48 v52 q43.1 q61.1 q61.2).bind fun q64 =>
    if q64.1 ≠ 0 then
      (B_Ck_jump_75 a0 x1 q43.1 0 q64.2)
    else
      (some (7, q64.2)))
  else
    ((gfd 0 1 h a0).bind fun v9 =>
    (ald 10 h v9.toNat x2).bind fun v13 =>
    (gfd 0 0 h a0).bind fun v15 =>
    (F_Pg_wanted v15.toNat x1 x2 h).bind fun q20 =>
    (F_Ck_isEnough a0 v13 q20.1 q20.2).bind fun q23 =>
    if q23.1 ≠ 0 then
      (B_Ck_jump_2 a0 x1 (w32 (x2 + 1)) q23.2)
    else
      (some (6, q23.2))) := by
  unfold B_Ck_jump_2
  refine A_iload_n d_16_2 rfl ?_
  refine A_iconst d_16_3 (by decide) ?_
  refine A_ge (t := 38) d_16_4 (by decide) ?_ ?_
  · refine A_aload_n d_16_38 rfl ?_
    refine A_getfA rfl d_16_39 kF_0_12 (fun v39 => ?_)
    refine A_iload_n d_16_42 rfl ?_
    refine A_call (t := 68) (way := 0) rfl d_16_43 rfl (cl kI_0_40 rfl) rfl (by decide) rfl (fun q43 => ?_)
    refine A_istore_n d_16_46 rfl ?_
    refine A_aload_n d_16_47 rfl ?_
    refine A_getfI rfl d_16_48 kF_0_64 (by decide) (fun v48 => ?_)
    refine A_aload_n d_16_51 rfl ?_
    refine A_getfI rfl d_16_52 kF_0_71 (by decide) (fun v52 => ?_)
    refine A_iload_n d_16_55 rfl ?_
    refine A_aload_n d_16_56 rfl ?_
    refine A_getfA rfl d_16_57 kF_0_12 (fun v57 => ?_)
    refine A_iload_n d_16_60 rfl ?_
    refine A_call (t := 71) (way := 0) rfl d_16_61 rfl (cl kI_0_43 rfl) rfl (by decide) rfl (fun q61 => ?_)
    refine A_call (t := 4) (way := 2) rfl d_16_64 rfl (cl kI_0_46 rfl) rfl (by decide) rfl (fun q64 => ?_)
    refine A_ne0 (t := 73) d_16_67 (by decide) ?_ ?_
    · refine A_iconst d_16_73 (by decide) ?_
      refine A_istore_n d_16_74 rfl ?_
      exact rfl
    · refine A_bipush d_16_70 (by decide) ?_
      exact A_ireti rfl d_16_72
  · refine A_aload_n d_16_7 rfl ?_
    refine A_aload_n d_16_8 rfl ?_
    refine A_getfA rfl d_16_9 kF_0_18 (fun v9 => ?_)
    refine A_iload_n d_16_12 rfl ?_
    refine A_iald rfl d_16_13 (fun v13 => ?_)
    refine A_aload_n d_16_14 rfl ?_
    refine A_getfA rfl d_16_15 kF_0_12 (fun v15 => ?_)
    refine A_iload_n d_16_18 rfl ?_
    refine A_iload_n d_16_19 rfl ?_
    refine A_call (t := 66) (way := 0) rfl d_16_20 rfl (cl kI_0_50 rfl) rfl (by decide) rfl (fun q20 => ?_)
    refine A_call (t := 5) (way := 0) rfl d_16_23 rfl (cl kI_0_130 rfl) rfl (by decide) rfl (fun q23 => ?_)
    refine A_ne0 (t := 32) d_16_26 (by decide) ?_ ?_
    · refine A_iinc d_16_32 (by decide) rfl rfl ?_
      refine A_goto (t := 2) d_16_35 (by decide) ?_
      exact rfl
    · refine A_bipush d_16_29 (by decide) ?_
      exact A_ireti rfl d_16_31
set_option maxRecDepth 20000 in
theorem q_Ck_jump_75 (a0 : Nat) (x1 : Int) (x2 : Int) (x3 : Int) (h : mH) : B_Ck_jump_75 a0 x1 x2 x3 h =
  if x2 ≤ x3 then
    (some (0, h))
  else
    ((F_Ck_fromTop a0 x3 h).bind fun q83 =>
    (gfd 0 0 q83.2 a0).bind fun v87 =>
    (F_Pg_wantedFromTop v87.toNat x1 x3 q83.2).bind fun q92 =>
    (F_Ck_isEnough a0 q83.1 q92.1 q92.2).bind fun q95 =>
    if q95.1 ≠ 0 then
      (B_Ck_jump_75 a0 x1 x2 (w32 (x3 + 1)) q95.2)
    else
      (some (7, q95.2))) := by
  unfold B_Ck_jump_75
  refine A_iload_n d_16_75 rfl ?_
  refine A_iload_n d_16_76 rfl ?_
  refine A_ge (t := 110) d_16_77 (by decide) ?_ ?_
  · refine A_iconst d_16_110 (by decide) ?_
    exact A_ireti rfl d_16_111
  · refine A_aload_n d_16_80 rfl ?_
    refine A_aload_n d_16_81 rfl ?_
    refine A_iload_n d_16_82 rfl ?_
    refine A_call (t := 9) (way := 0) rfl d_16_83 rfl (cl kI_0_133 rfl) rfl (by decide) rfl (fun q83 => ?_)
    refine A_aload_n d_16_86 rfl ?_
    refine A_getfA rfl d_16_87 kF_0_12 (fun v87 => ?_)
    refine A_iload_n d_16_90 rfl ?_
    refine A_iload_n d_16_91 rfl ?_
    refine A_call (t := 69) (way := 0) rfl d_16_92 rfl (cl kI_0_57 rfl) rfl (by decide) rfl (fun q92 => ?_)
    refine A_call (t := 5) (way := 0) rfl d_16_95 rfl (cl kI_0_130 rfl) rfl (by decide) rfl (fun q95 => ?_)
    refine A_ne0 (t := 104) d_16_98 (by decide) ?_ ?_
    · refine A_iinc d_16_104 (by decide) rfl rfl ?_
      refine A_goto (t := 75) d_16_107 (by decide) ?_
      exact rfl
    · refine A_bipush d_16_101 (by decide) ?_
      exact A_ireti rfl d_16_103
set_option maxRecDepth 20000 in
theorem q_Ck_jump (a0 : Nat) (x1 : Int) (h : mH) (ho : isO h a0 0 = true) : F_Ck_jump a0 x1 h =
  B_Ck_jump_2 a0 x1 0 h := by
  refine (congrArg asI (if_pos ho)).trans ?_
  show asI (Lim 16 0 [some (.inr (.inr a0)), some (.inl x1), none, none] [] h) = _
  refine A_iconst d_16_0 (by decide) ?_
  refine A_istore_n d_16_1 rfl ?_
  exact rfl
set_option maxRecDepth 20000 in
theorem q_Ck_setField (a0 : Nat) (x1 : Int) (x2 : Int) (x3 : Int) (h : mH) (ho : isO h a0 0 = true) : F_Ck_setField a0 x1 x2 x3 h =
  (F_Ck_register a0 x1 h).bind fun q2 =>
  (F_Ck_isTuple q2.1 q2.2).bind fun q9 =>
  if q9.1 ≠ 0 then
    ((F_Ck_sortOf q2.1 q9.2).bind fun q19 =>
    (gfd 0 0 q19.2 a0).bind fun v26 =>
    (F_Pg_fields v26.toNat q19.1 q19.2).bind fun q31 =>
    if x2 < q31.1 then
      ((F_Ck_register a0 x3 q31.2).bind fun q42 =>
      (gfd 0 0 q42.2 a0).bind fun v46 =>
      (F_Pg_fieldType v46.toNat q19.1 x2 q42.2).bind fun q52 =>
      (F_Ck_isEnough a0 q42.1 q52.1 q52.2).bind fun q55 =>
      if q55.1 ≠ 0 then
        ((F_Ck_fieldsSet a0 q2.1 q55.2).bind fun q71 =>
        (F_Ck_tuple a0 q19.1 (ior q71.1 (ishl 1 x2)) q71.2).bind fun q78 =>
        (F_Ck_setRegister a0 x1 q78.1 q78.2).bind fun h81 =>
        some (0, h81))
      else
        (some (4, q55.2)))
    else
      (some (3, q31.2)))
  else
    (some (2, q9.2)) := by
  refine (congrArg asI (if_pos ho)).trans ?_
  show asI (Lim 17 0 [some (.inr (.inr a0)), some (.inl x1), some (.inl x2), some (.inl x3), none, none] [] h) = _
  refine A_aload_n d_17_0 rfl ?_
  refine A_iload_n d_17_1 rfl ?_
  refine A_call (t := 7) (way := 0) rfl d_17_2 rfl (cl kI_0_111 rfl) rfl (by decide) rfl (fun q2 => ?_)
  refine A_istore d_17_5 rfl ?_
  refine A_iload d_17_7 rfl ?_
  refine A_call (t := 21) (way := 2) rfl d_17_9 rfl (cl kI_0_136 rfl) rfl (by decide) rfl (fun q9 => ?_)
  refine A_ne0 (t := 17) d_17_12 (by decide) ?_ ?_
  · refine A_iload d_17_17 rfl ?_
    refine A_call (t := 22) (way := 2) rfl d_17_19 rfl (cl kI_0_139 rfl) rfl (by decide) rfl (fun q19 => ?_)
    refine A_istore d_17_22 rfl ?_
    refine A_iload_n d_17_24 rfl ?_
    refine A_aload_n d_17_25 rfl ?_
    refine A_getfA rfl d_17_26 kF_0_12 (fun v26 => ?_)
    refine A_iload d_17_29 rfl ?_
    refine A_call (t := 59) (way := 0) rfl d_17_31 rfl (cl kI_0_36 rfl) rfl (by decide) rfl (fun q31 => ?_)
    refine A_lt (t := 39) d_17_34 (by decide) ?_ ?_
    · refine A_aload_n d_17_39 rfl ?_
      refine A_aload_n d_17_40 rfl ?_
      refine A_iload_n d_17_41 rfl ?_
      refine A_call (t := 7) (way := 0) rfl d_17_42 rfl (cl kI_0_111 rfl) rfl (by decide) rfl (fun q42 => ?_)
      refine A_aload_n d_17_45 rfl ?_
      refine A_getfA rfl d_17_46 kF_0_12 (fun v46 => ?_)
      refine A_iload d_17_49 rfl ?_
      refine A_iload_n d_17_51 rfl ?_
      refine A_call (t := 60) (way := 0) rfl d_17_52 rfl (cl kI_0_142 rfl) rfl (by decide) rfl (fun q52 => ?_)
      refine A_call (t := 5) (way := 0) rfl d_17_55 rfl (cl kI_0_130 rfl) rfl (by decide) rfl (fun q55 => ?_)
      refine A_ne0 (t := 63) d_17_58 (by decide) ?_ ?_
      · refine A_aload_n d_17_63 rfl ?_
        refine A_iload_n d_17_64 rfl ?_
        refine A_aload_n d_17_65 rfl ?_
        refine A_iload d_17_66 rfl ?_
        refine A_aload_n d_17_68 rfl ?_
        refine A_iload d_17_69 rfl ?_
        refine A_call (t := 24) (way := 0) rfl d_17_71 rfl (cl kI_0_145 rfl) rfl (by decide) rfl (fun q71 => ?_)
        refine A_iconst d_17_74 (by decide) ?_
        refine A_iload_n d_17_75 rfl ?_
        refine A_ishl d_17_76 ?_
        refine A_ior d_17_77 ?_
        refine A_call (t := 25) (way := 0) rfl d_17_78 rfl (cl kI_0_118 rfl) rfl (by decide) rfl (fun q78 => ?_)
        refine A_callU (t := 8) (way := 0) rfl d_17_81 rfl (cl kI_0_114 rfl) rfl rfl rfl (fun h81 => ?_)
        refine A_iconst d_17_84 (by decide) ?_
        exact A_ireti rfl d_17_85
      · refine A_iconst d_17_61 (by decide) ?_
        exact A_ireti rfl d_17_62
    · refine A_iconst d_17_37 (by decide) ?_
      exact A_ireti rfl d_17_38
  · refine A_iconst d_17_15 (by decide) ?_
    exact A_ireti rfl d_17_16
set_option maxRecDepth 20000 in
theorem q_Ck_getField (a0 : Nat) (x1 : Int) (x2 : Int) (x3 : Int) (h : mH) (ho : isO h a0 0 = true) : F_Ck_getField a0 x1 x2 x3 h =
  (F_Ck_register a0 x2 h).bind fun q2 =>
  (F_Ck_isTuple q2.1 q2.2).bind fun q9 =>
  if q9.1 ≠ 0 then
    ((F_Ck_sortOf q2.1 q9.2).bind fun q19 =>
    (gfd 0 0 q19.2 a0).bind fun v26 =>
    (F_Pg_fields v26.toNat q19.1 q19.2).bind fun q31 =>
    if q31.1 ≤ x3 then
      (some (3, q31.2))
    else
      ((F_Ck_fieldsSet a0 q2.1 q31.2).bind fun q40 =>
      if iand (ishr q40.1 x3) 1 ≠ 0 then
        ((gfd 0 0 q40.2 a0).bind fun v55 =>
        (F_Pg_fieldType v55.toNat q19.1 x3 q40.2).bind fun q61 =>
        (F_Ck_setRegister a0 x1 q61.1 q61.2).bind fun h64 =>
        some (0, h64))
      else
        (some (3, q40.2))))
  else
    (some (2, q9.2)) := by
  refine (congrArg asI (if_pos ho)).trans ?_
  show asI (Lim 18 0 [some (.inr (.inr a0)), some (.inl x1), some (.inl x2), some (.inl x3), none, none] [] h) = _
  refine A_aload_n d_18_0 rfl ?_
  refine A_iload_n d_18_1 rfl ?_
  refine A_call (t := 7) (way := 0) rfl d_18_2 rfl (cl kI_0_111 rfl) rfl (by decide) rfl (fun q2 => ?_)
  refine A_istore d_18_5 rfl ?_
  refine A_iload d_18_7 rfl ?_
  refine A_call (t := 21) (way := 2) rfl d_18_9 rfl (cl kI_0_136 rfl) rfl (by decide) rfl (fun q9 => ?_)
  refine A_ne0 (t := 17) d_18_12 (by decide) ?_ ?_
  · refine A_iload d_18_17 rfl ?_
    refine A_call (t := 22) (way := 2) rfl d_18_19 rfl (cl kI_0_139 rfl) rfl (by decide) rfl (fun q19 => ?_)
    refine A_istore d_18_22 rfl ?_
    refine A_iload_n d_18_24 rfl ?_
    refine A_aload_n d_18_25 rfl ?_
    refine A_getfA rfl d_18_26 kF_0_12 (fun v26 => ?_)
    refine A_iload d_18_29 rfl ?_
    refine A_call (t := 59) (way := 0) rfl d_18_31 rfl (cl kI_0_36 rfl) rfl (by decide) rfl (fun q31 => ?_)
    refine A_ge (t := 50) d_18_34 (by decide) ?_ ?_
    · refine A_iconst d_18_50 (by decide) ?_
      exact A_ireti rfl d_18_51
    · refine A_aload_n d_18_37 rfl ?_
      refine A_iload d_18_38 rfl ?_
      refine A_call (t := 24) (way := 0) rfl d_18_40 rfl (cl kI_0_145 rfl) rfl (by decide) rfl (fun q40 => ?_)
      refine A_iload_n d_18_43 rfl ?_
      refine A_ishr d_18_44 ?_
      refine A_iconst d_18_45 (by decide) ?_
      refine A_iand d_18_46 ?_
      refine A_ne0 (t := 52) d_18_47 (by decide) ?_ ?_
      · refine A_aload_n d_18_52 rfl ?_
        refine A_iload_n d_18_53 rfl ?_
        refine A_aload_n d_18_54 rfl ?_
        refine A_getfA rfl d_18_55 kF_0_12 (fun v55 => ?_)
        refine A_iload d_18_58 rfl ?_
        refine A_iload_n d_18_60 rfl ?_
        refine A_call (t := 60) (way := 0) rfl d_18_61 rfl (cl kI_0_142 rfl) rfl (by decide) rfl (fun q61 => ?_)
        refine A_callU (t := 8) (way := 0) rfl d_18_64 rfl (cl kI_0_114 rfl) rfl rfl rfl (fun h64 => ?_)
        refine A_iconst d_18_67 (by decide) ?_
        exact A_ireti rfl d_18_68
      · refine A_iconst d_18_50 (by decide) ?_
        exact A_ireti rfl d_18_51
  · refine A_iconst d_18_15 (by decide) ?_
    exact A_ireti rfl d_18_16
set_option maxRecDepth 20000 in
theorem q_Ck_push (a0 : Nat) (x1 : Int) (h : mH) (ho : isO h a0 0 = true) : F_Ck_push a0 x1 h =
  (gfd 0 7 h a0).bind fun v1 =>
  if v1 < 0 then
    (some (0, h))
  else
    ((gfd 0 7 h a0).bind fun v8 =>
    if v8 < 6 then
      ((gfd 0 2 h a0).bind fun v19 =>
      (gfd 0 7 h a0).bind fun v23 =>
      (ast h v19.toNat v23 x1).bind fun h27 =>
      (gfd 0 7 h27 a0).bind fun v30 =>
      (pfd 0 7 h27 a0 (w32 (v30 + 1))).bind fun h35 =>
      some (1, h35))
    else
      (some (0, h))) := by
  refine (congrArg asI (if_pos ho)).trans ?_
  show asI (Lim 19 0 [some (.inr (.inr a0)), some (.inl x1)] [] h) = _
  refine A_aload_n d_19_0 rfl ?_
  refine A_getfI rfl d_19_1 kF_0_64 (by decide) (fun v1 => ?_)
  refine A_lt0 (t := 16) d_19_4 (by decide) ?_ ?_
  · refine A_iconst d_19_16 (by decide) ?_
    exact A_iretz rfl d_19_17 (by decide)
  · refine A_aload_n d_19_7 rfl ?_
    refine A_getfI rfl d_19_8 kF_0_64 (by decide) (fun v8 => ?_)
    refine A_bipush d_19_11 (by decide) ?_
    refine A_lt (t := 18) d_19_13 (by decide) ?_ ?_
    · refine A_aload_n d_19_18 rfl ?_
      refine A_getfA rfl d_19_19 kF_0_22 (fun v19 => ?_)
      refine A_aload_n d_19_22 rfl ?_
      refine A_getfI rfl d_19_23 kF_0_64 (by decide) (fun v23 => ?_)
      refine A_iload_n d_19_26 rfl ?_
      refine A_iast rfl d_19_27 (fun h27 => ?_)
      refine A_aload_n d_19_28 rfl ?_
      refine A_dup d_19_29 rfl ?_
      refine A_getfI rfl d_19_30 kF_0_64 (by decide) (fun v30 => ?_)
      refine A_iconst d_19_33 (by decide) ?_
      refine A_iadd d_19_34 ?_
      refine A_putfI rfl d_19_35 kF_0_64 rfl (fun h35 => ?_)
      refine A_iconst d_19_38 (by decide) ?_
      exact A_iretz rfl d_19_39 (by decide)
    · refine A_iconst d_19_16 (by decide) ?_
      exact A_iretz rfl d_19_17 (by decide)
set_option maxRecDepth 20000 in
theorem q_Ck_pop (a0 : Nat) (x1 : Int) (h : mH) (ho : isO h a0 0 = true) : F_Ck_pop a0 x1 h =
  (gfd 0 7 h a0).bind fun v1 =>
  if 0 < v1 then
    ((F_Ck_fromTop a0 0 h).bind fun q13 =>
    (F_Ck_setRegister a0 x1 q13.1 q13.2).bind fun h16 =>
    (gfd 0 7 h16 a0).bind fun v21 =>
    (pfd 0 7 h16 a0 (w32 (v21 - 1))).bind fun h26 =>
    some (0, h26))
  else
    (some (5, h)) := by
  refine (congrArg asI (if_pos ho)).trans ?_
  show asI (Lim 20 0 [some (.inr (.inr a0)), some (.inl x1)] [] h) = _
  refine A_aload_n d_20_0 rfl ?_
  refine A_getfI rfl d_20_1 kF_0_64 (by decide) (fun v1 => ?_)
  refine A_gt0 (t := 9) d_20_4 (by decide) ?_ ?_
  · refine A_aload_n d_20_9 rfl ?_
    refine A_iload_n d_20_10 rfl ?_
    refine A_aload_n d_20_11 rfl ?_
    refine A_iconst d_20_12 (by decide) ?_
    refine A_call (t := 9) (way := 0) rfl d_20_13 rfl (cl kI_0_133 rfl) rfl (by decide) rfl (fun q13 => ?_)
    refine A_callU (t := 8) (way := 0) rfl d_20_16 rfl (cl kI_0_114 rfl) rfl rfl rfl (fun h16 => ?_)
    refine A_aload_n d_20_19 rfl ?_
    refine A_dup d_20_20 rfl ?_
    refine A_getfI rfl d_20_21 kF_0_64 (by decide) (fun v21 => ?_)
    refine A_iconst d_20_24 (by decide) ?_
    refine A_isub d_20_25 ?_
    refine A_putfI rfl d_20_26 kF_0_64 rfl (fun h26 => ?_)
    refine A_iconst d_20_29 (by decide) ?_
    exact A_ireti rfl d_20_30
  · refine A_iconst d_20_7 (by decide) ?_
    exact A_ireti rfl d_20_8
set_option maxRecDepth 20000 in
theorem q_Ck_isTuple_11 (x0 : Int) (h : mH) : B_Ck_isTuple_11 x0 h =
  if x0 < 10 then
    (some (0, h))
  else
    (B_Ck_isTuple_17 x0 h) := by
  unfold B_Ck_isTuple_11
  refine A_iload_n d_21_11 rfl ?_
  refine A_bipush d_21_12 (by decide) ?_
  refine A_lt (t := 21) d_21_14 (by decide) ?_ ?_
  · refine A_iconst d_21_21 (by decide) ?_
    exact A_iretz rfl d_21_22 (by decide)
  · exact rfl
set_option maxRecDepth 20000 in
theorem q_Ck_isTuple_17 (x0 : Int) (h : mH) : B_Ck_isTuple_17 x0 h =
  some (1, h) := by
  unfold B_Ck_isTuple_17
  refine A_iconst d_21_17 (by decide) ?_
  refine A_goto (t := 22) d_21_18 (by decide) ?_
  exact A_iretz rfl d_21_22 (by decide)
set_option maxRecDepth 20000 in
theorem q_Ck_isTuple (x0 : Int) (h : mH) : F_Ck_isTuple x0 h =
  if x0 < 2 then
    (B_Ck_isTuple_11 x0 h)
  else
    (if x0 < 6 then
      (B_Ck_isTuple_17 x0 h)
    else
      (B_Ck_isTuple_11 x0 h)) := by
  refine (congrArg asI (if_pos rfl)).trans ?_
  show asI (Lim 21 0 [some (.inl x0)] [] h) = _
  refine A_iload_n d_21_0 rfl ?_
  refine A_iconst d_21_1 (by decide) ?_
  refine A_lt (t := 11) d_21_2 (by decide) ?_ ?_
  · exact rfl
  · refine A_iload_n d_21_5 rfl ?_
    refine A_bipush d_21_6 (by decide) ?_
    refine A_lt (t := 17) d_21_8 (by decide) ?_ ?_
    · exact rfl
    · exact rfl
set_option maxRecDepth 20000 in
theorem q_Ck_sortOf (x0 : Int) (h : mH) : F_Ck_sortOf x0 h =
  if 10 ≤ x0 then
    (some (w32 (Int.tdiv (w32 (x0 - 10)) 8), h))
  else
    (some (w32 (x0 - 2), h)) := by
  refine (congrArg asI (if_pos rfl)).trans ?_
  show asI (Lim 22 0 [some (.inl x0)] [] h) = _
  refine A_iload_n d_22_0 rfl ?_
  refine A_bipush d_22_1 (by decide) ?_
  refine A_ge (t := 12) d_22_3 (by decide) ?_ ?_
  · refine A_iload_n d_22_12 rfl ?_
    refine A_bipush d_22_13 (by decide) ?_
    refine A_isub d_22_15 ?_
    refine A_bipush d_22_16 (by decide) ?_
    refine A_idiv d_22_18 (by decide) ?_
    exact A_ireti rfl d_22_19
  · refine A_iload_n d_22_6 rfl ?_
    refine A_iconst d_22_7 (by decide) ?_
    refine A_isub d_22_8 ?_
    refine A_goto (t := 19) d_22_9 (by decide) ?_
    exact A_ireti rfl d_22_19
set_option maxRecDepth 20000 in
theorem q_Ck_fieldsOf (a0 : Nat) (x1 : Int) (h : mH) (ho : isO h a0 0 = true) : F_Ck_fieldsOf a0 x1 h =
  if x1 < 0 then
    (some (0, h))
  else
    (if 4 ≤ x1 then
      (some (0, h))
    else
      ((gfd 0 3 h a0).bind fun v10 =>
      (ald 10 h v10.toNat x1).bind fun v14 =>
      some (v14, h))) := by
  refine (congrArg asI (if_pos ho)).trans ?_
  show asI (Lim 23 0 [some (.inr (.inr a0)), some (.inl x1)] [] h) = _
  refine A_iload_n d_23_0 rfl ?_
  refine A_lt0 (t := 18) d_23_1 (by decide) ?_ ?_
  · refine A_iconst d_23_18 (by decide) ?_
    exact A_ireti rfl d_23_19
  · refine A_iload_n d_23_4 rfl ?_
    refine A_iconst d_23_5 (by decide) ?_
    refine A_ge (t := 18) d_23_6 (by decide) ?_ ?_
    · refine A_iconst d_23_18 (by decide) ?_
      exact A_ireti rfl d_23_19
    · refine A_aload_n d_23_9 rfl ?_
      refine A_getfA rfl d_23_10 kF_0_25 (fun v10 => ?_)
      refine A_iload_n d_23_13 rfl ?_
      refine A_iald rfl d_23_14 (fun v14 => ?_)
      refine A_goto (t := 19) d_23_15 (by decide) ?_
      exact A_ireti rfl d_23_19
set_option maxRecDepth 20000 in
theorem q_Ck_fieldsSet (a0 : Nat) (x1 : Int) (h : mH) (ho : isO h a0 0 = true) : F_Ck_fieldsSet a0 x1 h =
  if 10 ≤ x1 then
    (some (Int.tmod (w32 (x1 - 10)) 8, h))
  else
    ((F_Ck_fieldsOf a0 (w32 (x1 - 2)) h).bind fun q10 =>
    some (q10.1, q10.2)) := by
  refine (congrArg asI (if_pos ho)).trans ?_
  show asI (Lim 24 0 [some (.inr (.inr a0)), some (.inl x1)] [] h) = _
  refine A_iload_n d_24_0 rfl ?_
  refine A_bipush d_24_1 (by decide) ?_
  refine A_ge (t := 16) d_24_3 (by decide) ?_ ?_
  · refine A_iload_n d_24_16 rfl ?_
    refine A_bipush d_24_17 (by decide) ?_
    refine A_isub d_24_19 ?_
    refine A_bipush d_24_20 (by decide) ?_
    refine A_irem d_24_22 (by decide) ?_
    exact A_ireti rfl d_24_23
  · refine A_aload_n d_24_6 rfl ?_
    refine A_iload_n d_24_7 rfl ?_
    refine A_iconst d_24_8 (by decide) ?_
    refine A_isub d_24_9 ?_
    refine A_call (t := 23) (way := 0) rfl d_24_10 rfl (cl kI_0_148 rfl) rfl (by decide) rfl (fun q10 => ?_)
    refine A_goto (t := 23) d_24_13 (by decide) ?_
    exact A_ireti rfl d_24_23
set_option maxRecDepth 20000 in
theorem q_Ck_tuple (a0 : Nat) (x1 : Int) (x2 : Int) (h : mH) (ho : isO h a0 0 = true) : F_Ck_tuple a0 x1 x2 h =
  (F_Ck_fieldsOf a0 x1 h).bind fun q3 =>
  if x2 ≠ q3.1 then
    (some (w32 ((w32 (10 + (w32 (x1 * 8)))) + x2), q3.2))
  else
    (some (w32 (2 + x1), q3.2)) := by
  refine (congrArg asI (if_pos ho)).trans ?_
  show asI (Lim 25 0 [some (.inr (.inr a0)), some (.inl x1), some (.inl x2)] [] h) = _
  refine A_iload_n d_25_0 rfl ?_
  refine A_aload_n d_25_1 rfl ?_
  refine A_iload_n d_25_2 rfl ?_
  refine A_call (t := 23) (way := 0) rfl d_25_3 rfl (cl kI_0_148 rfl) rfl (by decide) rfl (fun q3 => ?_)
  refine A_ne (t := 15) d_25_6 (by decide) ?_ ?_
  · refine A_bipush d_25_15 (by decide) ?_
    refine A_iload_n d_25_17 rfl ?_
    refine A_bipush d_25_18 (by decide) ?_
    refine A_imul d_25_20 ?_
    refine A_iadd d_25_21 ?_
    refine A_iload_n d_25_22 rfl ?_
    refine A_iadd d_25_23 ?_
    exact A_ireti rfl d_25_24
  · refine A_iconst d_25_9 (by decide) ?_
    refine A_iload_n d_25_10 rfl ?_
    refine A_iadd d_25_11 ?_
    refine A_goto (t := 24) d_25_12 (by decide) ?_
    exact A_ireti rfl d_25_24

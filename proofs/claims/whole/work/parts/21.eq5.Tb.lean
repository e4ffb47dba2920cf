/-! equations of Tb (by program) -/
set_option maxRecDepth 20000 in
theorem q_Tb_write (a0 : Nat) (x1 : Int) (h : mH) (ho : isO h a0 5 = true) : F_Tb_write a0 x1 h =
  if x1 < 32 then
    (some ((-1), h))
  else
    (if x1 ≤ 126 then
      ((gfd 5 0 h a0).bind fun v15 =>
      (F_Tx_append v15.toNat x1 h).bind fun q19 =>
      if q19.1 = 0 then
        (some ((-3), q19.2))
      else
        ((gfd 5 0 q19.2 a0).bind fun v26 =>
        (gfd 4 2 q19.2 v26.toNat).bind fun v29 =>
        some (v29, q19.2)))
    else
      (some ((-1), h))) := by
  refine (congrArg asI (if_pos ho)).trans ?_
  show asI (Lim 105 0 [some (.inr (.inr a0)), some (.inl x1)] [] h) = _
  refine A_iload_n d_105_0 rfl ?_
  refine A_bipush d_105_1 (by decide) ?_
  refine A_lt (t := 12) d_105_3 (by decide) ?_ ?_
  · refine A_iconst d_105_12 (by decide) ?_
    exact A_ireti rfl d_105_13
  · refine A_iload_n d_105_6 rfl ?_
    refine A_bipush d_105_7 (by decide) ?_
    refine A_le (t := 14) d_105_9 (by decide) ?_ ?_
    · refine A_aload_n d_105_14 rfl ?_
      refine A_getfA rfl d_105_15 kF_5_10 (fun v15 => ?_)
      refine A_iload_n d_105_18 rfl ?_
      refine A_call (t := 91) (way := 0) rfl d_105_19 rfl (cl kI_5_64 rfl) rfl (by decide) rfl (fun q19 => ?_)
      refine A_eq0 (t := 35) d_105_22 (by decide) ?_ ?_
      · refine A_bipush d_105_35 (by decide) ?_
        exact A_ireti rfl d_105_37
      · refine A_aload_n d_105_25 rfl ?_
        refine A_getfA rfl d_105_26 kF_5_10 (fun v26 => ?_)
        refine A_getfI rfl d_105_29 kF_5_82 (by decide) (fun v29 => ?_)
        refine A_goto (t := 37) d_105_32 (by decide) ?_
        exact A_ireti rfl d_105_37
    · refine A_iconst d_105_12 (by decide) ?_
      exact A_ireti rfl d_105_13
set_option maxRecDepth 20000 in
theorem q_Tb_wipe (a0 : Nat) (h : mH) (ho : isO h a0 5 = true) : F_Tb_wipe a0 h =
  (gfd 5 0 h a0).bind fun v1 =>
  (gfd 4 2 h v1.toNat).bind fun v4 =>
  (gfd 5 0 h a0).bind fun v9 =>
  (pfd 4 2 h v9.toNat 0).bind fun h13 =>
  some (v4, h13) := by
  refine (congrArg asI (if_pos ho)).trans ?_
  show asI (Lim 106 0 [some (.inr (.inr a0)), none] [] h) = _
  refine A_aload_n d_106_0 rfl ?_
  refine A_getfA rfl d_106_1 kF_5_10 (fun v1 => ?_)
  refine A_getfI rfl d_106_4 kF_5_82 (by decide) (fun v4 => ?_)
  refine A_istore_n d_106_7 rfl ?_
  refine A_aload_n d_106_8 rfl ?_
  refine A_getfA rfl d_106_9 kF_5_10 (fun v9 => ?_)
  refine A_iconst d_106_12 (by decide) ?_
  refine A_putfI rfl d_106_13 kF_5_82 rfl (fun h13 => ?_)
  refine A_iload_n d_106_16 rfl ?_
  exact A_ireti rfl d_106_17
set_option maxRecDepth 20000 in
theorem q_Tb_fault (a0 : Nat) (h : mH) (ho : isO h a0 5 = true) : F_Tb_fault a0 h =
  (gfd 5 0 h a0).bind fun v1 =>
  (F_Tx_readAll v1.toNat h).bind fun q4 =>
  some (q4.1, q4.2) := by
  refine (congrArg asI (if_pos ho)).trans ?_
  show asI (Lim 107 0 [some (.inr (.inr a0))] [] h) = _
  refine A_aload_n d_107_0 rfl ?_
  refine A_getfA rfl d_107_1 kF_5_10 (fun v1 => ?_)
  refine A_call (t := 92) (way := 0) rfl d_107_4 rfl (cl kI_5_68 rfl) rfl (by decide) rfl (fun q4 => ?_)
  exact A_ireti rfl d_107_7
set_option maxRecDepth 20000 in
theorem q_Tb_lay (a0 : Nat) (h : mH) (ho : isO h a0 5 = true) : F_Tb_lay a0 h =
  (gfd 5 0 h a0).bind fun v1 =>
  (F_Tx_readAll v1.toNat h).bind fun q4 =>
  if q4.1 ≠ (-4) then
    (some ((-2), q4.2))
  else
    ((gfd 5 0 q4.2 a0).bind fun v13 =>
    (F_Tx_isClosed v13.toNat q4.2).bind fun q16 =>
    if q16.1 ≠ 0 then
      ((gfd 5 1 q16.2 a0).bind fun v26 =>
      (gfd 5 0 q16.2 a0).bind fun v30 =>
      (gfd 4 0 q16.2 v30.toNat).bind fun v33 =>
      (gfd 2 0 q16.2 v33.toNat).bind fun v36 =>
      (F_Pg_copyFrom v26.toNat v36.toNat q16.2).bind fun h39 =>
      (gfd 5 5 h39 a0).bind fun v43 =>
      (F_Sh_clear v43.toNat h39).bind fun h46 =>
      (gfd 5 6 h46 a0).bind fun v50 =>
      (F_Sh_clear v50.toNat h46).bind fun h53 =>
      (gfd 5 1 h53 a0).bind fun v57 =>
      (F_Pg_labels v57.toNat h53).bind fun q60 =>
      some (q60.1, q60.2))
    else
      (some ((-2), q16.2))) := by
  refine (congrArg asI (if_pos ho)).trans ?_
  show asI (Lim 108 0 [some (.inr (.inr a0))] [] h) = _
  refine A_aload_n d_108_0 rfl ?_
  refine A_getfA rfl d_108_1 kF_5_10 (fun v1 => ?_)
  refine A_call (t := 92) (way := 0) rfl d_108_4 rfl (cl kI_5_68 rfl) rfl (by decide) rfl (fun q4 => ?_)
  refine A_bipush d_108_7 (by decide) ?_
  refine A_ne (t := 22) d_108_9 (by decide) ?_ ?_
  · refine A_bipush d_108_22 (by decide) ?_
    exact A_ireti rfl d_108_24
  · refine A_aload_n d_108_12 rfl ?_
    refine A_getfA rfl d_108_13 kF_5_10 (fun v13 => ?_)
    refine A_call (t := 93) (way := 0) rfl d_108_16 rfl (cl kI_5_85 rfl) rfl (by decide) rfl (fun q16 => ?_)
    refine A_ne0 (t := 25) d_108_19 (by decide) ?_ ?_
    · refine A_aload_n d_108_25 rfl ?_
      refine A_getfA rfl d_108_26 kF_5_19 (fun v26 => ?_)
      refine A_aload_n d_108_29 rfl ?_
      refine A_getfA rfl d_108_30 kF_5_10 (fun v30 => ?_)
      refine A_getfA rfl d_108_33 kF_5_71 (fun v33 => ?_)
      refine A_getfA rfl d_108_36 kF_5_74 (fun v36 => ?_)
      refine A_callU (t := 50) (way := 0) rfl d_108_39 rfl (cl kI_5_78 rfl) rfl rfl rfl (fun h39 => ?_)
      refine A_aload_n d_108_42 rfl ?_
      refine A_getfA rfl d_108_43 kF_5_45 (fun v43 => ?_)
      refine A_callU (t := 87) (way := 0) rfl d_108_46 rfl (cl kI_5_89 rfl) rfl rfl rfl (fun h46 => ?_)
      refine A_aload_n d_108_49 rfl ?_
      refine A_getfA rfl d_108_50 kF_5_49 (fun v50 => ?_)
      refine A_callU (t := 87) (way := 0) rfl d_108_53 rfl (cl kI_5_89 rfl) rfl rfl rfl (fun h53 => ?_)
      refine A_aload_n d_108_56 rfl ?_
      refine A_getfA rfl d_108_57 kF_5_19 (fun v57 => ?_)
      refine A_call (t := 53) (way := 0) rfl d_108_60 rfl (cl kI_5_92 rfl) rfl (by decide) rfl (fun q60 => ?_)
      exact A_ireti rfl d_108_63
    · refine A_bipush d_108_22 (by decide) ?_
      exact A_ireti rfl d_108_24
set_option maxRecDepth 20000 in
theorem q_Tb_sort (a0 : Nat) (x1 : Int) (x2 : Int) (h : mH) (ho : isO h a0 5 = true) : F_Tb_sort a0 x1 x2 h =
  (gfd 5 1 h a0).bind fun v1 =>
  (F_Pg_hasSort v1.toNat x1 h).bind fun q5 =>
  if q5.1 = 0 then
    (some ((-1), q5.2))
  else
    (if x2 < (-1) then
      (some ((-1), q5.2))
    else
      ((gfd 5 1 q5.2 a0).bind fun v18 =>
      (F_Pg_fields v18.toNat x1 q5.2).bind fun q22 =>
      if x2 < q22.1 then
        (if x2 ≠ (-1) then
          ((gfd 5 1 q22.2 a0).bind fun v47 =>
          (F_Pg_fieldType v47.toNat x1 x2 q22.2).bind fun q52 =>
          some (q52.1, q52.2))
        else
          ((gfd 5 1 q22.2 a0).bind fun v36 =>
          (F_Pg_fields v36.toNat x1 q22.2).bind fun q40 =>
          some (q40.1, q40.2)))
      else
        (some ((-1), q22.2)))) := by
  refine (congrArg asI (if_pos ho)).trans ?_
  show asI (Lim 109 0 [some (.inr (.inr a0)), some (.inl x1), some (.inl x2)] [] h) = _
  refine A_aload_n d_109_0 rfl ?_
  refine A_getfA rfl d_109_1 kF_5_19 (fun v1 => ?_)
  refine A_iload_n d_109_4 rfl ?_
  refine A_call (t := 55) (way := 0) rfl d_109_5 rfl (cl kI_5_95 rfl) rfl (by decide) rfl (fun q5 => ?_)
  refine A_eq0 (t := 28) d_109_8 (by decide) ?_ ?_
  · refine A_iconst d_109_28 (by decide) ?_
    exact A_ireti rfl d_109_29
  · refine A_iload_n d_109_11 rfl ?_
    refine A_iconst d_109_12 (by decide) ?_
    refine A_lt (t := 28) d_109_13 (by decide) ?_ ?_
    · refine A_iconst d_109_28 (by decide) ?_
      exact A_ireti rfl d_109_29
    · refine A_iload_n d_109_16 rfl ?_
      refine A_aload_n d_109_17 rfl ?_
      refine A_getfA rfl d_109_18 kF_5_19 (fun v18 => ?_)
      refine A_iload_n d_109_21 rfl ?_
      refine A_call (t := 59) (way := 0) rfl d_109_22 rfl (cl kI_5_98 rfl) rfl (by decide) rfl (fun q22 => ?_)
      refine A_lt (t := 30) d_109_25 (by decide) ?_ ?_
      · refine A_iload_n d_109_30 rfl ?_
        refine A_iconst d_109_31 (by decide) ?_
        refine A_ne (t := 46) d_109_32 (by decide) ?_ ?_
        · refine A_aload_n d_109_46 rfl ?_
          refine A_getfA rfl d_109_47 kF_5_19 (fun v47 => ?_)
          refine A_iload_n d_109_50 rfl ?_
          refine A_iload_n d_109_51 rfl ?_
          refine A_call (t := 60) (way := 0) rfl d_109_52 rfl (cl kI_5_102 rfl) rfl (by decide) rfl (fun q52 => ?_)
          exact A_ireti rfl d_109_55
        · refine A_aload_n d_109_35 rfl ?_
          refine A_getfA rfl d_109_36 kF_5_19 (fun v36 => ?_)
          refine A_iload_n d_109_39 rfl ?_
          refine A_call (t := 59) (way := 0) rfl d_109_40 rfl (cl kI_5_98 rfl) rfl (by decide) rfl (fun q40 => ?_)
          refine A_goto (t := 55) d_109_43 (by decide) ?_
          exact A_ireti rfl d_109_55
      · refine A_iconst d_109_28 (by decide) ?_
        exact A_ireti rfl d_109_29
set_option maxRecDepth 20000 in
theorem q_Tb_label_50 (a0 : Nat) (x1 : Int) (x2 : Int) (h : mH) : B_Tb_label_50 a0 x1 x2 h =
  (gfd 5 1 h a0).bind fun v51 =>
  (F_Pg_labelCell v51.toNat x1 x2 h).bind fun q56 =>
  some (q56.1, q56.2) := by
  unfold B_Tb_label_50
  refine A_aload_n d_110_50 rfl ?_
  refine A_getfA rfl d_110_51 kF_5_19 (fun v51 => ?_)
  refine A_iload_n d_110_54 rfl ?_
  refine A_iload_n d_110_55 rfl ?_
  refine A_call (t := 64) (way := 0) rfl d_110_56 rfl (cl kI_5_112 rfl) rfl (by decide) rfl (fun q56 => ?_)
  exact A_ireti rfl d_110_59
set_option maxRecDepth 20000 in
theorem q_Tb_label (a0 : Nat) (x1 : Int) (x2 : Int) (h : mH) (ho : isO h a0 5 = true) : F_Tb_label a0 x1 x2 h =
  (gfd 5 1 h a0).bind fun v1 =>
  (F_Pg_hasLabel v1.toNat x1 h).bind fun q5 =>
  if q5.1 = 0 then
    (some ((-1), q5.2))
  else
    (if x2 < 0 then
      (some ((-1), q5.2))
    else
      (if x2 ≤ 9 then
        (if x2 < 5 then
          (B_Tb_label_50 a0 x1 x2 q5.2)
        else
          (if 7 < x2 then
            (B_Tb_label_50 a0 x1 x2 q5.2)
          else
            ((gfd 5 1 q5.2 a0).bind fun v38 =>
            (F_Pg_wantedHeight v38.toNat x1 q5.2).bind fun q42 =>
            if w32 (x2 - 5) < q42.1 then
              (B_Tb_label_50 a0 x1 x2 q42.2)
            else
              (some ((-1), q42.2)))))
      else
        (some ((-1), q5.2)))) := by
  refine (congrArg asI (if_pos ho)).trans ?_
  show asI (Lim 110 0 [some (.inr (.inr a0)), some (.inl x1), some (.inl x2)] [] h) = _
  refine A_aload_n d_110_0 rfl ?_
  refine A_getfA rfl d_110_1 kF_5_19 (fun v1 => ?_)
  refine A_iload_n d_110_4 rfl ?_
  refine A_call (t := 56) (way := 0) rfl d_110_5 rfl (cl kI_5_106 rfl) rfl (by decide) rfl (fun q5 => ?_)
  refine A_eq0 (t := 21) d_110_8 (by decide) ?_ ?_
  · refine A_iconst d_110_21 (by decide) ?_
    exact A_ireti rfl d_110_22
  · refine A_iload_n d_110_11 rfl ?_
    refine A_lt0 (t := 21) d_110_12 (by decide) ?_ ?_
    · refine A_iconst d_110_21 (by decide) ?_
      exact A_ireti rfl d_110_22
    · refine A_iload_n d_110_15 rfl ?_
      refine A_bipush d_110_16 (by decide) ?_
      refine A_le (t := 23) d_110_18 (by decide) ?_ ?_
      · refine A_iload_n d_110_23 rfl ?_
        refine A_iconst d_110_24 (by decide) ?_
        refine A_lt (t := 50) d_110_25 (by decide) ?_ ?_
        · exact rfl
        · refine A_iload_n d_110_28 rfl ?_
          refine A_bipush d_110_29 (by decide) ?_
          refine A_gt (t := 50) d_110_31 (by decide) ?_ ?_
          · exact rfl
          · refine A_iload_n d_110_34 rfl ?_
            refine A_iconst d_110_35 (by decide) ?_
            refine A_isub d_110_36 ?_
            refine A_aload_n d_110_37 rfl ?_
            refine A_getfA rfl d_110_38 kF_5_19 (fun v38 => ?_)
            refine A_iload_n d_110_41 rfl ?_
            refine A_call (t := 68) (way := 0) rfl d_110_42 rfl (cl kI_5_109 rfl) rfl (by decide) rfl (fun q42 => ?_)
            refine A_lt (t := 50) d_110_45 (by decide) ?_ ?_
            · exact rfl
            · refine A_iconst d_110_48 (by decide) ?_
              exact A_ireti rfl d_110_49
      · refine A_iconst d_110_21 (by decide) ?_
        exact A_ireti rfl d_110_22
set_option maxRecDepth 20000 in
theorem q_Tb_code (a0 : Nat) (x1 : Int) (x2 : Int) (x3 : Int) (h : mH) (ho : isO h a0 5 = true) : F_Tb_code a0 x1 x2 x3 h =
  (gfd 5 1 h a0).bind fun v1 =>
  (F_Pg_hasInstruction v1.toNat x1 x2 h).bind fun q6 =>
  if q6.1 = 0 then
    (some ((-1), q6.2))
  else
    (if x3 < 0 then
      (some ((-1), q6.2))
    else
      (if x3 < 4 then
        ((gfd 5 1 q6.2 a0).bind fun v24 =>
        (F_Pg_part v24.toNat x1 x2 x3 q6.2).bind fun q30 =>
        some (q30.1, q30.2))
      else
        (some ((-1), q6.2)))) := by
  refine (congrArg asI (if_pos ho)).trans ?_
  show asI (Lim 111 0 [some (.inr (.inr a0)), some (.inl x1), some (.inl x2), some (.inl x3)] [] h) = _
  refine A_aload_n d_111_0 rfl ?_
  refine A_getfA rfl d_111_1 kF_5_19 (fun v1 => ?_)
  refine A_iload_n d_111_4 rfl ?_
  refine A_iload_n d_111_5 rfl ?_
  refine A_call (t := 57) (way := 0) rfl d_111_6 rfl (cl kI_5_115 rfl) rfl (by decide) rfl (fun q6 => ?_)
  refine A_eq0 (t := 21) d_111_9 (by decide) ?_ ?_
  · refine A_iconst d_111_21 (by decide) ?_
    exact A_ireti rfl d_111_22
  · refine A_iload_n d_111_12 rfl ?_
    refine A_lt0 (t := 21) d_111_13 (by decide) ?_ ?_
    · refine A_iconst d_111_21 (by decide) ?_
      exact A_ireti rfl d_111_22
    · refine A_iload_n d_111_16 rfl ?_
      refine A_iconst d_111_17 (by decide) ?_
      refine A_lt (t := 23) d_111_18 (by decide) ?_ ?_
      · refine A_aload_n d_111_23 rfl ?_
        refine A_getfA rfl d_111_24 kF_5_19 (fun v24 => ?_)
        refine A_iload_n d_111_27 rfl ?_
        refine A_iload_n d_111_28 rfl ?_
        refine A_iload_n d_111_29 rfl ?_
        refine A_call (t := 74) (way := 0) rfl d_111_30 rfl (cl kI_5_119 rfl) rfl (by decide) rfl (fun q30 => ?_)
        exact A_ireti rfl d_111_33
      · refine A_iconst d_111_21 (by decide) ?_
        exact A_ireti rfl d_111_22
set_option maxRecDepth 20000 in
theorem q_Tb_put_97 (a0 : Nat) (x1 : Int) (x2 : Int) (x3 : Int) (x4 : Int) (x5 : Int) (x6 : Int) (x7 : Int) (h : mH) : B_Tb_put_97 a0 x1 x2 x3 x4 x5 x6 x7 h =
  (gfd 5 5 h a0).bind fun v98 =>
  (gfd 5 1 h a0).bind fun v102 =>
  (gfd 2 0 h v102.toNat).bind fun v105 =>
  (F_Sh_hold v98.toNat v105.toNat h).bind fun h108 =>
  (gfd 5 1 h108 a0).bind fun v112 =>
  (F_Pg_setInstruction v112.toNat x1 x2 x3 x4 x5 x6 h108).bind fun h124 =>
  some (x7, h124) := by
  unfold B_Tb_put_97
  refine A_aload_n d_112_97 rfl ?_
  refine A_getfA rfl d_112_98 kF_5_45 (fun v98 => ?_)
  refine A_aload_n d_112_101 rfl ?_
  refine A_getfA rfl d_112_102 kF_5_19 (fun v102 => ?_)
  refine A_getfA rfl d_112_105 kF_5_74 (fun v105 => ?_)
  refine A_callU (t := 88) (way := 0) rfl d_112_108 rfl (cl kI_5_127 rfl) rfl rfl rfl (fun h108 => ?_)
  refine A_aload_n d_112_111 rfl ?_
  refine A_getfA rfl d_112_112 kF_5_19 (fun v112 => ?_)
  refine A_iload_n d_112_115 rfl ?_
  refine A_iload_n d_112_116 rfl ?_
  refine A_iload_n d_112_117 rfl ?_
  refine A_iload d_112_118 rfl ?_
  refine A_iload d_112_120 rfl ?_
  refine A_iload d_112_122 rfl ?_
  refine A_callU (t := 75) (way := 0) rfl d_112_124 rfl (cl kI_5_130 rfl) rfl rfl rfl (fun h124 => ?_)
  refine A_iload d_112_127 rfl ?_
  exact A_ireti rfl d_112_129
set_option maxRecDepth 20000 in
theorem q_Tb_put (a0 : Nat) (x1 : Int) (x2 : Int) (x3 : Int) (x4 : Int) (x5 : Int) (x6 : Int) (h : mH) (ho : isO h a0 5 = true) : F_Tb_put a0 x1 x2 x3 x4 x5 x6 h =
  (gfd 5 1 h a0).bind fun v1 =>
  (F_Pg_hasInstruction v1.toNat x1 x2 h).bind fun q6 =>
  if q6.1 = 0 then
    (some ((-1), q6.2))
  else
    ((gfd 5 1 q6.2 a0).bind fun v13 =>
    (F_Pg_allows v13.toNat x3 x4 x5 x6 q6.2).bind fun q23 =>
    if q23.1 ≠ 0 then
      ((gfd 5 1 q23.2 a0).bind fun v32 =>
      (F_Pg_part v32.toNat x1 x2 0 q23.2).bind fun q38 =>
      if q38.1 ≠ x3 then
        (B_Tb_put_97 a0 x1 x2 x3 x4 x5 x6 q38.1 q38.2)
      else
        ((gfd 5 1 q38.2 a0).bind fun v50 =>
        (F_Pg_part v50.toNat x1 x2 1 q38.2).bind fun q56 =>
        if q56.1 ≠ x4 then
          (B_Tb_put_97 a0 x1 x2 x3 x4 x5 x6 q38.1 q56.2)
        else
          ((gfd 5 1 q56.2 a0).bind fun v65 =>
          (F_Pg_part v65.toNat x1 x2 2 q56.2).bind fun q71 =>
          if q71.1 ≠ x5 then
            (B_Tb_put_97 a0 x1 x2 x3 x4 x5 x6 q38.1 q71.2)
          else
            ((gfd 5 1 q71.2 a0).bind fun v80 =>
            (F_Pg_part v80.toNat x1 x2 3 q71.2).bind fun q86 =>
            if q86.1 ≠ x6 then
              (B_Tb_put_97 a0 x1 x2 x3 x4 x5 x6 q38.1 q86.2)
            else
              (some ((-2), q86.2))))))
    else
      (some ((-1), q23.2))) := by
  refine (congrArg asI (if_pos ho)).trans ?_
  show asI (Lim 112 0 [some (.inr (.inr a0)), some (.inl x1), some (.inl x2), some (.inl x3), some (.inl x4), some (.inl x5), some (.inl x6), none] [] h) = _
  refine A_aload_n d_112_0 rfl ?_
  refine A_getfA rfl d_112_1 kF_5_19 (fun v1 => ?_)
  refine A_iload_n d_112_4 rfl ?_
  refine A_iload_n d_112_5 rfl ?_
  refine A_call (t := 57) (way := 0) rfl d_112_6 rfl (cl kI_5_115 rfl) rfl (by decide) rfl (fun q6 => ?_)
  refine A_eq0 (t := 29) d_112_9 (by decide) ?_ ?_
  · refine A_iconst d_112_29 (by decide) ?_
    exact A_ireti rfl d_112_30
  · refine A_aload_n d_112_12 rfl ?_
    refine A_getfA rfl d_112_13 kF_5_19 (fun v13 => ?_)
    refine A_iload_n d_112_16 rfl ?_
    refine A_iload d_112_17 rfl ?_
    refine A_iload d_112_19 rfl ?_
    refine A_iload d_112_21 rfl ?_
    refine A_call (t := 79) (way := 0) rfl d_112_23 rfl (cl kI_5_123 rfl) rfl (by decide) rfl (fun q23 => ?_)
    refine A_ne0 (t := 31) d_112_26 (by decide) ?_ ?_
    · refine A_aload_n d_112_31 rfl ?_
      refine A_getfA rfl d_112_32 kF_5_19 (fun v32 => ?_)
      refine A_iload_n d_112_35 rfl ?_
      refine A_iload_n d_112_36 rfl ?_
      refine A_iconst d_112_37 (by decide) ?_
      refine A_call (t := 74) (way := 0) rfl d_112_38 rfl (cl kI_5_119 rfl) rfl (by decide) rfl (fun q38 => ?_)
      refine A_istore d_112_41 rfl ?_
      refine A_iload d_112_43 rfl ?_
      refine A_iload_n d_112_45 rfl ?_
      refine A_ne (t := 97) d_112_46 (by decide) ?_ ?_
      · exact rfl
      · refine A_aload_n d_112_49 rfl ?_
        refine A_getfA rfl d_112_50 kF_5_19 (fun v50 => ?_)
        refine A_iload_n d_112_53 rfl ?_
        refine A_iload_n d_112_54 rfl ?_
        refine A_iconst d_112_55 (by decide) ?_
        refine A_call (t := 74) (way := 0) rfl d_112_56 rfl (cl kI_5_119 rfl) rfl (by decide) rfl (fun q56 => ?_)
        refine A_iload d_112_59 rfl ?_
        refine A_ne (t := 97) d_112_61 (by decide) ?_ ?_
        · exact rfl
        · refine A_aload_n d_112_64 rfl ?_
          refine A_getfA rfl d_112_65 kF_5_19 (fun v65 => ?_)
          refine A_iload_n d_112_68 rfl ?_
          refine A_iload_n d_112_69 rfl ?_
          refine A_iconst d_112_70 (by decide) ?_
          refine A_call (t := 74) (way := 0) rfl d_112_71 rfl (cl kI_5_119 rfl) rfl (by decide) rfl (fun q71 => ?_)
          refine A_iload d_112_74 rfl ?_
          refine A_ne (t := 97) d_112_76 (by decide) ?_ ?_
          · exact rfl
          · refine A_aload_n d_112_79 rfl ?_
            refine A_getfA rfl d_112_80 kF_5_19 (fun v80 => ?_)
            refine A_iload_n d_112_83 rfl ?_
            refine A_iload_n d_112_84 rfl ?_
            refine A_iconst d_112_85 (by decide) ?_
            refine A_call (t := 74) (way := 0) rfl d_112_86 rfl (cl kI_5_119 rfl) rfl (by decide) rfl (fun q86 => ?_)
            refine A_iload d_112_89 rfl ?_
            refine A_ne (t := 97) d_112_91 (by decide) ?_ ?_
            · exact rfl
            · refine A_bipush d_112_94 (by decide) ?_
              exact A_ireti rfl d_112_96
    · refine A_iconst d_112_29 (by decide) ?_
      exact A_ireti rfl d_112_30
set_option maxRecDepth 20000 in
theorem q_Tb_add (a0 : Nat) (x1 : Int) (x2 : Int) (x3 : Int) (x4 : Int) (x5 : Int) (x6 : Int) (h : mH) (ho : isO h a0 5 = true) : F_Tb_add a0 x1 x2 x3 x4 x5 x6 h =
  (gfd 5 1 h a0).bind fun v1 =>
  (F_Pg_hasLabel v1.toNat x1 h).bind fun q5 =>
  if q5.1 = 0 then
    (some ((-1), q5.2))
  else
    (if x2 < 0 then
      (some ((-1), q5.2))
    else
      ((gfd 5 1 q5.2 a0).bind fun v17 =>
      (F_Pg_size v17.toNat x1 q5.2).bind fun q21 =>
      if q21.1 < x2 then
        (some ((-1), q21.2))
      else
        ((gfd 5 1 q21.2 a0).bind fun v28 =>
        (F_Pg_allows v28.toNat x3 x4 x5 x6 q21.2).bind fun q38 =>
        if q38.1 ≠ 0 then
          ((gfd 5 1 q38.2 a0).bind fun v47 =>
          (F_Pg_size v47.toNat x1 q38.2).bind fun q51 =>
          if q51.1 < 6 then
            ((gfd 5 5 q51.2 a0).bind fun v63 =>
            (gfd 5 1 q51.2 a0).bind fun v67 =>
            (gfd 2 0 q51.2 v67.toNat).bind fun v70 =>
            (F_Sh_hold v63.toNat v70.toNat q51.2).bind fun h73 =>
            (gfd 5 1 h73 a0).bind fun v77 =>
            (F_Pg_makeRoom v77.toNat x1 x2 h73).bind fun h82 =>
            (gfd 5 1 h82 a0).bind fun v86 =>
            (F_Pg_setInstruction v86.toNat x1 x2 x3 x4 x5 x6 h82).bind fun h98 =>
            (gfd 5 1 h98 a0).bind fun v102 =>
            (F_Pg_size v102.toNat x1 h98).bind fun q106 =>
            some (q106.1, q106.2))
          else
            (some ((-3), q51.2)))
        else
          (some ((-1), q38.2))))) := by
  refine (congrArg asI (if_pos ho)).trans ?_
  show asI (Lim 113 0 [some (.inr (.inr a0)), some (.inl x1), some (.inl x2), some (.inl x3), some (.inl x4), some (.inl x5), some (.inl x6)] [] h) = _
  refine A_aload_n d_113_0 rfl ?_
  refine A_getfA rfl d_113_1 kF_5_19 (fun v1 => ?_)
  refine A_iload_n d_113_4 rfl ?_
  refine A_call (t := 56) (way := 0) rfl d_113_5 rfl (cl kI_5_106 rfl) rfl (by decide) rfl (fun q5 => ?_)
  refine A_eq0 (t := 44) d_113_8 (by decide) ?_ ?_
  · refine A_iconst d_113_44 (by decide) ?_
    exact A_ireti rfl d_113_45
  · refine A_iload_n d_113_11 rfl ?_
    refine A_lt0 (t := 44) d_113_12 (by decide) ?_ ?_
    · refine A_iconst d_113_44 (by decide) ?_
      exact A_ireti rfl d_113_45
    · refine A_iload_n d_113_15 rfl ?_
      refine A_aload_n d_113_16 rfl ?_
      refine A_getfA rfl d_113_17 kF_5_19 (fun v17 => ?_)
      refine A_iload_n d_113_20 rfl ?_
      refine A_call (t := 73) (way := 0) rfl d_113_21 rfl (cl kI_5_134 rfl) rfl (by decide) rfl (fun q21 => ?_)
      refine A_gt (t := 44) d_113_24 (by decide) ?_ ?_
      · refine A_iconst d_113_44 (by decide) ?_
        exact A_ireti rfl d_113_45
      · refine A_aload_n d_113_27 rfl ?_
        refine A_getfA rfl d_113_28 kF_5_19 (fun v28 => ?_)
        refine A_iload_n d_113_31 rfl ?_
        refine A_iload d_113_32 rfl ?_
        refine A_iload d_113_34 rfl ?_
        refine A_iload d_113_36 rfl ?_
        refine A_call (t := 79) (way := 0) rfl d_113_38 rfl (cl kI_5_123 rfl) rfl (by decide) rfl (fun q38 => ?_)
        refine A_ne0 (t := 46) d_113_41 (by decide) ?_ ?_
        · refine A_aload_n d_113_46 rfl ?_
          refine A_getfA rfl d_113_47 kF_5_19 (fun v47 => ?_)
          refine A_iload_n d_113_50 rfl ?_
          refine A_call (t := 73) (way := 0) rfl d_113_51 rfl (cl kI_5_134 rfl) rfl (by decide) rfl (fun q51 => ?_)
          refine A_bipush d_113_54 (by decide) ?_
          refine A_lt (t := 62) d_113_56 (by decide) ?_ ?_
          · refine A_aload_n d_113_62 rfl ?_
            refine A_getfA rfl d_113_63 kF_5_45 (fun v63 => ?_)
            refine A_aload_n d_113_66 rfl ?_
            refine A_getfA rfl d_113_67 kF_5_19 (fun v67 => ?_)
            refine A_getfA rfl d_113_70 kF_5_74 (fun v70 => ?_)
            refine A_callU (t := 88) (way := 0) rfl d_113_73 rfl (cl kI_5_127 rfl) rfl rfl rfl (fun h73 => ?_)
            refine A_aload_n d_113_76 rfl ?_
            refine A_getfA rfl d_113_77 kF_5_19 (fun v77 => ?_)
            refine A_iload_n d_113_80 rfl ?_
            refine A_iload_n d_113_81 rfl ?_
            refine A_callU (t := 76) (way := 0) rfl d_113_82 rfl (cl kI_5_137 rfl) rfl rfl rfl (fun h82 => ?_)
            refine A_aload_n d_113_85 rfl ?_
            refine A_getfA rfl d_113_86 kF_5_19 (fun v86 => ?_)
            refine A_iload_n d_113_89 rfl ?_
            refine A_iload_n d_113_90 rfl ?_
            refine A_iload_n d_113_91 rfl ?_
            refine A_iload d_113_92 rfl ?_
            refine A_iload d_113_94 rfl ?_
            refine A_iload d_113_96 rfl ?_
            refine A_callU (t := 75) (way := 0) rfl d_113_98 rfl (cl kI_5_130 rfl) rfl rfl rfl (fun h98 => ?_)
            refine A_aload_n d_113_101 rfl ?_
            refine A_getfA rfl d_113_102 kF_5_19 (fun v102 => ?_)
            refine A_iload_n d_113_105 rfl ?_
            refine A_call (t := 73) (way := 0) rfl d_113_106 rfl (cl kI_5_134 rfl) rfl (by decide) rfl (fun q106 => ?_)
            exact A_ireti rfl d_113_109
          · refine A_bipush d_113_59 (by decide) ?_
            exact A_ireti rfl d_113_61
        · refine A_iconst d_113_44 (by decide) ?_
          exact A_ireti rfl d_113_45
set_option maxRecDepth 20000 in
theorem q_Tb_cut (a0 : Nat) (x1 : Int) (x2 : Int) (h : mH) (ho : isO h a0 5 = true) : F_Tb_cut a0 x1 x2 h =
  (gfd 5 1 h a0).bind fun v1 =>
  (F_Pg_hasInstruction v1.toNat x1 x2 h).bind fun q6 =>
  if q6.1 ≠ 0 then
    ((gfd 5 5 q6.2 a0).bind fun v15 =>
    (gfd 5 1 q6.2 a0).bind fun v19 =>
    (gfd 2 0 q6.2 v19.toNat).bind fun v22 =>
    (F_Sh_hold v15.toNat v22.toNat q6.2).bind fun h25 =>
    (gfd 5 1 h25 a0).bind fun v29 =>
    (F_Pg_takeOut v29.toNat x1 x2 h25).bind fun h34 =>
    (gfd 5 1 h34 a0).bind fun v38 =>
    (F_Pg_size v38.toNat x1 h34).bind fun q42 =>
    some (q42.1, q42.2))
  else
    (some ((-1), q6.2)) := by
  refine (congrArg asI (if_pos ho)).trans ?_
  show asI (Lim 114 0 [some (.inr (.inr a0)), some (.inl x1), some (.inl x2)] [] h) = _
  refine A_aload_n d_114_0 rfl ?_
  refine A_getfA rfl d_114_1 kF_5_19 (fun v1 => ?_)
  refine A_iload_n d_114_4 rfl ?_
  refine A_iload_n d_114_5 rfl ?_
  refine A_call (t := 57) (way := 0) rfl d_114_6 rfl (cl kI_5_115 rfl) rfl (by decide) rfl (fun q6 => ?_)
  refine A_ne0 (t := 14) d_114_9 (by decide) ?_ ?_
  · refine A_aload_n d_114_14 rfl ?_
    refine A_getfA rfl d_114_15 kF_5_45 (fun v15 => ?_)
    refine A_aload_n d_114_18 rfl ?_
    refine A_getfA rfl d_114_19 kF_5_19 (fun v19 => ?_)
    refine A_getfA rfl d_114_22 kF_5_74 (fun v22 => ?_)
    refine A_callU (t := 88) (way := 0) rfl d_114_25 rfl (cl kI_5_127 rfl) rfl rfl rfl (fun h25 => ?_)
    refine A_aload_n d_114_28 rfl ?_
    refine A_getfA rfl d_114_29 kF_5_19 (fun v29 => ?_)
    refine A_iload_n d_114_32 rfl ?_
    refine A_iload_n d_114_33 rfl ?_
    refine A_callU (t := 77) (way := 0) rfl d_114_34 rfl (cl kI_5_141 rfl) rfl rfl rfl (fun h34 => ?_)
    refine A_aload_n d_114_37 rfl ?_
    refine A_getfA rfl d_114_38 kF_5_19 (fun v38 => ?_)
    refine A_iload_n d_114_41 rfl ?_
    refine A_call (t := 73) (way := 0) rfl d_114_42 rfl (cl kI_5_134 rfl) rfl (by decide) rfl (fun q42 => ?_)
    exact A_ireti rfl d_114_45
  · refine A_iconst d_114_12 (by decide) ?_
    exact A_ireti rfl d_114_13
set_option maxRecDepth 20000 in
theorem q_Tb_want (a0 : Nat) (x1 : Int) (x2 : Int) (x3 : Int) (h : mH) (ho : isO h a0 5 = true) : F_Tb_want a0 x1 x2 x3 h =
  (gfd 5 1 h a0).bind fun v1 =>
  (F_Pg_hasLabel v1.toNat x1 h).bind fun q5 =>
  if q5.1 = 0 then
    (some ((-1), q5.2))
  else
    (if x2 < 0 then
      (some ((-1), q5.2))
    else
      (if 4 ≤ x2 then
        (some ((-1), q5.2))
      else
        ((gfd 5 1 q5.2 a0).bind fun v21 =>
        (F_Pg_hasType v21.toNat x3 q5.2).bind fun q25 =>
        if q25.1 ≠ 0 then
          ((gfd 5 1 q25.2 a0).bind fun v34 =>
          (F_Pg_wanted v34.toNat x1 x2 q25.2).bind fun q39 =>
          if q39.1 ≠ x3 then
            ((gfd 5 5 q39.2 a0).bind fun v54 =>
            (gfd 5 1 q39.2 a0).bind fun v58 =>
            (gfd 2 0 q39.2 v58.toNat).bind fun v61 =>
            (F_Sh_hold v54.toNat v61.toNat q39.2).bind fun h64 =>
            (gfd 5 1 h64 a0).bind fun v68 =>
            (F_Pg_setWanted v68.toNat x1 x2 x3 h64).bind fun h74 =>
            some (q39.1, h74))
          else
            (some ((-2), q39.2)))
        else
          (some ((-1), q25.2))))) := by
  refine (congrArg asI (if_pos ho)).trans ?_
  show asI (Lim 115 0 [some (.inr (.inr a0)), some (.inl x1), some (.inl x2), some (.inl x3), none] [] h) = _
  refine A_aload_n d_115_0 rfl ?_
  refine A_getfA rfl d_115_1 kF_5_19 (fun v1 => ?_)
  refine A_iload_n d_115_4 rfl ?_
  refine A_call (t := 56) (way := 0) rfl d_115_5 rfl (cl kI_5_106 rfl) rfl (by decide) rfl (fun q5 => ?_)
  refine A_eq0 (t := 31) d_115_8 (by decide) ?_ ?_
  · refine A_iconst d_115_31 (by decide) ?_
    exact A_ireti rfl d_115_32
  · refine A_iload_n d_115_11 rfl ?_
    refine A_lt0 (t := 31) d_115_12 (by decide) ?_ ?_
    · refine A_iconst d_115_31 (by decide) ?_
      exact A_ireti rfl d_115_32
    · refine A_iload_n d_115_15 rfl ?_
      refine A_iconst d_115_16 (by decide) ?_
      refine A_ge (t := 31) d_115_17 (by decide) ?_ ?_
      · refine A_iconst d_115_31 (by decide) ?_
        exact A_ireti rfl d_115_32
      · refine A_aload_n d_115_20 rfl ?_
        refine A_getfA rfl d_115_21 kF_5_19 (fun v21 => ?_)
        refine A_iload_n d_115_24 rfl ?_
        refine A_call (t := 58) (way := 0) rfl d_115_25 rfl (cl kI_5_144 rfl) rfl (by decide) rfl (fun q25 => ?_)
        refine A_ne0 (t := 33) d_115_28 (by decide) ?_ ?_
        · refine A_aload_n d_115_33 rfl ?_
          refine A_getfA rfl d_115_34 kF_5_19 (fun v34 => ?_)
          refine A_iload_n d_115_37 rfl ?_
          refine A_iload_n d_115_38 rfl ?_
          refine A_call (t := 66) (way := 0) rfl d_115_39 rfl (cl kI_5_147 rfl) rfl (by decide) rfl (fun q39 => ?_)
          refine A_istore d_115_42 rfl ?_
          refine A_iload d_115_44 rfl ?_
          refine A_iload_n d_115_46 rfl ?_
          refine A_ne (t := 53) d_115_47 (by decide) ?_ ?_
          · refine A_aload_n d_115_53 rfl ?_
            refine A_getfA rfl d_115_54 kF_5_45 (fun v54 => ?_)
            refine A_aload_n d_115_57 rfl ?_
            refine A_getfA rfl d_115_58 kF_5_19 (fun v58 => ?_)
            refine A_getfA rfl d_115_61 kF_5_74 (fun v61 => ?_)
            refine A_callU (t := 88) (way := 0) rfl d_115_64 rfl (cl kI_5_127 rfl) rfl rfl rfl (fun h64 => ?_)
            refine A_aload_n d_115_67 rfl ?_
            refine A_getfA rfl d_115_68 kF_5_19 (fun v68 => ?_)
            refine A_iload_n d_115_71 rfl ?_
            refine A_iload_n d_115_72 rfl ?_
            refine A_iload_n d_115_73 rfl ?_
            refine A_callU (t := 67) (way := 0) rfl d_115_74 rfl (cl kI_5_150 rfl) rfl rfl rfl (fun h74 => ?_)
            refine A_iload d_115_77 rfl ?_
            exact A_ireti rfl d_115_79
          · refine A_bipush d_115_50 (by decide) ?_
            exact A_ireti rfl d_115_52
        · refine A_iconst d_115_31 (by decide) ?_
          exact A_ireti rfl d_115_32
set_option maxRecDepth 20000 in
theorem q_Tb_below (a0 : Nat) (x1 : Int) (x2 : Int) (h : mH) (ho : isO h a0 5 = true) : F_Tb_below a0 x1 x2 h =
  (gfd 5 1 h a0).bind fun v1 =>
  (F_Pg_hasLabel v1.toNat x1 h).bind fun q5 =>
  if q5.1 = 0 then
    (some ((-1), q5.2))
  else
    (if x2 < 0 then
      (some ((-1), q5.2))
    else
      (if x2 ≤ 1 then
        ((gfd 5 1 q5.2 a0).bind fun v23 =>
        (F_Pg_openBelow v23.toNat x1 q5.2).bind fun q27 =>
        if q27.1 ≠ x2 then
          ((gfd 5 5 q27.2 a0).bind fun v38 =>
          (gfd 5 1 q27.2 a0).bind fun v42 =>
          (gfd 2 0 q27.2 v42.toNat).bind fun v45 =>
          (F_Sh_hold v38.toNat v45.toNat q27.2).bind fun h48 =>
          (gfd 5 1 h48 a0).bind fun v52 =>
          (F_Pg_setOpenBelow v52.toNat x1 x2 h48).bind fun h57 =>
          some (1, h57))
        else
          (some ((-2), q27.2)))
      else
        (some ((-1), q5.2)))) := by
  refine (congrArg asI (if_pos ho)).trans ?_
  show asI (Lim 116 0 [some (.inr (.inr a0)), some (.inl x1), some (.inl x2)] [] h) = _
  refine A_aload_n d_116_0 rfl ?_
  refine A_getfA rfl d_116_1 kF_5_19 (fun v1 => ?_)
  refine A_iload_n d_116_4 rfl ?_
  refine A_call (t := 56) (way := 0) rfl d_116_5 rfl (cl kI_5_106 rfl) rfl (by decide) rfl (fun q5 => ?_)
  refine A_eq0 (t := 20) d_116_8 (by decide) ?_ ?_
  · refine A_iconst d_116_20 (by decide) ?_
    exact A_ireti rfl d_116_21
  · refine A_iload_n d_116_11 rfl ?_
    refine A_lt0 (t := 20) d_116_12 (by decide) ?_ ?_
    · refine A_iconst d_116_20 (by decide) ?_
      exact A_ireti rfl d_116_21
    · refine A_iload_n d_116_15 rfl ?_
      refine A_iconst d_116_16 (by decide) ?_
      refine A_le (t := 22) d_116_17 (by decide) ?_ ?_
      · refine A_aload_n d_116_22 rfl ?_
        refine A_getfA rfl d_116_23 kF_5_19 (fun v23 => ?_)
        refine A_iload_n d_116_26 rfl ?_
        refine A_call (t := 71) (way := 0) rfl d_116_27 rfl (cl kI_5_154 rfl) rfl (by decide) rfl (fun q27 => ?_)
        refine A_iload_n d_116_30 rfl ?_
        refine A_ne (t := 37) d_116_31 (by decide) ?_ ?_
        · refine A_aload_n d_116_37 rfl ?_
          refine A_getfA rfl d_116_38 kF_5_45 (fun v38 => ?_)
          refine A_aload_n d_116_41 rfl ?_
          refine A_getfA rfl d_116_42 kF_5_19 (fun v42 => ?_)
          refine A_getfA rfl d_116_45 kF_5_74 (fun v45 => ?_)
          refine A_callU (t := 88) (way := 0) rfl d_116_48 rfl (cl kI_5_127 rfl) rfl rfl rfl (fun h48 => ?_)
          refine A_aload_n d_116_51 rfl ?_
          refine A_getfA rfl d_116_52 kF_5_19 (fun v52 => ?_)
          refine A_iload_n d_116_55 rfl ?_
          refine A_iload_n d_116_56 rfl ?_
          refine A_callU (t := 72) (way := 0) rfl d_116_57 rfl (cl kI_5_157 rfl) rfl rfl rfl (fun h57 => ?_)
          refine A_iconst d_116_60 (by decide) ?_
          exact A_ireti rfl d_116_61
        · refine A_bipush d_116_34 (by decide) ?_
          exact A_ireti rfl d_116_36
      · refine A_iconst d_116_20 (by decide) ?_
        exact A_ireti rfl d_116_21
set_option maxRecDepth 20000 in
theorem q_Tb_undo (a0 : Nat) (h : mH) (ho : isO h a0 5 = true) : F_Tb_undo a0 h =
  (gfd 5 5 h a0).bind fun v1 =>
  (gfd 3 2 h v1.toNat).bind fun v4 =>
  if v4 ≠ 0 then
    ((gfd 5 5 h a0).bind fun v14 =>
    (gfd 5 1 h a0).bind fun v18 =>
    (F_Sh_giveBack v14.toNat v18.toNat h).bind fun h21 =>
    (gfd 5 5 h21 a0).bind fun v25 =>
    (gfd 3 2 h21 v25.toNat).bind fun v28 =>
    some (v28, h21))
  else
    (some ((-2), h)) := by
  refine (congrArg asI (if_pos ho)).trans ?_
  show asI (Lim 117 0 [some (.inr (.inr a0))] [] h) = _
  refine A_aload_n d_117_0 rfl ?_
  refine A_getfA rfl d_117_1 kF_5_45 (fun v1 => ?_)
  refine A_getfI rfl d_117_4 kF_5_160 (by decide) (fun v4 => ?_)
  refine A_ne0 (t := 13) d_117_7 (by decide) ?_ ?_
  · refine A_aload_n d_117_13 rfl ?_
    refine A_getfA rfl d_117_14 kF_5_45 (fun v14 => ?_)
    refine A_aload_n d_117_17 rfl ?_
    refine A_getfA rfl d_117_18 kF_5_19 (fun v18 => ?_)
    refine A_callU (t := 89) (way := 0) rfl d_117_21 rfl (cl kI_5_163 rfl) rfl rfl rfl (fun h21 => ?_)
    refine A_aload_n d_117_24 rfl ?_
    refine A_getfA rfl d_117_25 kF_5_45 (fun v25 => ?_)
    refine A_getfI rfl d_117_28 kF_5_160 (by decide) (fun v28 => ?_)
    exact A_ireti rfl d_117_31
  · refine A_bipush d_117_10 (by decide) ?_
    exact A_ireti rfl d_117_12
set_option maxRecDepth 20000 in
theorem q_Tb_check (a0 : Nat) (x1 : Int) (h : mH) (ho : isO h a0 5 = true) : F_Tb_check a0 x1 h =
  (gfd 5 1 h a0).bind fun v1 =>
  (F_Pg_hasLabel v1.toNat x1 h).bind fun q5 =>
  if q5.1 ≠ 0 then
    ((gfd 5 3 q5.2 a0).bind fun v14 =>
    (gfd 5 1 q5.2 a0).bind fun v18 =>
    (F_Ck_take v14.toNat v18.toNat q5.2).bind fun h21 =>
    (gfd 5 3 h21 a0).bind fun v25 =>
    (F_Ck_isSure v25.toNat x1 h21).bind fun q29 =>
    if q29.1 = 0 then
      ((gfd 5 3 q29.2 a0).bind fun v41 =>
      (gfd 0 8 q29.2 v41.toNat).bind fun v44 =>
      some (v44, q29.2))
    else
      (some ((-4), q29.2)))
  else
    (some ((-1), q5.2)) := by
  refine (congrArg asI (if_pos ho)).trans ?_
  show asI (Lim 118 0 [some (.inr (.inr a0)), some (.inl x1)] [] h) = _
  refine A_aload_n d_118_0 rfl ?_
  refine A_getfA rfl d_118_1 kF_5_19 (fun v1 => ?_)
  refine A_iload_n d_118_4 rfl ?_
  refine A_call (t := 56) (way := 0) rfl d_118_5 rfl (cl kI_5_106 rfl) rfl (by decide) rfl (fun q5 => ?_)
  refine A_ne0 (t := 13) d_118_8 (by decide) ?_ ?_
  · refine A_aload_n d_118_13 rfl ?_
    refine A_getfA rfl d_118_14 kF_5_29 (fun v14 => ?_)
    refine A_aload_n d_118_17 rfl ?_
    refine A_getfA rfl d_118_18 kF_5_19 (fun v18 => ?_)
    refine A_callU (t := 1) (way := 0) rfl d_118_21 rfl (cl kI_5_167 rfl) rfl rfl rfl (fun h21 => ?_)
    refine A_aload_n d_118_24 rfl ?_
    refine A_getfA rfl d_118_25 kF_5_29 (fun v25 => ?_)
    refine A_iload_n d_118_28 rfl ?_
    refine A_call (t := 12) (way := 0) rfl d_118_29 rfl (cl kI_5_170 rfl) rfl (by decide) rfl (fun q29 => ?_)
    refine A_eq0 (t := 40) d_118_32 (by decide) ?_ ?_
    · refine A_aload_n d_118_40 rfl ?_
      refine A_getfA rfl d_118_41 kF_5_29 (fun v41 => ?_)
      refine A_getfI rfl d_118_44 kF_5_173 (by decide) (fun v44 => ?_)
      exact A_ireti rfl d_118_47
    · refine A_bipush d_118_35 (by decide) ?_
      refine A_goto (t := 47) d_118_37 (by decide) ?_
      exact A_ireti rfl d_118_47
  · refine A_iconst d_118_11 (by decide) ?_
    exact A_ireti rfl d_118_12
set_option maxRecDepth 20000 in
theorem q_Tb_reason (a0 : Nat) (x1 : Int) (h : mH) (ho : isO h a0 5 = true) : F_Tb_reason a0 x1 h =
  (gfd 5 1 h a0).bind fun v1 =>
  (F_Pg_hasLabel v1.toNat x1 h).bind fun q5 =>
  if q5.1 ≠ 0 then
    ((gfd 5 3 q5.2 a0).bind fun v14 =>
    (gfd 5 1 q5.2 a0).bind fun v18 =>
    (F_Ck_take v14.toNat v18.toNat q5.2).bind fun h21 =>
    (gfd 5 3 h21 a0).bind fun v25 =>
    (F_Ck_isSure v25.toNat x1 h21).bind fun q29 =>
    if q29.1 = 0 then
      ((gfd 5 3 q29.2 a0).bind fun v41 =>
      (gfd 0 9 q29.2 v41.toNat).bind fun v44 =>
      some (v44, q29.2))
    else
      (some ((-4), q29.2)))
  else
    (some ((-1), q5.2)) := by
  refine (congrArg asI (if_pos ho)).trans ?_
  show asI (Lim 119 0 [some (.inr (.inr a0)), some (.inl x1)] [] h) = _
  refine A_aload_n d_119_0 rfl ?_
  refine A_getfA rfl d_119_1 kF_5_19 (fun v1 => ?_)
  refine A_iload_n d_119_4 rfl ?_
  refine A_call (t := 56) (way := 0) rfl d_119_5 rfl (cl kI_5_106 rfl) rfl (by decide) rfl (fun q5 => ?_)
  refine A_ne0 (t := 13) d_119_8 (by decide) ?_ ?_
  · refine A_aload_n d_119_13 rfl ?_
    refine A_getfA rfl d_119_14 kF_5_29 (fun v14 => ?_)
    refine A_aload_n d_119_17 rfl ?_
    refine A_getfA rfl d_119_18 kF_5_19 (fun v18 => ?_)
    refine A_callU (t := 1) (way := 0) rfl d_119_21 rfl (cl kI_5_167 rfl) rfl rfl rfl (fun h21 => ?_)
    refine A_aload_n d_119_24 rfl ?_
    refine A_getfA rfl d_119_25 kF_5_29 (fun v25 => ?_)
    refine A_iload_n d_119_28 rfl ?_
    refine A_call (t := 12) (way := 0) rfl d_119_29 rfl (cl kI_5_170 rfl) rfl (by decide) rfl (fun q29 => ?_)
    refine A_eq0 (t := 40) d_119_32 (by decide) ?_ ?_
    · refine A_aload_n d_119_40 rfl ?_
      refine A_getfA rfl d_119_41 kF_5_29 (fun v41 => ?_)
      refine A_getfI rfl d_119_44 kF_5_176 (by decide) (fun v44 => ?_)
      exact A_ireti rfl d_119_47
    · refine A_bipush d_119_35 (by decide) ?_
      refine A_goto (t := 47) d_119_37 (by decide) ?_
      exact A_ireti rfl d_119_47
  · refine A_iconst d_119_11 (by decide) ?_
    exact A_ireti rfl d_119_12
set_option maxRecDepth 20000 in
theorem q_Tb_ahead (a0 : Nat) (x1 : Int) (x2 : Int) (x3 : Int) (h : mH) (ho : isO h a0 5 = true) : F_Tb_ahead a0 x1 x2 x3 h =
  (gfd 5 1 h a0).bind fun v1 =>
  (F_Pg_hasLabel v1.toNat x1 h).bind fun q5 =>
  if q5.1 = 0 then
    (some ((-1), q5.2))
  else
    (if x2 < 0 then
      (some ((-1), q5.2))
    else
      ((gfd 5 1 q5.2 a0).bind fun v17 =>
      (F_Pg_size v17.toNat x1 q5.2).bind fun q21 =>
      if q21.1 < x2 then
        (some ((-1), q21.2))
      else
        (if x3 < 0 then
          (some ((-1), q21.2))
        else
          (if x3 ≤ 10 then
            ((gfd 5 3 q21.2 a0).bind fun v40 =>
            (gfd 5 1 q21.2 a0).bind fun v44 =>
            (F_Ck_take v40.toNat v44.toNat q21.2).bind fun h47 =>
            (gfd 5 3 h47 a0).bind fun v51 =>
            (F_Ck_passes v51.toNat x1 x2 h47).bind fun q56 =>
            if q56.1 ≠ 0 then
              (if 4 ≤ x3 then
                (if x3 ≠ 4 then
                  ((gfd 5 3 q56.2 a0).bind fun v96 =>
                  (gfd 0 7 q56.2 v96.toNat).bind fun v99 =>
                  if v99 ≤ w32 (x3 - 5) then
                    (some ((-4), q56.2))
                  else
                    ((gfd 5 3 q56.2 a0).bind fun v106 =>
                    (F_Ck_fromTop v106.toNat (w32 (x3 - 5)) q56.2).bind fun q112 =>
                    some (q112.1, q112.2)))
                else
                  ((gfd 5 3 q56.2 a0).bind fun v85 =>
                  (gfd 0 7 q56.2 v85.toNat).bind fun v88 =>
                  some (v88, q56.2)))
              else
                ((gfd 5 3 q56.2 a0).bind fun v71 =>
                (F_Ck_register v71.toNat x3 q56.2).bind fun q75 =>
                some (q75.1, q75.2)))
            else
              (some ((-4), q56.2)))
          else
            (some ((-1), q21.2)))))) := by
  refine (congrArg asI (if_pos ho)).trans ?_
  show asI (Lim 120 0 [some (.inr (.inr a0)), some (.inl x1), some (.inl x2), some (.inl x3)] [] h) = _
  refine A_aload_n d_120_0 rfl ?_
  refine A_getfA rfl d_120_1 kF_5_19 (fun v1 => ?_)
  refine A_iload_n d_120_4 rfl ?_
  refine A_call (t := 56) (way := 0) rfl d_120_5 rfl (cl kI_5_106 rfl) rfl (by decide) rfl (fun q5 => ?_)
  refine A_eq0 (t := 37) d_120_8 (by decide) ?_ ?_
  · refine A_iconst d_120_37 (by decide) ?_
    exact A_ireti rfl d_120_38
  · refine A_iload_n d_120_11 rfl ?_
    refine A_lt0 (t := 37) d_120_12 (by decide) ?_ ?_
    · refine A_iconst d_120_37 (by decide) ?_
      exact A_ireti rfl d_120_38
    · refine A_iload_n d_120_15 rfl ?_
      refine A_aload_n d_120_16 rfl ?_
      refine A_getfA rfl d_120_17 kF_5_19 (fun v17 => ?_)
      refine A_iload_n d_120_20 rfl ?_
      refine A_call (t := 73) (way := 0) rfl d_120_21 rfl (cl kI_5_134 rfl) rfl (by decide) rfl (fun q21 => ?_)
      refine A_gt (t := 37) d_120_24 (by decide) ?_ ?_
      · refine A_iconst d_120_37 (by decide) ?_
        exact A_ireti rfl d_120_38
      · refine A_iload_n d_120_27 rfl ?_
        refine A_lt0 (t := 37) d_120_28 (by decide) ?_ ?_
        · refine A_iconst d_120_37 (by decide) ?_
          exact A_ireti rfl d_120_38
        · refine A_iload_n d_120_31 rfl ?_
          refine A_bipush d_120_32 (by decide) ?_
          refine A_le (t := 39) d_120_34 (by decide) ?_ ?_
          · refine A_aload_n d_120_39 rfl ?_
            refine A_getfA rfl d_120_40 kF_5_29 (fun v40 => ?_)
            refine A_aload_n d_120_43 rfl ?_
            refine A_getfA rfl d_120_44 kF_5_19 (fun v44 => ?_)
            refine A_callU (t := 1) (way := 0) rfl d_120_47 rfl (cl kI_5_167 rfl) rfl rfl rfl (fun h47 => ?_)
            refine A_aload_n d_120_50 rfl ?_
            refine A_getfA rfl d_120_51 kF_5_29 (fun v51 => ?_)
            refine A_iload_n d_120_54 rfl ?_
            refine A_iload_n d_120_55 rfl ?_
            refine A_call (t := 11) (way := 0) rfl d_120_56 rfl (cl kI_5_179 rfl) rfl (by decide) rfl (fun q56 => ?_)
            refine A_ne0 (t := 65) d_120_59 (by decide) ?_ ?_
            · refine A_iload_n d_120_65 rfl ?_
              refine A_iconst d_120_66 (by decide) ?_
              refine A_ge (t := 79) d_120_67 (by decide) ?_ ?_
              · refine A_iload_n d_120_79 rfl ?_
                refine A_iconst d_120_80 (by decide) ?_
                refine A_ne (t := 92) d_120_81 (by decide) ?_ ?_
                · refine A_iload_n d_120_92 rfl ?_
                  refine A_iconst d_120_93 (by decide) ?_
                  refine A_isub d_120_94 ?_
                  refine A_aload_n d_120_95 rfl ?_
                  refine A_getfA rfl d_120_96 kF_5_29 (fun v96 => ?_)
                  refine A_getfI rfl d_120_99 kF_5_185 (by decide) (fun v99 => ?_)
                  refine A_ge (t := 118) d_120_102 (by decide) ?_ ?_
                  · refine A_bipush d_120_118 (by decide) ?_
                    exact A_ireti rfl d_120_120
                  · refine A_aload_n d_120_105 rfl ?_
                    refine A_getfA rfl d_120_106 kF_5_29 (fun v106 => ?_)
                    refine A_iload_n d_120_109 rfl ?_
                    refine A_iconst d_120_110 (by decide) ?_
                    refine A_isub d_120_111 ?_
                    refine A_call (t := 9) (way := 0) rfl d_120_112 rfl (cl kI_5_188 rfl) rfl (by decide) rfl (fun q112 => ?_)
                    refine A_goto (t := 120) d_120_115 (by decide) ?_
                    exact A_ireti rfl d_120_120
                · refine A_aload_n d_120_84 rfl ?_
                  refine A_getfA rfl d_120_85 kF_5_29 (fun v85 => ?_)
                  refine A_getfI rfl d_120_88 kF_5_185 (by decide) (fun v88 => ?_)
                  exact A_ireti rfl d_120_91
              · refine A_aload_n d_120_70 rfl ?_
                refine A_getfA rfl d_120_71 kF_5_29 (fun v71 => ?_)
                refine A_iload_n d_120_74 rfl ?_
                refine A_call (t := 7) (way := 0) rfl d_120_75 rfl (cl kI_5_182 rfl) rfl (by decide) rfl (fun q75 => ?_)
                exact A_ireti rfl d_120_78
            · refine A_bipush d_120_62 (by decide) ?_
              exact A_ireti rfl d_120_64
          · refine A_iconst d_120_37 (by decide) ?_
            exact A_ireti rfl d_120_38
set_option maxRecDepth 20000 in
theorem q_Tb_sure (a0 : Nat) (h : mH) (ho : isO h a0 5 = true) : F_Tb_sure a0 h =
  (gfd 5 3 h a0).bind fun v1 =>
  (gfd 5 1 h a0).bind fun v5 =>
  (F_Ck_take v1.toNat v5.toNat h).bind fun h8 =>
  (gfd 5 3 h8 a0).bind fun v12 =>
  (F_Ck_sureBits v12.toNat h8).bind fun q15 =>
  some (q15.1, q15.2) := by
  refine (congrArg asI (if_pos ho)).trans ?_
  show asI (Lim 121 0 [some (.inr (.inr a0))] [] h) = _
  refine A_aload_n d_121_0 rfl ?_
  refine A_getfA rfl d_121_1 kF_5_29 (fun v1 => ?_)
  refine A_aload_n d_121_4 rfl ?_
  refine A_getfA rfl d_121_5 kF_5_19 (fun v5 => ?_)
  refine A_callU (t := 1) (way := 0) rfl d_121_8 rfl (cl kI_5_167 rfl) rfl rfl rfl (fun h8 => ?_)
  refine A_aload_n d_121_11 rfl ?_
  refine A_getfA rfl d_121_12 kF_5_29 (fun v12 => ?_)
  refine A_call (t := 13) (way := 0) rfl d_121_15 rfl (cl kI_5_191 rfl) rfl (by decide) rfl (fun q15 => ?_)
  exact A_ireti rfl d_121_18
set_option maxRecDepth 20000 in
theorem q_Tb_joins (a0 : Nat) (x1 : Int) (h : mH) (ho : isO h a0 5 = true) : F_Tb_joins a0 x1 h =
  (gfd 5 1 h a0).bind fun v1 =>
  (F_Pg_hasLabel v1.toNat x1 h).bind fun q5 =>
  if q5.1 ≠ 0 then
    ((gfd 5 3 q5.2 a0).bind fun v14 =>
    (gfd 5 1 q5.2 a0).bind fun v18 =>
    (F_Ck_take v14.toNat v18.toNat q5.2).bind fun h21 =>
    (gfd 5 3 h21 a0).bind fun v25 =>
    (F_Ck_joinBits v25.toNat x1 h21).bind fun q29 =>
    some (q29.1, q29.2))
  else
    (some ((-1), q5.2)) := by
  refine (congrArg asI (if_pos ho)).trans ?_
  show asI (Lim 122 0 [some (.inr (.inr a0)), some (.inl x1)] [] h) = _
  refine A_aload_n d_122_0 rfl ?_
  refine A_getfA rfl d_122_1 kF_5_19 (fun v1 => ?_)
  refine A_iload_n d_122_4 rfl ?_
  refine A_call (t := 56) (way := 0) rfl d_122_5 rfl (cl kI_5_106 rfl) rfl (by decide) rfl (fun q5 => ?_)
  refine A_ne0 (t := 13) d_122_8 (by decide) ?_ ?_
  · refine A_aload_n d_122_13 rfl ?_
    refine A_getfA rfl d_122_14 kF_5_29 (fun v14 => ?_)
    refine A_aload_n d_122_17 rfl ?_
    refine A_getfA rfl d_122_18 kF_5_19 (fun v18 => ?_)
    refine A_callU (t := 1) (way := 0) rfl d_122_21 rfl (cl kI_5_167 rfl) rfl rfl rfl (fun h21 => ?_)
    refine A_aload_n d_122_24 rfl ?_
    refine A_getfA rfl d_122_25 kF_5_29 (fun v25 => ?_)
    refine A_iload_n d_122_28 rfl ?_
    refine A_call (t := 14) (way := 0) rfl d_122_29 rfl (cl kI_5_194 rfl) rfl (by decide) rfl (fun q29 => ?_)
    exact A_ireti rfl d_122_32
  · refine A_iconst d_122_11 (by decide) ?_
    exact A_ireti rfl d_122_12
set_option maxRecDepth 20000 in
theorem q_Tb_might_41 (a0 : Nat) (x1 : Int) (x2 : Int) (x3 : Int) (x4 : Int) (h : mH) : B_Tb_might_41 a0 x1 x2 x3 x4 h =
  if 10 ≤ x4 then
    (some (x3, h))
  else
    ((gfd 5 1 h a0).bind fun v49 =>
    (F_Pg_hasType v49.toNat x4 h).bind fun q54 =>
    if q54.1 = 0 then
      (B_Tb_might_106 a0 x1 x2 x3 x4 q54.2)
    else
      ((gfd 5 2 q54.2 a0).bind fun v61 =>
      (F_Pg_setWanted v61.toNat x1 x2 x4 q54.2).bind fun h68 =>
      (gfd 5 3 h68 a0).bind fun v72 =>
      (gfd 5 2 h68 a0).bind fun v76 =>
      (F_Ck_take v72.toNat v76.toNat h68).bind fun h79 =>
      (gfd 5 3 h79 a0).bind fun v83 =>
      (F_Ck_sureBits v83.toNat h79).bind fun q86 =>
      (gfd 5 2 q86.2 a0).bind fun v90 =>
      (F_Pg_allLabels v90.toNat q86.2).bind fun q93 =>
      if q86.1 ≠ q93.1 then
        (B_Tb_might_106 a0 x1 x2 x3 x4 q93.2)
      else
        (B_Tb_might_106 a0 x1 x2 (ior x3 (ishl 1 x4)) x4 q93.2))) := by
  unfold B_Tb_might_41
  refine A_iload d_123_41 rfl ?_
  refine A_bipush d_123_43 (by decide) ?_
  refine A_ge (t := 112) d_123_45 (by decide) ?_ ?_
  · refine A_iload_n d_123_112 rfl ?_
    exact A_ireti rfl d_123_113
  · refine A_aload_n d_123_48 rfl ?_
    refine A_getfA rfl d_123_49 kF_5_19 (fun v49 => ?_)
    refine A_iload d_123_52 rfl ?_
    refine A_call (t := 58) (way := 0) rfl d_123_54 rfl (cl kI_5_144 rfl) rfl (by decide) rfl (fun q54 => ?_)
    refine A_eq0 (t := 106) d_123_57 (by decide) ?_ ?_
    · exact rfl
    · refine A_aload_n d_123_60 rfl ?_
      refine A_getfA rfl d_123_61 kF_5_23 (fun v61 => ?_)
      refine A_iload_n d_123_64 rfl ?_
      refine A_iload_n d_123_65 rfl ?_
      refine A_iload d_123_66 rfl ?_
      refine A_callU (t := 67) (way := 0) rfl d_123_68 rfl (cl kI_5_150 rfl) rfl rfl rfl (fun h68 => ?_)
      refine A_aload_n d_123_71 rfl ?_
      refine A_getfA rfl d_123_72 kF_5_29 (fun v72 => ?_)
      refine A_aload_n d_123_75 rfl ?_
      refine A_getfA rfl d_123_76 kF_5_23 (fun v76 => ?_)
      refine A_callU (t := 1) (way := 0) rfl d_123_79 rfl (cl kI_5_167 rfl) rfl rfl rfl (fun h79 => ?_)
      refine A_aload_n d_123_82 rfl ?_
      refine A_getfA rfl d_123_83 kF_5_29 (fun v83 => ?_)
      refine A_call (t := 13) (way := 0) rfl d_123_86 rfl (cl kI_5_191 rfl) rfl (by decide) rfl (fun q86 => ?_)
      refine A_aload_n d_123_89 rfl ?_
      refine A_getfA rfl d_123_90 kF_5_23 (fun v90 => ?_)
      refine A_call (t := 54) (way := 0) rfl d_123_93 rfl (cl kI_5_197 rfl) rfl (by decide) rfl (fun q93 => ?_)
      refine A_ne (t := 106) d_123_96 (by decide) ?_ ?_
      · exact rfl
      · refine A_iload_n d_123_99 rfl ?_
        refine A_iconst d_123_100 (by decide) ?_
        refine A_iload d_123_101 rfl ?_
        refine A_ishl d_123_103 ?_
        refine A_ior d_123_104 ?_
        refine A_istore_n d_123_105 rfl ?_
        exact rfl
set_option maxRecDepth 20000 in
theorem q_Tb_might_106 (a0 : Nat) (x1 : Int) (x2 : Int) (x3 : Int) (x4 : Int) (h : mH) : B_Tb_might_106 a0 x1 x2 x3 x4 h =
  B_Tb_might_41 a0 x1 x2 x3 (w32 (x4 + 1)) h := by
  unfold B_Tb_might_106
  refine A_iinc d_123_106 (by decide) rfl rfl ?_
  refine A_goto (t := 41) d_123_109 (by decide) ?_
  exact rfl
set_option maxRecDepth 20000 in
theorem q_Tb_might (a0 : Nat) (x1 : Int) (x2 : Int) (h : mH) (ho : isO h a0 5 = true) : F_Tb_might a0 x1 x2 h =
  (gfd 5 1 h a0).bind fun v1 =>
  (F_Pg_hasLabel v1.toNat x1 h).bind fun q5 =>
  if q5.1 = 0 then
    (some ((-1), q5.2))
  else
    (if x2 < 0 then
      (some ((-1), q5.2))
    else
      (if x2 < 4 then
        ((gfd 5 2 q5.2 a0).bind fun v25 =>
        (gfd 5 1 q5.2 a0).bind fun v29 =>
        (gfd 2 0 q5.2 v29.toNat).bind fun v32 =>
        (F_Pg_copyFrom v25.toNat v32.toNat q5.2).bind fun h35 =>
        B_Tb_might_41 a0 x1 x2 0 0 h35)
      else
        (some ((-1), q5.2)))) := by
  refine (congrArg asI (if_pos ho)).trans ?_
  show asI (Lim 123 0 [some (.inr (.inr a0)), some (.inl x1), some (.inl x2), none, none] [] h) = _
  refine A_aload_n d_123_0 rfl ?_
  refine A_getfA rfl d_123_1 kF_5_19 (fun v1 => ?_)
  refine A_iload_n d_123_4 rfl ?_
  refine A_call (t := 56) (way := 0) rfl d_123_5 rfl (cl kI_5_106 rfl) rfl (by decide) rfl (fun q5 => ?_)
  refine A_eq0 (t := 20) d_123_8 (by decide) ?_ ?_
  · refine A_iconst d_123_20 (by decide) ?_
    exact A_ireti rfl d_123_21
  · refine A_iload_n d_123_11 rfl ?_
    refine A_lt0 (t := 20) d_123_12 (by decide) ?_ ?_
    · refine A_iconst d_123_20 (by decide) ?_
      exact A_ireti rfl d_123_21
    · refine A_iload_n d_123_15 rfl ?_
      refine A_iconst d_123_16 (by decide) ?_
      refine A_lt (t := 22) d_123_17 (by decide) ?_ ?_
      · refine A_iconst d_123_22 (by decide) ?_
        refine A_istore_n d_123_23 rfl ?_
        refine A_aload_n d_123_24 rfl ?_
        refine A_getfA rfl d_123_25 kF_5_23 (fun v25 => ?_)
        refine A_aload_n d_123_28 rfl ?_
        refine A_getfA rfl d_123_29 kF_5_19 (fun v29 => ?_)
        refine A_getfA rfl d_123_32 kF_5_74 (fun v32 => ?_)
        refine A_callU (t := 50) (way := 0) rfl d_123_35 rfl (cl kI_5_78 rfl) rfl rfl rfl (fun h35 => ?_)
        refine A_iconst d_123_38 (by decide) ?_
        refine A_istore d_123_39 rfl ?_
        exact rfl
      · refine A_iconst d_123_20 (by decide) ?_
        exact A_ireti rfl d_123_21
set_option maxRecDepth 20000 in
theorem q_Tb_reached_4 (a0 : Nat) (x1 : Int) (x2 : Int) (o3 : Option mV) (h : mH) : B_Tb_reached_4 a0 x1 x2 o3 h =
  if 4 < x2 then
    (some (x1, h))
  else
    (B_Tb_reached_11 a0 x1 x2 0 h) := by
  unfold B_Tb_reached_4
  refine A_iload_n d_124_4 rfl ?_
  refine A_iconst d_124_5 (by decide) ?_
  refine A_gt (t := 54) d_124_6 (by decide) ?_ ?_
  · refine A_iload_n d_124_54 rfl ?_
    exact A_ireti rfl d_124_55
  · refine A_iconst d_124_9 (by decide) ?_
    refine A_istore_n d_124_10 rfl ?_
    exact rfl
set_option maxRecDepth 20000 in
theorem q_Tb_reached_11 (a0 : Nat) (x1 : Int) (x2 : Int) (x3 : Int) (h : mH) : B_Tb_reached_11 a0 x1 x2 x3 h =
  (gfd 5 1 h a0).bind fun v13 =>
  (F_Pg_labels v13.toNat h).bind fun q16 =>
  if q16.1 ≤ x3 then
    (B_Tb_reached_4 a0 x1 (w32 (x2 + 1)) (some (.inl x3)) q16.2)
  else
    (if iand (ishr x1 x3) 1 ≠ 1 then
      (B_Tb_reached_42 a0 x1 x2 x3 q16.2)
    else
      ((gfd 5 1 q16.2 a0).bind fun v33 =>
      (F_Pg_targets v33.toNat x3 q16.2).bind fun q37 =>
      B_Tb_reached_42 a0 (ior x1 q37.1) x2 x3 q37.2)) := by
  unfold B_Tb_reached_11
  refine A_iload_n d_124_11 rfl ?_
  refine A_aload_n d_124_12 rfl ?_
  refine A_getfA rfl d_124_13 kF_5_19 (fun v13 => ?_)
  refine A_call (t := 53) (way := 0) rfl d_124_16 rfl (cl kI_5_92 rfl) rfl (by decide) rfl (fun q16 => ?_)
  refine A_ge (t := 48) d_124_19 (by decide) ?_ ?_
  · refine A_iinc d_124_48 (by decide) rfl rfl ?_
    refine A_goto (t := 4) d_124_51 (by decide) ?_
    exact rfl
  · refine A_iload_n d_124_22 rfl ?_
    refine A_iload_n d_124_23 rfl ?_
    refine A_ishr d_124_24 ?_
    refine A_iconst d_124_25 (by decide) ?_
    refine A_iand d_124_26 ?_
    refine A_iconst d_124_27 (by decide) ?_
    refine A_ne (t := 42) d_124_28 (by decide) ?_ ?_
    · exact rfl
    · refine A_iload_n d_124_31 rfl ?_
      refine A_aload_n d_124_32 rfl ?_
      refine A_getfA rfl d_124_33 kF_5_19 (fun v33 => ?_)
      refine A_iload_n d_124_36 rfl ?_
      refine A_call (t := 83) (way := 0) rfl d_124_37 rfl (cl kI_5_200 rfl) rfl (by decide) rfl (fun q37 => ?_)
      refine A_ior d_124_40 ?_
      refine A_istore_n d_124_41 rfl ?_
      exact rfl
set_option maxRecDepth 20000 in
theorem q_Tb_reached_42 (a0 : Nat) (x1 : Int) (x2 : Int) (x3 : Int) (h : mH) : B_Tb_reached_42 a0 x1 x2 x3 h =
  B_Tb_reached_11 a0 x1 x2 (w32 (x3 + 1)) h := by
  unfold B_Tb_reached_42
  refine A_iinc d_124_42 (by decide) rfl rfl ?_
  refine A_goto (t := 11) d_124_45 (by decide) ?_
  exact rfl
set_option maxRecDepth 20000 in
theorem q_Tb_reached (a0 : Nat) (h : mH) (ho : isO h a0 5 = true) : F_Tb_reached a0 h =
  B_Tb_reached_4 a0 1 0 none h := by
  refine (congrArg asI (if_pos ho)).trans ?_
  show asI (Lim 124 0 [some (.inr (.inr a0)), none, none, none] [] h) = _
  refine A_iconst d_124_0 (by decide) ?_
  refine A_istore_n d_124_1 rfl ?_
  refine A_iconst d_124_2 (by decide) ?_
  refine A_istore_n d_124_3 rfl ?_
  exact rfl
set_option maxRecDepth 20000 in
theorem q_Tb_mends_104 (a0 : Nat) (x1 : Int) (x2 : Int) (x3 : Int) (x4 : Int) (x5 : Int) (h : mH) : B_Tb_mends_104 a0 x1 x2 x3 x4 x5 h =
  if 896 ≤ x5 then
    (if x2 ≠ 0 then
      (some ((-4), h))
    else
      (some (x4, h)))
  else
    ((F_Tb_mendsBy a0 x1 x3 x5 h).bind fun q117 =>
    if q117.1 = 0 then
      (B_Tb_mends_134 a0 x1 x2 x3 x4 x5 q117.2)
    else
      (if x2 ≠ 1 then
        (B_Tb_mends_134 a0 x1 x2 x3 (w32 (x4 + 1)) x5 q117.2)
      else
        (some (x5, q117.2)))) := by
  unfold B_Tb_mends_104
  refine A_iload d_125_104 rfl ?_
  refine A_sipush d_125_106 (by decide) ?_
  refine A_ge (t := 140) d_125_109 (by decide) ?_ ?_
  · refine A_iload_n d_125_140 rfl ?_
    refine A_ne0 (t := 149) d_125_141 (by decide) ?_ ?_
    · refine A_bipush d_125_149 (by decide) ?_
      exact A_ireti rfl d_125_151
    · refine A_iload d_125_144 rfl ?_
      refine A_goto (t := 151) d_125_146 (by decide) ?_
      exact A_ireti rfl d_125_151
  · refine A_aload_n d_125_112 rfl ?_
    refine A_iload_n d_125_113 rfl ?_
    refine A_iload_n d_125_114 rfl ?_
    refine A_iload d_125_115 rfl ?_
    refine A_call (t := 126) (way := 0) rfl d_125_117 rfl (cl kI_5_203 rfl) rfl (by decide) rfl (fun q117 => ?_)
    refine A_eq0 (t := 134) d_125_120 (by decide) ?_ ?_
    · exact rfl
    · refine A_iload_n d_125_123 rfl ?_
      refine A_iconst d_125_124 (by decide) ?_
      refine A_ne (t := 131) d_125_125 (by decide) ?_ ?_
      · refine A_iinc d_125_131 (by decide) rfl rfl ?_
        exact rfl
      · refine A_iload d_125_128 rfl ?_
        exact A_ireti rfl d_125_130
set_option maxRecDepth 20000 in
theorem q_Tb_mends_134 (a0 : Nat) (x1 : Int) (x2 : Int) (x3 : Int) (x4 : Int) (x5 : Int) (h : mH) : B_Tb_mends_134 a0 x1 x2 x3 x4 x5 h =
  B_Tb_mends_104 a0 x1 x2 x3 x4 (w32 (x5 + 1)) h := by
  unfold B_Tb_mends_134
  refine A_iinc d_125_134 (by decide) rfl rfl ?_
  refine A_goto (t := 104) d_125_137 (by decide) ?_
  exact rfl
set_option maxRecDepth 20000 in
theorem q_Tb_mends (a0 : Nat) (x1 : Int) (x2 : Int) (h : mH) (ho : isO h a0 5 = true) : F_Tb_mends a0 x1 x2 h =
  (gfd 5 1 h a0).bind fun v1 =>
  (F_Pg_hasLabel v1.toNat x1 h).bind fun q5 =>
  if q5.1 = 0 then
    (some ((-1), q5.2))
  else
    (if x2 < 0 then
      (some ((-1), q5.2))
    else
      (if x2 ≤ 1 then
        ((gfd 5 3 q5.2 a0).bind fun v23 =>
        (gfd 5 1 q5.2 a0).bind fun v27 =>
        (F_Ck_take v23.toNat v27.toNat q5.2).bind fun h30 =>
        (gfd 5 3 h30 a0).bind fun v34 =>
        (F_Ck_isSure v34.toNat x1 h30).bind fun q38 =>
        if q38.1 ≠ 0 then
          (some ((-2), q38.2))
        else
          ((gfd 5 3 q38.2 a0).bind fun v45 =>
          (gfd 0 8 q38.2 v45.toNat).bind fun v48 =>
          (gfd 5 1 q38.2 a0).bind fun v52 =>
          (F_Pg_size v52.toNat x1 q38.2).bind fun q56 =>
          if v48 < q56.1 then
            ((gfd 5 3 q56.2 a0).bind fun v66 =>
            (gfd 0 8 q56.2 v66.toNat).bind fun v69 =>
            (gfd 5 2 q56.2 a0).bind fun v77 =>
            (gfd 5 1 q56.2 a0).bind fun v81 =>
            (gfd 2 0 q56.2 v81.toNat).bind fun v84 =>
            (F_Pg_copyFrom v77.toNat v84.toNat q56.2).bind fun h87 =>
            (gfd 5 3 h87 a0).bind fun v91 =>
            (gfd 5 2 h87 a0).bind fun v95 =>
            (F_Ck_take v91.toNat v95.toNat h87).bind fun h98 =>
            B_Tb_mends_104 a0 x1 x2 v69 0 0 h98)
          else
            (some ((-2), q56.2))))
      else
        (some ((-1), q5.2)))) := by
  refine (congrArg asI (if_pos ho)).trans ?_
  show asI (Lim 125 0 [some (.inr (.inr a0)), some (.inl x1), some (.inl x2), none, none, none] [] h) = _
  refine A_aload_n d_125_0 rfl ?_
  refine A_getfA rfl d_125_1 kF_5_19 (fun v1 => ?_)
  refine A_iload_n d_125_4 rfl ?_
  refine A_call (t := 56) (way := 0) rfl d_125_5 rfl (cl kI_5_106 rfl) rfl (by decide) rfl (fun q5 => ?_)
  refine A_eq0 (t := 20) d_125_8 (by decide) ?_ ?_
  · refine A_iconst d_125_20 (by decide) ?_
    exact A_ireti rfl d_125_21
  · refine A_iload_n d_125_11 rfl ?_
    refine A_lt0 (t := 20) d_125_12 (by decide) ?_ ?_
    · refine A_iconst d_125_20 (by decide) ?_
      exact A_ireti rfl d_125_21
    · refine A_iload_n d_125_15 rfl ?_
      refine A_iconst d_125_16 (by decide) ?_
      refine A_le (t := 22) d_125_17 (by decide) ?_ ?_
      · refine A_aload_n d_125_22 rfl ?_
        refine A_getfA rfl d_125_23 kF_5_29 (fun v23 => ?_)
        refine A_aload_n d_125_26 rfl ?_
        refine A_getfA rfl d_125_27 kF_5_19 (fun v27 => ?_)
        refine A_callU (t := 1) (way := 0) rfl d_125_30 rfl (cl kI_5_167 rfl) rfl rfl rfl (fun h30 => ?_)
        refine A_aload_n d_125_33 rfl ?_
        refine A_getfA rfl d_125_34 kF_5_29 (fun v34 => ?_)
        refine A_iload_n d_125_37 rfl ?_
        refine A_call (t := 12) (way := 0) rfl d_125_38 rfl (cl kI_5_170 rfl) rfl (by decide) rfl (fun q38 => ?_)
        refine A_ne0 (t := 62) d_125_41 (by decide) ?_ ?_
        · refine A_bipush d_125_62 (by decide) ?_
          exact A_ireti rfl d_125_64
        · refine A_aload_n d_125_44 rfl ?_
          refine A_getfA rfl d_125_45 kF_5_29 (fun v45 => ?_)
          refine A_getfI rfl d_125_48 kF_5_173 (by decide) (fun v48 => ?_)
          refine A_aload_n d_125_51 rfl ?_
          refine A_getfA rfl d_125_52 kF_5_19 (fun v52 => ?_)
          refine A_iload_n d_125_55 rfl ?_
          refine A_call (t := 73) (way := 0) rfl d_125_56 rfl (cl kI_5_134 rfl) rfl (by decide) rfl (fun q56 => ?_)
          refine A_lt (t := 65) d_125_59 (by decide) ?_ ?_
          · refine A_aload_n d_125_65 rfl ?_
            refine A_getfA rfl d_125_66 kF_5_29 (fun v66 => ?_)
            refine A_getfI rfl d_125_69 kF_5_173 (by decide) (fun v69 => ?_)
            refine A_istore_n d_125_72 rfl ?_
            refine A_iconst d_125_73 (by decide) ?_
            refine A_istore d_125_74 rfl ?_
            refine A_aload_n d_125_76 rfl ?_
            refine A_getfA rfl d_125_77 kF_5_23 (fun v77 => ?_)
            refine A_aload_n d_125_80 rfl ?_
            refine A_getfA rfl d_125_81 kF_5_19 (fun v81 => ?_)
            refine A_getfA rfl d_125_84 kF_5_74 (fun v84 => ?_)
            refine A_callU (t := 50) (way := 0) rfl d_125_87 rfl (cl kI_5_78 rfl) rfl rfl rfl (fun h87 => ?_)
            refine A_aload_n d_125_90 rfl ?_
            refine A_getfA rfl d_125_91 kF_5_29 (fun v91 => ?_)
            refine A_aload_n d_125_94 rfl ?_
            refine A_getfA rfl d_125_95 kF_5_23 (fun v95 => ?_)
            refine A_callU (t := 1) (way := 0) rfl d_125_98 rfl (cl kI_5_167 rfl) rfl rfl rfl (fun h98 => ?_)
            refine A_iconst d_125_101 (by decide) ?_
            refine A_istore d_125_102 rfl ?_
            exact rfl
          · refine A_bipush d_125_62 (by decide) ?_
            exact A_ireti rfl d_125_64
      · refine A_iconst d_125_20 (by decide) ?_
        exact A_ireti rfl d_125_21
set_option maxRecDepth 20000 in
theorem q_Tb_mendsBy_36 (a0 : Nat) (x1 : Int) (x2 : Int) (x3 : Int) (x4 : Int) (x5 : Int) (x6 : Int) (x7 : Int) (h : mH) : B_Tb_mendsBy_36 a0 x1 x2 x3 x4 x5 x6 x7 h =
  (gfd 5 2 h a0).bind fun v37 =>
  (F_Pg_allows v37.toNat x4 x5 x6 x7 h).bind fun q48 =>
  if q48.1 ≠ 0 then
    ((gfd 5 2 q48.2 a0).bind fun v57 =>
    (F_Pg_setInstruction v57.toNat x1 x2 x4 x5 x6 x7 q48.2).bind fun h70 =>
    (gfd 5 3 h70 a0).bind fun v74 =>
    (F_Ck_isSure v74.toNat x1 h70).bind fun q78 =>
    rz q78.1 q78.2)
  else
    (some (0, q48.2)) := by
  unfold B_Tb_mendsBy_36
  refine A_aload_n d_126_36 rfl ?_
  refine A_getfA rfl d_126_37 kF_5_23 (fun v37 => ?_)
  refine A_iload d_126_40 rfl ?_
  refine A_iload d_126_42 rfl ?_
  refine A_iload d_126_44 rfl ?_
  refine A_iload d_126_46 rfl ?_
  refine A_call (t := 79) (way := 0) rfl d_126_48 rfl (cl kI_5_123 rfl) rfl (by decide) rfl (fun q48 => ?_)
  refine A_ne0 (t := 56) d_126_51 (by decide) ?_ ?_
  · refine A_aload_n d_126_56 rfl ?_
    refine A_getfA rfl d_126_57 kF_5_23 (fun v57 => ?_)
    refine A_iload_n d_126_60 rfl ?_
    refine A_iload_n d_126_61 rfl ?_
    refine A_iload d_126_62 rfl ?_
    refine A_iload d_126_64 rfl ?_
    refine A_iload d_126_66 rfl ?_
    refine A_iload d_126_68 rfl ?_
    refine A_callU (t := 75) (way := 0) rfl d_126_70 rfl (cl kI_5_130 rfl) rfl rfl rfl (fun h70 => ?_)
    refine A_aload_n d_126_73 rfl ?_
    refine A_getfA rfl d_126_74 kF_5_29 (fun v74 => ?_)
    refine A_iload_n d_126_77 rfl ?_
    refine A_call (t := 12) (way := 0) rfl d_126_78 rfl (cl kI_5_170 rfl) rfl (by decide) rfl (fun q78 => ?_)
    exact A_iretb rfl d_126_81
  · refine A_iconst d_126_54 (by decide) ?_
    exact A_iretz rfl d_126_55 (by decide)
set_option maxRecDepth 20000 in
theorem q_Tb_mendsBy (a0 : Nat) (x1 : Int) (x2 : Int) (x3 : Int) (h : mH) (ho : isO h a0 5 = true) : F_Tb_mendsBy a0 x1 x2 x3 h =
  if ishr x3 6 ≠ 1 then
    (B_Tb_mendsBy_36 a0 x1 x2 x3 (ishr x3 6) (iand (ishr x3 4) 3) (iand (ishr x3 2) 3) (iand x3 3) h)
  else
    (if iand (ishr x3 2) 3 ≠ 0 then
      (some (0, h))
    else
      (B_Tb_mendsBy_36 a0 x1 x2 x3 (ishr x3 6) (iand (ishr x3 4) 3) (iand (ishr x3 2) 3) (iand x3 3) h)) := by
  refine (congrArg asI (if_pos ho)).trans ?_
  show asI (Lim 126 0 [some (.inr (.inr a0)), some (.inl x1), some (.inl x2), some (.inl x3), none, none, none, none] [] h) = _
  refine A_iload_n d_126_0 rfl ?_
  refine A_bipush d_126_1 (by decide) ?_
  refine A_ishr d_126_3 ?_
  refine A_istore d_126_4 rfl ?_
  refine A_iload_n d_126_6 rfl ?_
  refine A_iconst d_126_7 (by decide) ?_
  refine A_ishr d_126_8 ?_
  refine A_iconst d_126_9 (by decide) ?_
  refine A_iand d_126_10 ?_
  refine A_istore d_126_11 rfl ?_
  refine A_iload_n d_126_13 rfl ?_
  refine A_iconst d_126_14 (by decide) ?_
  refine A_ishr d_126_15 ?_
  refine A_iconst d_126_16 (by decide) ?_
  refine A_iand d_126_17 ?_
  refine A_istore d_126_18 rfl ?_
  refine A_iload_n d_126_20 rfl ?_
  refine A_iconst d_126_21 (by decide) ?_
  refine A_iand d_126_22 ?_
  refine A_istore d_126_23 rfl ?_
  refine A_iload d_126_25 rfl ?_
  refine A_iconst d_126_27 (by decide) ?_
  refine A_ne (t := 36) d_126_28 (by decide) ?_ ?_
  · exact rfl
  · refine A_iload d_126_31 rfl ?_
    refine A_ne0 (t := 54) d_126_33 (by decide) ?_ ?_
    · refine A_iconst d_126_54 (by decide) ?_
      exact A_iretz rfl d_126_55 (by decide)
    · exact rfl
set_option maxRecDepth 20000 in
theorem q_Tb_run (a0 : Nat) (x1 : Int) (x2 : Int) (x3 : Int) (h : mH) (ho : isO h a0 5 = true) : F_Tb_run a0 x1 x2 x3 h =
  if x1 < 0 then
    (some ((-1), h))
  else
    (if 99 < x1 then
      (some ((-1), h))
    else
      (if x2 < 0 then
        (some ((-1), h))
      else
        (if 200 < x2 then
          (some ((-1), h))
        else
          (if x3 < 0 then
            (some ((-1), h))
          else
            (if x3 ≤ 4 then
              ((gfd 5 4 h a0).bind fun v33 =>
              (gfd 5 1 h a0).bind fun v37 =>
              (F_Mc_begin v33.toNat v37.toNat x1 h).bind fun h41 =>
              (gfd 5 4 h41 a0).bind fun v45 =>
              (F_Mc_goOn v45.toNat x2 h41).bind fun h49 =>
              if x3 = 0 then
                ((gfd 5 4 h49 a0).bind fun v85 =>
                (gfd 1 10 h49 v85.toNat).bind fun v88 =>
                some (v88, h49))
              else if x3 = 1 then
                ((gfd 5 4 h49 a0).bind fun v93 =>
                (gfd 1 9 h49 v93.toNat).bind fun v96 =>
                some (v96, h49))
              else if x3 = 2 then
                ((gfd 5 4 h49 a0).bind fun v101 =>
                (gfd 1 7 h49 v101.toNat).bind fun v104 =>
                some (v104, h49))
              else if x3 = 3 then
                ((gfd 5 4 h49 a0).bind fun v109 =>
                (gfd 1 8 h49 v109.toNat).bind fun v112 =>
                some (v112, h49))
              else ((gfd 5 4 h49 a0).bind fun v117 =>
                (F_Mc_register v117.toNat 0 h49).bind fun q121 =>
                (F_Mc_isWord q121.1 q121.2).bind fun q124 =>
                if q124.1 = 0 then
                  (some ((-4), q124.2))
                else
                  ((gfd 5 4 q124.2 a0).bind fun v131 =>
                  (F_Mc_register v131.toNat 0 q124.2).bind fun q135 =>
                  some (q135.1, q135.2))))
            else
              (some ((-1), h))))))) := by
  refine (congrArg asI (if_pos ho)).trans ?_
  show asI (Lim 127 0 [some (.inr (.inr a0)), some (.inl x1), some (.inl x2), some (.inl x3)] [] h) = _
  refine A_iload_n d_127_0 rfl ?_
  refine A_lt0 (t := 30) d_127_1 (by decide) ?_ ?_
  · refine A_iconst d_127_30 (by decide) ?_
    exact A_ireti rfl d_127_31
  · refine A_iload_n d_127_4 rfl ?_
    refine A_bipush d_127_5 (by decide) ?_
    refine A_gt (t := 30) d_127_7 (by decide) ?_ ?_
    · refine A_iconst d_127_30 (by decide) ?_
      exact A_ireti rfl d_127_31
    · refine A_iload_n d_127_10 rfl ?_
      refine A_lt0 (t := 30) d_127_11 (by decide) ?_ ?_
      · refine A_iconst d_127_30 (by decide) ?_
        exact A_ireti rfl d_127_31
      · refine A_iload_n d_127_14 rfl ?_
        refine A_sipush d_127_15 (by decide) ?_
        refine A_gt (t := 30) d_127_18 (by decide) ?_ ?_
        · refine A_iconst d_127_30 (by decide) ?_
          exact A_ireti rfl d_127_31
        · refine A_iload_n d_127_21 rfl ?_
          refine A_lt0 (t := 30) d_127_22 (by decide) ?_ ?_
          · refine A_iconst d_127_30 (by decide) ?_
            exact A_ireti rfl d_127_31
          · refine A_iload_n d_127_25 rfl ?_
            refine A_iconst d_127_26 (by decide) ?_
            refine A_le (t := 32) d_127_27 (by decide) ?_ ?_
            · refine A_aload_n d_127_32 rfl ?_
              refine A_getfA rfl d_127_33 kF_5_36 (fun v33 => ?_)
              refine A_aload_n d_127_36 rfl ?_
              refine A_getfA rfl d_127_37 kF_5_19 (fun v37 => ?_)
              refine A_iload_n d_127_40 rfl ?_
              refine A_callU (t := 27) (way := 0) rfl d_127_41 rfl (cl kI_5_207 rfl) rfl rfl rfl (fun h41 => ?_)
              refine A_aload_n d_127_44 rfl ?_
              refine A_getfA rfl d_127_45 kF_5_36 (fun v45 => ?_)
              refine A_iload_n d_127_48 rfl ?_
              refine A_callU (t := 30) (way := 0) rfl d_127_49 rfl (cl kI_5_211 rfl) rfl rfl rfl (fun h49 => ?_)
              refine A_iload_n d_127_52 rfl ?_
              refine A_if (fun e53_0 => ?_) (fun e53_0 => ?_)
              · refine A_tab (t := 84) d_127_53 (by rw [e53_0]; decide) ?_
                refine A_aload_n d_127_84 rfl ?_
                refine A_getfA rfl d_127_85 kF_5_36 (fun v85 => ?_)
                refine A_getfI rfl d_127_88 kF_5_214 (by decide) (fun v88 => ?_)
                exact A_ireti rfl d_127_91
              refine A_if (fun e53_1 => ?_) (fun e53_1 => ?_)
              · refine A_tab (t := 92) d_127_53 (by rw [e53_1]; decide) ?_
                refine A_aload_n d_127_92 rfl ?_
                refine A_getfA rfl d_127_93 kF_5_36 (fun v93 => ?_)
                refine A_getfI rfl d_127_96 kF_5_217 (by decide) (fun v96 => ?_)
                exact A_ireti rfl d_127_99
              refine A_if (fun e53_2 => ?_) (fun e53_2 => ?_)
              · refine A_tab (t := 100) d_127_53 (by rw [e53_2]; decide) ?_
                refine A_aload_n d_127_100 rfl ?_
                refine A_getfA rfl d_127_101 kF_5_36 (fun v101 => ?_)
                refine A_getfI rfl d_127_104 kF_5_220 (by decide) (fun v104 => ?_)
                exact A_ireti rfl d_127_107
              refine A_if (fun e53_3 => ?_) (fun e53_3 => ?_)
              · refine A_tab (t := 108) d_127_53 (by rw [e53_3]; decide) ?_
                refine A_aload_n d_127_108 rfl ?_
                refine A_getfA rfl d_127_109 kF_5_36 (fun v109 => ?_)
                refine A_getfI rfl d_127_112 kF_5_223 (by decide) (fun v112 => ?_)
                exact A_ireti rfl d_127_115
              refine A_tab (t := 116) d_127_53 (by rw [if_pos (by omega)]; decide) ?_
              refine A_aload_n d_127_116 rfl ?_
              refine A_getfA rfl d_127_117 kF_5_36 (fun v117 => ?_)
              refine A_iconst d_127_120 (by decide) ?_
              refine A_call (t := 32) (way := 0) rfl d_127_121 rfl (cl kI_5_224 rfl) rfl (by decide) rfl (fun q121 => ?_)
              refine A_call (t := 33) (way := 2) rfl d_127_124 rfl (cl kI_5_225 rfl) rfl (by decide) rfl (fun q124 => ?_)
              refine A_eq0 (t := 141) d_127_127 (by decide) ?_ ?_
              · refine A_bipush d_127_141 (by decide) ?_
                exact A_ireti rfl d_127_143
              · refine A_aload_n d_127_130 rfl ?_
                refine A_getfA rfl d_127_131 kF_5_36 (fun v131 => ?_)
                refine A_iconst d_127_134 (by decide) ?_
                refine A_call (t := 32) (way := 0) rfl d_127_135 rfl (cl kI_5_224 rfl) rfl (by decide) rfl (fun q135 => ?_)
                refine A_goto (t := 143) d_127_138 (by decide) ?_
                exact A_ireti rfl d_127_143
            · refine A_iconst d_127_30 (by decide) ?_
              exact A_ireti rfl d_127_31
set_option maxRecDepth 20000 in
theorem q_Tb_day_67 (a0 : Nat) (x1 : Int) (x2 : Int) (x3 : Int) (x4 : Int) (x5 : Int) (x6 : Int) (h : mH) : B_Tb_day_67 a0 x1 x2 x3 x4 x5 x6 h =
  if x2 ≤ x6 then
    (if x3 ≠ 0 then
      (some (x5, h))
    else
      ((F_Ig_bitCount x4 h).bind fun q119 =>
      some (q119.1, q119.2)))
  else
    ((F_Tb_drawn x1 x6 h).bind fun q77 =>
    (F_Tb_change a0 q77.1 q77.2).bind fun h80 =>
    (gfd 5 3 h80 a0).bind fun v84 =>
    (F_Ck_sureBits v84.toNat h80).bind fun q87 =>
    (gfd 5 2 q87.2 a0).bind fun v95 =>
    (F_Pg_allLabels v95.toNat q87.2).bind fun q98 =>
    if q87.1 ≠ q98.1 then
      (B_Tb_day_107 a0 x1 x2 x3 q87.1 x5 x6 q98.2)
    else
      (B_Tb_day_107 a0 x1 x2 x3 q87.1 (w32 (x5 + 1)) x6 q98.2)) := by
  unfold B_Tb_day_67
  refine A_iload d_128_67 rfl ?_
  refine A_iload_n d_128_69 rfl ?_
  refine A_ge (t := 113) d_128_70 (by decide) ?_ ?_
  · refine A_iload_n d_128_113 rfl ?_
    refine A_ne0 (t := 125) d_128_114 (by decide) ?_ ?_
    · refine A_iload d_128_125 rfl ?_
      exact A_ireti rfl d_128_127
    · refine A_iload d_128_117 rfl ?_
      refine A_call (t := 222) (way := 2) rfl d_128_119 rfl (cl kI_5_234 rfl) rfl (by decide) rfl (fun q119 => ?_)
      refine A_goto (t := 127) d_128_122 (by decide) ?_
      exact A_ireti rfl d_128_127
  · refine A_aload_n d_128_73 rfl ?_
    refine A_iload_n d_128_74 rfl ?_
    refine A_iload d_128_75 rfl ?_
    refine A_call (t := 129) (way := 2) rfl d_128_77 rfl (cl kI_5_228 rfl) rfl (by decide) rfl (fun q77 => ?_)
    refine A_callU (t := 130) (way := 0) rfl d_128_80 rfl (cl kI_5_231 rfl) rfl rfl rfl (fun h80 => ?_)
    refine A_aload_n d_128_83 rfl ?_
    refine A_getfA rfl d_128_84 kF_5_29 (fun v84 => ?_)
    refine A_call (t := 13) (way := 0) rfl d_128_87 rfl (cl kI_5_191 rfl) rfl (by decide) rfl (fun q87 => ?_)
    refine A_istore d_128_90 rfl ?_
    refine A_iload d_128_92 rfl ?_
    refine A_aload_n d_128_94 rfl ?_
    refine A_getfA rfl d_128_95 kF_5_23 (fun v95 => ?_)
    refine A_call (t := 54) (way := 0) rfl d_128_98 rfl (cl kI_5_197 rfl) rfl (by decide) rfl (fun q98 => ?_)
    refine A_ne (t := 107) d_128_101 (by decide) ?_ ?_
    · exact rfl
    · refine A_iinc d_128_104 (by decide) rfl rfl ?_
      exact rfl
set_option maxRecDepth 20000 in
theorem q_Tb_day_107 (a0 : Nat) (x1 : Int) (x2 : Int) (x3 : Int) (x4 : Int) (x5 : Int) (x6 : Int) (h : mH) : B_Tb_day_107 a0 x1 x2 x3 x4 x5 x6 h =
  B_Tb_day_67 a0 x1 x2 x3 x4 x5 (w32 (x6 + 1)) h := by
  unfold B_Tb_day_107
  refine A_iinc d_128_107 (by decide) rfl rfl ?_
  refine A_goto (t := 67) d_128_110 (by decide) ?_
  exact rfl
set_option maxRecDepth 20000 in
theorem q_Tb_day (a0 : Nat) (x1 : Int) (x2 : Int) (x3 : Int) (h : mH) (ho : isO h a0 5 = true) : F_Tb_day a0 x1 x2 x3 h =
  if x1 < 0 then
    (some ((-1), h))
  else
    (if 9999 < x1 then
      (some ((-1), h))
    else
      (if x2 < 1 then
        (some ((-1), h))
      else
        (if 20 < x2 then
          (some ((-1), h))
        else
          (if x3 < 0 then
            (some ((-1), h))
          else
            (if x3 ≤ 1 then
              ((gfd 5 2 h a0).bind fun v34 =>
              (gfd 5 1 h a0).bind fun v38 =>
              (gfd 2 0 h v38.toNat).bind fun v41 =>
              (F_Pg_copyFrom v34.toNat v41.toNat h).bind fun h44 =>
              (gfd 5 3 h44 a0).bind fun v48 =>
              (gfd 5 2 h44 a0).bind fun v52 =>
              (F_Ck_take v48.toNat v52.toNat h44).bind fun h55 =>
              B_Tb_day_67 a0 x1 x2 x3 0 0 0 h55)
            else
              (some ((-1), h))))))) := by
  refine (congrArg asI (if_pos ho)).trans ?_
  show asI (Lim 128 0 [some (.inr (.inr a0)), some (.inl x1), some (.inl x2), some (.inl x3), none, none, none] [] h) = _
  refine A_iload_n d_128_0 rfl ?_
  refine A_lt0 (t := 31) d_128_1 (by decide) ?_ ?_
  · refine A_iconst d_128_31 (by decide) ?_
    exact A_ireti rfl d_128_32
  · refine A_iload_n d_128_4 rfl ?_
    refine A_sipush d_128_5 (by decide) ?_
    refine A_gt (t := 31) d_128_8 (by decide) ?_ ?_
    · refine A_iconst d_128_31 (by decide) ?_
      exact A_ireti rfl d_128_32
    · refine A_iload_n d_128_11 rfl ?_
      refine A_iconst d_128_12 (by decide) ?_
      refine A_lt (t := 31) d_128_13 (by decide) ?_ ?_
      · refine A_iconst d_128_31 (by decide) ?_
        exact A_ireti rfl d_128_32
      · refine A_iload_n d_128_16 rfl ?_
        refine A_bipush d_128_17 (by decide) ?_
        refine A_gt (t := 31) d_128_19 (by decide) ?_ ?_
        · refine A_iconst d_128_31 (by decide) ?_
          exact A_ireti rfl d_128_32
        · refine A_iload_n d_128_22 rfl ?_
          refine A_lt0 (t := 31) d_128_23 (by decide) ?_ ?_
          · refine A_iconst d_128_31 (by decide) ?_
            exact A_ireti rfl d_128_32
          · refine A_iload_n d_128_26 rfl ?_
            refine A_iconst d_128_27 (by decide) ?_
            refine A_le (t := 33) d_128_28 (by decide) ?_ ?_
            · refine A_aload_n d_128_33 rfl ?_
              refine A_getfA rfl d_128_34 kF_5_23 (fun v34 => ?_)
              refine A_aload_n d_128_37 rfl ?_
              refine A_getfA rfl d_128_38 kF_5_19 (fun v38 => ?_)
              refine A_getfA rfl d_128_41 kF_5_74 (fun v41 => ?_)
              refine A_callU (t := 50) (way := 0) rfl d_128_44 rfl (cl kI_5_78 rfl) rfl rfl rfl (fun h44 => ?_)
              refine A_aload_n d_128_47 rfl ?_
              refine A_getfA rfl d_128_48 kF_5_29 (fun v48 => ?_)
              refine A_aload_n d_128_51 rfl ?_
              refine A_getfA rfl d_128_52 kF_5_23 (fun v52 => ?_)
              refine A_callU (t := 1) (way := 0) rfl d_128_55 rfl (cl kI_5_167 rfl) rfl rfl rfl (fun h55 => ?_)
              refine A_iconst d_128_58 (by decide) ?_
              refine A_istore d_128_59 rfl ?_
              refine A_iconst d_128_61 (by decide) ?_
              refine A_istore d_128_62 rfl ?_
              refine A_iconst d_128_64 (by decide) ?_
              refine A_istore d_128_65 rfl ?_
              exact rfl
            · refine A_iconst d_128_31 (by decide) ?_
              exact A_ireti rfl d_128_32
set_option maxRecDepth 20000 in
theorem q_Tb_drawn (x0 : Int) (x1 : Int) (h : mH) : F_Tb_drawn x0 x1 h =
  some (w32 (Int.tmod (w64 ((w64 ((w64 ((w64 (7919 * x0)) + (w64 (6151 * x1)))) + 1)) * (w64 ((w64 ((w64 (7919 * x0)) + (w64 (6151 * x1)))) + 1)))) 65521), h) := by
  refine (congrArg asI (if_pos rfl)).trans ?_
  show asI (Lim 129 0 [some (.inl x0), some (.inl x1), none, none] [] h) = _
  refine A_ldc2 d_129_0 kJ_5_239 ?_
  refine A_iload_n d_129_3 rfl ?_
  refine A_i2l d_129_4 ?_
  refine A_lmul d_129_5 ?_
  refine A_ldc2 d_129_6 kJ_5_241 ?_
  refine A_iload_n d_129_9 rfl ?_
  refine A_i2l d_129_10 ?_
  refine A_lmul d_129_11 ?_
  refine A_ladd d_129_12 ?_
  refine A_lconst d_129_13 (x := 1) rfl ?_
  refine A_ladd d_129_14 ?_
  refine A_lstore_n d_129_15 rfl ?_
  refine A_lload_n d_129_16 rfl ?_
  refine A_lload_n d_129_17 rfl ?_
  refine A_lmul d_129_18 ?_
  refine A_ldc2 d_129_19 kJ_5_243 ?_
  refine A_lrem d_129_22 (by decide) ?_
  refine A_l2i d_129_23 ?_
  exact A_ireti rfl d_129_24
set_option maxRecDepth 20000 in
theorem q_Tb_change_19 (a0 : Nat) (x1 : Int) (x2 : Int) (s0 : Int) (h : mH) : B_Tb_change_19 a0 x1 x2 s0 h =
  (gfd 5 2 h a0).bind fun v21 =>
  (F_Pg_size v21.toNat s0 h).bind fun q25 =>
  if 0 < q25.1 then
    ((aln q25.2 3).bind fun v46 =>
    (nz v46).bind fun _ =>
    (ald 10 q25.2 3 (Int.tmod (w32 (Int.tdiv x1 64)) v46)).bind fun v48 =>
    if v48 ≠ 1 then
      (if v48 = 6 then
        (B_Tb_change_95 a0 x1 x2 s0 q25.1 v48 (Int.tmod (w32 (Int.tdiv x1 512)) 4) (Int.tmod (w32 (Int.tdiv x1 2048)) 4) q25.2)
      else
        (if v48 ≠ 7 then
          (B_Tb_change_98 a0 x1 x2 s0 q25.1 v48 (Int.tmod (w32 (Int.tdiv x1 512)) 4) (Int.tmod (w32 (Int.tdiv x1 2048)) 4) q25.2)
        else
          (B_Tb_change_95 a0 x1 x2 s0 q25.1 v48 (Int.tmod (w32 (Int.tdiv x1 512)) 4) (Int.tmod (w32 (Int.tdiv x1 2048)) 4) q25.2)))
    else
      (B_Tb_change_98 a0 x1 x2 s0 q25.1 v48 (Int.tmod (w32 (Int.tdiv x1 512)) 4) 1 q25.2))
  else
    (some q25.2) := by
  unfold B_Tb_change_19
  refine A_istore_n d_130_19 rfl ?_
  refine A_aload_n d_130_20 rfl ?_
  refine A_getfA rfl d_130_21 kF_5_23 (fun v21 => ?_)
  refine A_iload_n d_130_24 rfl ?_
  refine A_call (t := 73) (way := 0) rfl d_130_25 rfl (cl kI_5_134 rfl) rfl (by decide) rfl (fun q25 => ?_)
  refine A_istore d_130_28 rfl ?_
  refine A_iload d_130_30 rfl ?_
  refine A_gt0 (t := 36) d_130_32 (by decide) ?_ ?_
  · refine A_gets d_130_36 kS_5_245 ?_
    refine A_iload_n d_130_39 rfl ?_
    refine A_bipush d_130_40 (by decide) ?_
    refine A_idiv d_130_42 (by decide) ?_
    refine A_gets d_130_43 kS_5_245 ?_
    refine A_alen rfl d_130_46 (fun v46 => ?_)
    refine A_iremO rfl d_130_47 ?_
    refine A_iald rfl d_130_48 (fun v48 => ?_)
    refine A_istore d_130_49 rfl ?_
    refine A_iload_n d_130_51 rfl ?_
    refine A_sipush d_130_52 (by decide) ?_
    refine A_idiv d_130_55 (by decide) ?_
    refine A_iconst d_130_56 (by decide) ?_
    refine A_irem d_130_57 (by decide) ?_
    refine A_istore d_130_58 rfl ?_
    refine A_iload_n d_130_60 rfl ?_
    refine A_sipush d_130_61 (by decide) ?_
    refine A_idiv d_130_64 (by decide) ?_
    refine A_iconst d_130_65 (by decide) ?_
    refine A_irem d_130_66 (by decide) ?_
    refine A_istore d_130_67 rfl ?_
    refine A_iload d_130_69 rfl ?_
    refine A_iconst d_130_71 (by decide) ?_
    refine A_ne (t := 81) d_130_72 (by decide) ?_ ?_
    · refine A_iload d_130_81 rfl ?_
      refine A_bipush d_130_83 (by decide) ?_
      refine A_eq (t := 95) d_130_85 (by decide) ?_ ?_
      · exact rfl
      · refine A_iload d_130_88 rfl ?_
        refine A_bipush d_130_90 (by decide) ?_
        refine A_ne (t := 98) d_130_92 (by decide) ?_ ?_
        · exact rfl
        · exact rfl
    · refine A_iconst d_130_75 (by decide) ?_
      refine A_istore d_130_76 rfl ?_
      refine A_goto (t := 98) d_130_78 (by decide) ?_
      exact rfl
  · exact A_ret rfl d_130_35
set_option maxRecDepth 20000 in
theorem q_Tb_change_95 (a0 : Nat) (x1 : Int) (x2 : Int) (x3 : Int) (x4 : Int) (x5 : Int) (x6 : Int) (x7 : Int) (h : mH) : B_Tb_change_95 a0 x1 x2 x3 x4 x5 x6 x7 h =
  B_Tb_change_98 a0 x1 x2 x3 x4 x5 x6 0 h := by
  unfold B_Tb_change_95
  refine A_iconst d_130_95 (by decide) ?_
  refine A_istore d_130_96 rfl ?_
  exact rfl
set_option maxRecDepth 20000 in
theorem q_Tb_change_98 (a0 : Nat) (x1 : Int) (x2 : Int) (x3 : Int) (x4 : Int) (x5 : Int) (x6 : Int) (x7 : Int) (h : mH) : B_Tb_change_98 a0 x1 x2 x3 x4 x5 x6 x7 h =
  (gfd 5 2 h a0).bind fun v99 =>
  (nz x4).bind fun _ =>
  (F_Pg_setInstruction v99.toNat x3 (Int.tmod (w32 (Int.tdiv x1 8)) x4) x5 x6 x7 0 h).bind fun h117 =>
  some h117 := by
  unfold B_Tb_change_98
  refine A_aload_n d_130_98 rfl ?_
  refine A_getfA rfl d_130_99 kF_5_23 (fun v99 => ?_)
  refine A_iload_n d_130_102 rfl ?_
  refine A_iload_n d_130_103 rfl ?_
  refine A_bipush d_130_104 (by decide) ?_
  refine A_idiv d_130_106 (by decide) ?_
  refine A_iload d_130_107 rfl ?_
  refine A_iremO rfl d_130_109 ?_
  refine A_iload d_130_110 rfl ?_
  refine A_iload d_130_112 rfl ?_
  refine A_iload d_130_114 rfl ?_
  refine A_iconst d_130_116 (by decide) ?_
  refine A_callU (t := 75) (way := 0) rfl d_130_117 rfl (cl kI_5_130 rfl) rfl rfl rfl (fun h117 => ?_)
  exact A_ret rfl d_130_120
set_option maxRecDepth 20000 in
theorem q_Tb_change (a0 : Nat) (x1 : Int) (h : mH) (ho : isO h a0 5 = true) : F_Tb_change a0 x1 h =
  (gfd 5 2 h a0).bind fun v1 =>
  (F_Pg_labels v1.toNat h).bind fun q4 =>
  if q4.1 ≤ 0 then
    (B_Tb_change_19 a0 x1 q4.1 0 q4.2)
  else
    ((nz q4.1).bind fun _ =>
    B_Tb_change_19 a0 x1 q4.1 (Int.tmod x1 q4.1) q4.2) := by
  refine (congrArg asU (if_pos ho)).trans ?_
  show asU (Lim 130 0 [some (.inr (.inr a0)), some (.inl x1), none, none, none, none, none, none] [] h) = _
  refine A_aload_n d_130_0 rfl ?_
  refine A_getfA rfl d_130_1 kF_5_23 (fun v1 => ?_)
  refine A_call (t := 53) (way := 0) rfl d_130_4 rfl (cl kI_5_92 rfl) rfl (by decide) rfl (fun q4 => ?_)
  refine A_istore_n d_130_7 rfl ?_
  refine A_iload_n d_130_8 rfl ?_
  refine A_le0 (t := 18) d_130_9 (by decide) ?_ ?_
  · refine A_iconst d_130_18 (by decide) ?_
    exact rfl
  · refine A_iload_n d_130_12 rfl ?_
    refine A_iload_n d_130_13 rfl ?_
    refine A_iremO rfl d_130_14 ?_
    refine A_goto (t := 19) d_130_15 (by decide) ?_
    exact rfl
set_option maxRecDepth 20000 in
theorem q_Tb_keep (a0 : Nat) (h : mH) (ho : isO h a0 5 = true) : F_Tb_keep a0 h =
  (gfd 5 6 h a0).bind fun v1 =>
  (gfd 3 2 h v1.toNat).bind fun v4 =>
  if v4 < 2 then
    ((gfd 5 6 h a0).bind fun v15 =>
    (gfd 5 1 h a0).bind fun v19 =>
    (gfd 2 0 h v19.toNat).bind fun v22 =>
    (F_Sh_hold v15.toNat v22.toNat h).bind fun h25 =>
    (gfd 5 6 h25 a0).bind fun v29 =>
    (gfd 3 2 h25 v29.toNat).bind fun v32 =>
    some (v32, h25))
  else
    (some ((-3), h)) := by
  refine (congrArg asI (if_pos ho)).trans ?_
  show asI (Lim 131 0 [some (.inr (.inr a0))] [] h) = _
  refine A_aload_n d_131_0 rfl ?_
  refine A_getfA rfl d_131_1 kF_5_49 (fun v1 => ?_)
  refine A_getfI rfl d_131_4 kF_5_160 (by decide) (fun v4 => ?_)
  refine A_iconst d_131_7 (by decide) ?_
  refine A_lt (t := 14) d_131_8 (by decide) ?_ ?_
  · refine A_aload_n d_131_14 rfl ?_
    refine A_getfA rfl d_131_15 kF_5_49 (fun v15 => ?_)
    refine A_aload_n d_131_18 rfl ?_
    refine A_getfA rfl d_131_19 kF_5_19 (fun v19 => ?_)
    refine A_getfA rfl d_131_22 kF_5_74 (fun v22 => ?_)
    refine A_callU (t := 88) (way := 0) rfl d_131_25 rfl (cl kI_5_127 rfl) rfl rfl rfl (fun h25 => ?_)
    refine A_aload_n d_131_28 rfl ?_
    refine A_getfA rfl d_131_29 kF_5_49 (fun v29 => ?_)
    refine A_getfI rfl d_131_32 kF_5_160 (by decide) (fun v32 => ?_)
    exact A_ireti rfl d_131_35
  · refine A_bipush d_131_11 (by decide) ?_
    exact A_ireti rfl d_131_13
set_option maxRecDepth 20000 in
theorem q_Tb_back (a0 : Nat) (h : mH) (ho : isO h a0 5 = true) : F_Tb_back a0 h =
  (gfd 5 6 h a0).bind fun v1 =>
  (gfd 3 2 h v1.toNat).bind fun v4 =>
  if v4 ≠ 0 then
    ((gfd 5 6 h a0).bind fun v14 =>
    (gfd 5 1 h a0).bind fun v18 =>
    (F_Sh_giveBack v14.toNat v18.toNat h).bind fun h21 =>
    (gfd 5 5 h21 a0).bind fun v25 =>
    (F_Sh_clear v25.toNat h21).bind fun h28 =>
    (gfd 5 6 h28 a0).bind fun v32 =>
    (gfd 3 2 h28 v32.toNat).bind fun v35 =>
    some (v35, h28))
  else
    (some ((-2), h)) := by
  refine (congrArg asI (if_pos ho)).trans ?_
  show asI (Lim 132 0 [some (.inr (.inr a0))] [] h) = _
  refine A_aload_n d_132_0 rfl ?_
  refine A_getfA rfl d_132_1 kF_5_49 (fun v1 => ?_)
  refine A_getfI rfl d_132_4 kF_5_160 (by decide) (fun v4 => ?_)
  refine A_ne0 (t := 13) d_132_7 (by decide) ?_ ?_
  · refine A_aload_n d_132_13 rfl ?_
    refine A_getfA rfl d_132_14 kF_5_49 (fun v14 => ?_)
    refine A_aload_n d_132_17 rfl ?_
    refine A_getfA rfl d_132_18 kF_5_19 (fun v18 => ?_)
    refine A_callU (t := 89) (way := 0) rfl d_132_21 rfl (cl kI_5_163 rfl) rfl rfl rfl (fun h21 => ?_)
    refine A_aload_n d_132_24 rfl ?_
    refine A_getfA rfl d_132_25 kF_5_45 (fun v25 => ?_)
    refine A_callU (t := 87) (way := 0) rfl d_132_28 rfl (cl kI_5_89 rfl) rfl rfl rfl (fun h28 => ?_)
    refine A_aload_n d_132_31 rfl ?_
    refine A_getfA rfl d_132_32 kF_5_49 (fun v32 => ?_)
    refine A_getfI rfl d_132_35 kF_5_160 (by decide) (fun v35 => ?_)
    exact A_ireti rfl d_132_38
  · refine A_bipush d_132_10 (by decide) ?_
    exact A_ireti rfl d_132_12
set_option maxRecDepth 20000 in
theorem q_Tb_count (a0 : Nat) (x1 : Int) (h : mH) (ho : isO h a0 5 = true) : F_Tb_count a0 x1 h =
  if x1 = 0 then
    ((gfd 5 1 h a0).bind fun v45 =>
    (F_Pg_sorts v45.toNat h).bind fun q48 =>
    some (q48.1, q48.2))
  else if x1 = 1 then
    ((gfd 5 1 h a0).bind fun v53 =>
    (F_Pg_labels v53.toNat h).bind fun q56 =>
    some (q56.1, q56.2))
  else if x1 = 2 then
    ((gfd 5 1 h a0).bind fun v61 =>
    (F_Pg_instructions v61.toNat h).bind fun q64 =>
    some (q64.1, q64.2))
  else if x1 = 3 then
    ((gfd 5 3 h a0).bind fun v69 =>
    (gfd 5 1 h a0).bind fun v73 =>
    (F_Ck_take v69.toNat v73.toNat h).bind fun h76 =>
    (gfd 5 3 h76 a0).bind fun v80 =>
    (F_Ck_sureBits v80.toNat h76).bind fun q83 =>
    (F_Ig_bitCount q83.1 q83.2).bind fun q86 =>
    some (q86.1, q86.2))
  else if x1 = 4 then
    ((gfd 5 5 h a0).bind fun v91 =>
    (gfd 3 2 h v91.toNat).bind fun v94 =>
    some (v94, h))
  else if x1 = 5 then
    ((gfd 5 6 h a0).bind fun v99 =>
    (gfd 3 2 h v99.toNat).bind fun v102 =>
    some (v102, h))
  else if x1 = 6 then
    ((gfd 5 0 h a0).bind fun v107 =>
    (gfd 4 2 h v107.toNat).bind fun v110 =>
    some (v110, h))
  else (some ((-1), h)) := by
  refine (congrArg asI (if_pos ho)).trans ?_
  show asI (Lim 133 0 [some (.inr (.inr a0)), some (.inl x1)] [] h) = _
  refine A_iload_n d_133_0 rfl ?_
  refine A_if (fun e1_0 => ?_) (fun e1_0 => ?_)
  · refine A_tab (t := 44) d_133_1 (by rw [e1_0]; decide) ?_
    refine A_aload_n d_133_44 rfl ?_
    refine A_getfA rfl d_133_45 kF_5_19 (fun v45 => ?_)
    refine A_call (t := 52) (way := 0) rfl d_133_48 rfl (cl kI_5_248 rfl) rfl (by decide) rfl (fun q48 => ?_)
    exact A_ireti rfl d_133_51
  refine A_if (fun e1_1 => ?_) (fun e1_1 => ?_)
  · refine A_tab (t := 52) d_133_1 (by rw [e1_1]; decide) ?_
    refine A_aload_n d_133_52 rfl ?_
    refine A_getfA rfl d_133_53 kF_5_19 (fun v53 => ?_)
    refine A_call (t := 53) (way := 0) rfl d_133_56 rfl (cl kI_5_92 rfl) rfl (by decide) rfl (fun q56 => ?_)
    exact A_ireti rfl d_133_59
  refine A_if (fun e1_2 => ?_) (fun e1_2 => ?_)
  · refine A_tab (t := 60) d_133_1 (by rw [e1_2]; decide) ?_
    refine A_aload_n d_133_60 rfl ?_
    refine A_getfA rfl d_133_61 kF_5_19 (fun v61 => ?_)
    refine A_call (t := 78) (way := 0) rfl d_133_64 rfl (cl kI_5_251 rfl) rfl (by decide) rfl (fun q64 => ?_)
    exact A_ireti rfl d_133_67
  refine A_if (fun e1_3 => ?_) (fun e1_3 => ?_)
  · refine A_tab (t := 68) d_133_1 (by rw [e1_3]; decide) ?_
    refine A_aload_n d_133_68 rfl ?_
    refine A_getfA rfl d_133_69 kF_5_29 (fun v69 => ?_)
    refine A_aload_n d_133_72 rfl ?_
    refine A_getfA rfl d_133_73 kF_5_19 (fun v73 => ?_)
    refine A_callU (t := 1) (way := 0) rfl d_133_76 rfl (cl kI_5_167 rfl) rfl rfl rfl (fun h76 => ?_)
    refine A_aload_n d_133_79 rfl ?_
    refine A_getfA rfl d_133_80 kF_5_29 (fun v80 => ?_)
    refine A_call (t := 13) (way := 0) rfl d_133_83 rfl (cl kI_5_191 rfl) rfl (by decide) rfl (fun q83 => ?_)
    refine A_call (t := 222) (way := 2) rfl d_133_86 rfl (cl kI_5_234 rfl) rfl (by decide) rfl (fun q86 => ?_)
    exact A_ireti rfl d_133_89
  refine A_if (fun e1_4 => ?_) (fun e1_4 => ?_)
  · refine A_tab (t := 90) d_133_1 (by rw [e1_4]; decide) ?_
    refine A_aload_n d_133_90 rfl ?_
    refine A_getfA rfl d_133_91 kF_5_45 (fun v91 => ?_)
    refine A_getfI rfl d_133_94 kF_5_160 (by decide) (fun v94 => ?_)
    exact A_ireti rfl d_133_97
  refine A_if (fun e1_5 => ?_) (fun e1_5 => ?_)
  · refine A_tab (t := 98) d_133_1 (by rw [e1_5]; decide) ?_
    refine A_aload_n d_133_98 rfl ?_
    refine A_getfA rfl d_133_99 kF_5_49 (fun v99 => ?_)
    refine A_getfI rfl d_133_102 kF_5_160 (by decide) (fun v102 => ?_)
    exact A_ireti rfl d_133_105
  refine A_if (fun e1_6 => ?_) (fun e1_6 => ?_)
  · refine A_tab (t := 106) d_133_1 (by rw [e1_6]; decide) ?_
    refine A_aload_n d_133_106 rfl ?_
    refine A_getfA rfl d_133_107 kF_5_10 (fun v107 => ?_)
    refine A_getfI rfl d_133_110 kF_5_82 (by decide) (fun v110 => ?_)
    exact A_ireti rfl d_133_113
  refine A_tab (t := 114) d_133_1 (by rw [if_pos (by omega)]; decide) ?_
  refine A_iconst d_133_114 (by decide) ?_
  exact A_ireti rfl d_133_115
